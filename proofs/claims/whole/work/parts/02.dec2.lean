theorem dX11_feed_19 : decode cX11_feed 19 = .ok (.getfield 43, 3) := by decide +kernel
theorem dX11_feed_22 : decode cX11_feed 22 = .ok (.iload_n 1, 1) := by decide +kernel
theorem dX11_feed_23 : decode cX11_feed 23 = .ok (.invokevirtual 185, 3) := by decide +kernel
theorem dX11_feed_26 : decode cX11_feed 26 = .ok (.aload_n 0, 1) := by decide +kernel
theorem dX11_feed_27 : decode cX11_feed 27 = .ok (.getfield 43, 3) := by decide +kernel
theorem dX11_feed_30 : decode cX11_feed 30 = .ok (.iload_n 2, 1) := by decide +kernel
theorem dX11_feed_31 : decode cX11_feed 31 = .ok (.invokevirtual 185, 3) := by decide +kernel
theorem dX11_feed_34 : decode cX11_feed 34 = .ok (.aload_n 0, 1) := by decide +kernel
theorem dX11_feed_35 : decode cX11_feed 35 = .ok (.getfield 43, 3) := by decide +kernel
theorem dX11_feed_38 : decode cX11_feed 38 = .ok (.iload_n 3, 1) := by decide +kernel
theorem dX11_feed_39 : decode cX11_feed 39 = .ok (.invokevirtual 185, 3) := by decide +kernel
theorem dX11_feed_42 : decode cX11_feed 42 = .ok (.aload_n 0, 1) := by decide +kernel
theorem dX11_feed_43 : decode cX11_feed 43 = .ok (.getfield 43, 3) := by decide +kernel
theorem dX11_feed_46 : decode cX11_feed 46 = .ok (.iload 4, 2) := by decide +kernel
theorem dX11_feed_48 : decode cX11_feed 48 = .ok (.invokevirtual 185, 3) := by decide +kernel
theorem dX11_feed_51 : decode cX11_feed 51 = .ok (.aload_n 0, 1) := by decide +kernel
theorem dX11_feed_52 : decode cX11_feed 52 = .ok (.getfield 43, 3) := by decide +kernel
theorem dX11_feed_55 : decode cX11_feed 55 = .ok (.iload 5, 2) := by decide +kernel
theorem dX11_feed_57 : decode cX11_feed 57 = .ok (.invokevirtual 185, 3) := by decide +kernel
theorem dX11_feed_60 : decode cX11_feed 60 = .ok (.aload_n 0, 1) := by decide +kernel
theorem dX11_feed_61 : decode cX11_feed 61 = .ok (.getfield 43, 3) := by decide +kernel
theorem dX11_feed_64 : decode cX11_feed 64 = .ok (.getfield 182, 3) := by decide +kernel
theorem dX11_feed_67 : decode cX11_feed 67 = .ok (.ireturn, 1) := by decide +kernel
theorem dX11_river_0 : decode cX11_river 0 = .ok (.iload_n 1, 1) := by decide +kernel
theorem dX11_river_1 : decode cX11_river 1 = .ok (.ifCond .lt 14, 3) := by decide +kernel
theorem dX11_river_4 : decode cX11_river 4 = .ok (.iload_n 1, 1) := by decide +kernel
theorem dX11_river_5 : decode cX11_river 5 = .ok (.aload_n 0, 1) := by decide +kernel
theorem dX11_river_6 : decode cX11_river 6 = .ok (.getfield 43, 3) := by decide +kernel
theorem dX11_river_9 : decode cX11_river 9 = .ok (.getfield 182, 3) := by decide +kernel
theorem dX11_river_12 : decode cX11_river 12 = .ok (.if_icmp .le 9, 3) := by decide +kernel
theorem dX11_river_15 : decode cX11_river 15 = .ok (.aload_n 0, 1) := by decide +kernel
theorem dX11_river_16 : decode cX11_river 16 = .ok (.iconst 1, 1) := by decide +kernel
theorem dX11_river_17 : decode cX11_river 17 = .ok (.invokevirtual 162, 3) := by decide +kernel
theorem dX11_river_20 : decode cX11_river 20 = .ok (.ireturn, 1) := by decide +kernel
theorem dX11_river_21 : decode cX11_river 21 = .ok (.aload_n 0, 1) := by decide +kernel
theorem dX11_river_22 : decode cX11_river 22 = .ok (.getfield 52, 3) := by decide +kernel
theorem dX11_river_25 : decode cX11_river 25 = .ok (.iload_n 1, 1) := by decide +kernel
theorem dX11_river_26 : decode cX11_river 26 = .ok (.aload_n 0, 1) := by decide +kernel
theorem dX11_river_27 : decode cX11_river 27 = .ok (.getfield 29, 3) := by decide +kernel
theorem dX11_river_30 : decode cX11_river 30 = .ok (.invokevirtual 189, 3) := by decide +kernel
theorem dX11_river_33 : decode cX11_river 33 = .ok (.istore_n 2, 1) := by decide +kernel
theorem dX11_river_34 : decode cX11_river 34 = .ok (.aload_n 0, 1) := by decide +kernel
theorem dX11_river_35 : decode cX11_river 35 = .ok (.getfield 43, 3) := by decide +kernel
theorem dX11_river_38 : decode cX11_river 38 = .ok (.iconst 0, 1) := by decide +kernel
theorem dX11_river_39 : decode cX11_river 39 = .ok (.putfield 182, 3) := by decide +kernel
theorem dX11_river_42 : decode cX11_river 42 = .ok (.iload_n 2, 1) := by decide +kernel
theorem dX11_river_43 : decode cX11_river 43 = .ok (.ifCond .ne 10, 3) := by decide +kernel
theorem dX11_river_46 : decode cX11_river 46 = .ok (.aload_n 0, 1) := by decide +kernel
theorem dX11_river_47 : decode cX11_river 47 = .ok (.bipush 9, 2) := by decide +kernel
theorem dX11_river_49 : decode cX11_river 49 = .ok (.invokevirtual 162, 3) := by decide +kernel
theorem dX11_river_52 : decode cX11_river 52 = .ok (.ireturn, 1) := by decide +kernel
theorem dX11_river_53 : decode cX11_river 53 = .ok (.aload_n 0, 1) := by decide +kernel
theorem dX11_river_54 : decode cX11_river 54 = .ok (.getfield 18, 3) := by decide +kernel
theorem dX11_river_57 : decode cX11_river 57 = .ok (.getfield 58, 3) := by decide +kernel
theorem dX11_river_60 : decode cX11_river 60 = .ok (.astore_n 3, 1) := by decide +kernel
theorem dX11_river_61 : decode cX11_river 61 = .ok (.aload_n 0, 1) := by decide +kernel
theorem dX11_river_62 : decode cX11_river 62 = .ok (.getfield 18, 3) := by decide +kernel
theorem dX11_river_65 : decode cX11_river 65 = .ok (.aload_n 0, 1) := by decide +kernel
theorem dX11_river_66 : decode cX11_river 66 = .ok (.getfield 29, 3) := by decide +kernel
theorem dX11_river_69 : decode cX11_river 69 = .ok (.putfield 58, 3) := by decide +kernel
theorem dX11_river_72 : decode cX11_river 72 = .ok (.aload_n 0, 1) := by decide +kernel
theorem dX11_river_73 : decode cX11_river 73 = .ok (.aload_n 3, 1) := by decide +kernel
theorem dX11_river_74 : decode cX11_river 74 = .ok (.putfield 29, 3) := by decide +kernel
theorem dX11_river_77 : decode cX11_river 77 = .ok (.aload_n 0, 1) := by decide +kernel
theorem dX11_river_78 : decode cX11_river 78 = .ok (.invokevirtual 193, 3) := by decide +kernel
theorem dX11_river_81 : decode cX11_river 81 = .ok (.aload_n 0, 1) := by decide +kernel
theorem dX11_river_82 : decode cX11_river 82 = .ok (.aload_n 0, 1) := by decide +kernel
theorem dX11_river_83 : decode cX11_river 83 = .ok (.getfield 18, 3) := by decide +kernel
theorem dX11_river_86 : decode cX11_river 86 = .ok (.getfield 58, 3) := by decide +kernel
theorem dX11_river_89 : decode cX11_river 89 = .ok (.invokevirtual 196, 3) := by decide +kernel
theorem dX11_river_92 : decode cX11_river 92 = .ok (.invokevirtual 200, 3) := by decide +kernel
theorem dX11_river_95 : decode cX11_river 95 = .ok (.ireturn, 1) := by decide +kernel
theorem dX11_rule_0 : decode cX11_rule 0 = .ok (.iload_n 1, 1) := by decide +kernel
theorem dX11_rule_1 : decode cX11_rule 1 = .ok (.ifCond .lt 21, 3) := by decide +kernel
theorem dX11_rule_4 : decode cX11_rule 4 = .ok (.iload_n 1, 1) := by decide +kernel
theorem dX11_rule_5 : decode cX11_rule 5 = .ok (.aload_n 0, 1) := by decide +kernel
theorem dX11_rule_6 : decode cX11_rule 6 = .ok (.getfield 43, 3) := by decide +kernel
theorem dX11_rule_9 : decode cX11_rule 9 = .ok (.getfield 182, 3) := by decide +kernel
theorem dX11_rule_12 : decode cX11_rule 12 = .ok (.if_icmp .gt 10, 3) := by decide +kernel
theorem dX11_rule_15 : decode cX11_rule 15 = .ok (.iload_n 1, 1) := by decide +kernel
theorem dX11_rule_16 : decode cX11_rule 16 = .ok (.sipush 300, 3) := by decide +kernel
theorem dX11_rule_19 : decode cX11_rule 19 = .ok (.if_icmp .le 9, 3) := by decide +kernel
theorem dX11_rule_22 : decode cX11_rule 22 = .ok (.aload_n 0, 1) := by decide +kernel
theorem dX11_rule_23 : decode cX11_rule 23 = .ok (.iconst 1, 1) := by decide +kernel
theorem dX11_rule_24 : decode cX11_rule 24 = .ok (.invokevirtual 162, 3) := by decide +kernel
theorem dX11_rule_27 : decode cX11_rule 27 = .ok (.ireturn, 1) := by decide +kernel
theorem dX11_rule_28 : decode cX11_rule 28 = .ok (.aload_n 0, 1) := by decide +kernel
theorem dX11_rule_29 : decode cX11_rule 29 = .ok (.getfield 64, 3) := by decide +kernel
theorem dX11_rule_32 : decode cX11_rule 32 = .ok (.iload_n 1, 1) := by decide +kernel
theorem dX11_rule_33 : decode cX11_rule 33 = .ok (.aload_n 0, 1) := by decide +kernel
theorem dX11_rule_34 : decode cX11_rule 34 = .ok (.getfield 36, 3) := by decide +kernel
theorem dX11_rule_37 : decode cX11_rule 37 = .ok (.aload_n 0, 1) := by decide +kernel
theorem dX11_rule_38 : decode cX11_rule 38 = .ok (.getfield 18, 3) := by decide +kernel
theorem dX11_rule_41 : decode cX11_rule 41 = .ok (.getfield 58, 3) := by decide +kernel
theorem dX11_rule_44 : decode cX11_rule 44 = .ok (.invokevirtual 203, 3) := by decide +kernel
theorem dX11_rule_47 : decode cX11_rule 47 = .ok (.istore_n 2, 1) := by decide +kernel
theorem dX11_rule_48 : decode cX11_rule 48 = .ok (.aload_n 0, 1) := by decide +kernel
theorem dX11_rule_49 : decode cX11_rule 49 = .ok (.getfield 43, 3) := by decide +kernel
theorem dX11_rule_52 : decode cX11_rule 52 = .ok (.iconst 0, 1) := by decide +kernel
theorem dX11_rule_53 : decode cX11_rule 53 = .ok (.putfield 182, 3) := by decide +kernel
theorem dX11_rule_56 : decode cX11_rule 56 = .ok (.iload_n 2, 1) := by decide +kernel
theorem dX11_rule_57 : decode cX11_rule 57 = .ok (.ifCond .ne 10, 3) := by decide +kernel
theorem dX11_rule_60 : decode cX11_rule 60 = .ok (.aload_n 0, 1) := by decide +kernel
theorem dX11_rule_61 : decode cX11_rule 61 = .ok (.bipush 9, 2) := by decide +kernel
theorem dX11_rule_63 : decode cX11_rule 63 = .ok (.invokevirtual 162, 3) := by decide +kernel
theorem dX11_rule_66 : decode cX11_rule 66 = .ok (.ireturn, 1) := by decide +kernel
theorem dX11_rule_67 : decode cX11_rule 67 = .ok (.aload_n 0, 1) := by decide +kernel
theorem dX11_rule_68 : decode cX11_rule 68 = .ok (.getfield 18, 3) := by decide +kernel
theorem dX11_rule_71 : decode cX11_rule 71 = .ok (.getfield 206, 3) := by decide +kernel
theorem dX11_rule_74 : decode cX11_rule 74 = .ok (.astore_n 3, 1) := by decide +kernel
theorem dX11_rule_75 : decode cX11_rule 75 = .ok (.aload_n 0, 1) := by decide +kernel
theorem dX11_rule_76 : decode cX11_rule 76 = .ok (.getfield 18, 3) := by decide +kernel
theorem dX11_rule_79 : decode cX11_rule 79 = .ok (.aload_n 0, 1) := by decide +kernel
theorem dX11_rule_80 : decode cX11_rule 80 = .ok (.getfield 36, 3) := by decide +kernel
theorem dX11_rule_83 : decode cX11_rule 83 = .ok (.putfield 206, 3) := by decide +kernel
theorem dX11_rule_86 : decode cX11_rule 86 = .ok (.aload_n 0, 1) := by decide +kernel
theorem dX11_rule_87 : decode cX11_rule 87 = .ok (.aload_n 3, 1) := by decide +kernel
theorem dX11_rule_88 : decode cX11_rule 88 = .ok (.putfield 36, 3) := by decide +kernel
theorem dX11_rule_91 : decode cX11_rule 91 = .ok (.aload_n 0, 1) := by decide +kernel
theorem dX11_rule_92 : decode cX11_rule 92 = .ok (.aload_n 0, 1) := by decide +kernel
theorem dX11_rule_93 : decode cX11_rule 93 = .ok (.getfield 18, 3) := by decide +kernel
theorem dX11_rule_96 : decode cX11_rule 96 = .ok (.getfield 206, 3) := by decide +kernel
theorem dX11_rule_99 : decode cX11_rule 99 = .ok (.getfield 209, 3) := by decide +kernel
theorem dX11_rule_102 : decode cX11_rule 102 = .ok (.invokevirtual 200, 3) := by decide +kernel
theorem dX11_rule_105 : decode cX11_rule 105 = .ok (.ireturn, 1) := by decide +kernel
theorem dX11_fault_0 : decode cX11_fault 0 = .ok (.iload_n 1, 1) := by decide +kernel
theorem dX11_fault_1 : decode cX11_fault 1 = .ok (.ifCond .ne 11, 3) := by decide +kernel
theorem dX11_fault_4 : decode cX11_fault 4 = .ok (.aload_n 0, 1) := by decide +kernel
theorem dX11_fault_5 : decode cX11_fault 5 = .ok (.getfield 43, 3) := by decide +kernel
theorem dX11_fault_8 : decode cX11_fault 8 = .ok (.getfield 212, 3) := by decide +kernel
theorem dX11_fault_11 : decode cX11_fault 11 = .ok (.ireturn, 1) := by decide +kernel
theorem dX11_fault_12 : decode cX11_fault 12 = .ok (.iload_n 1, 1) := by decide +kernel
theorem dX11_fault_13 : decode cX11_fault 13 = .ok (.iconst 1, 1) := by decide +kernel
theorem dX11_fault_14 : decode cX11_fault 14 = .ok (.if_icmp .ne 13, 3) := by decide +kernel
theorem dX11_fault_17 : decode cX11_fault 17 = .ok (.aload_n 0, 1) := by decide +kernel
theorem dX11_fault_18 : decode cX11_fault 18 = .ok (.getfield 43, 3) := by decide +kernel
theorem dX11_fault_21 : decode cX11_fault 21 = .ok (.getfield 215, 3) := by decide +kernel
theorem dX11_fault_24 : decode cX11_fault 24 = .ok (.goto 4, 3) := by decide +kernel
theorem dX11_fault_27 : decode cX11_fault 27 = .ok (.iconst (-1), 1) := by decide +kernel
theorem dX11_fault_28 : decode cX11_fault 28 = .ok (.ireturn, 1) := by decide +kernel
theorem dX11_told_0 : decode cX11_told 0 = .ok (.aload_n 0, 1) := by decide +kernel
theorem dX11_told_1 : decode cX11_told 1 = .ok (.getfield 18, 3) := by decide +kernel
theorem dX11_told_4 : decode cX11_told 4 = .ok (.getfield 58, 3) := by decide +kernel
theorem dX11_told_7 : decode cX11_told 7 = .ok (.astore_n 2, 1) := by decide +kernel
theorem dX11_told_8 : decode cX11_told 8 = .ok (.iload_n 1, 1) := by decide +kernel
theorem dX11_told_9 : decode cX11_told 9 = .ok (.tableswitch 190 0 12 #[67, 76, 85, 94, 106, 118, 127, 136, 145, 154, 163, 172, 181], 67) := by decide +kernel
theorem dX11_told_76 : decode cX11_told 76 = .ok (.aload_n 0, 1) := by decide +kernel
theorem dX11_told_77 : decode cX11_told 77 = .ok (.aload_n 2, 1) := by decide +kernel
theorem dX11_told_78 : decode cX11_told 78 = .ok (.getfield 218, 3) := by decide +kernel
theorem dX11_told_81 : decode cX11_told 81 = .ok (.invokevirtual 200, 3) := by decide +kernel
theorem dX11_told_84 : decode cX11_told 84 = .ok (.ireturn, 1) := by decide +kernel
theorem dX11_told_85 : decode cX11_told 85 = .ok (.aload_n 0, 1) := by decide +kernel
theorem dX11_told_86 : decode cX11_told 86 = .ok (.aload_n 2, 1) := by decide +kernel
theorem dX11_told_87 : decode cX11_told 87 = .ok (.getfield 221, 3) := by decide +kernel
theorem dX11_told_90 : decode cX11_told 90 = .ok (.invokevirtual 200, 3) := by decide +kernel
theorem dX11_told_93 : decode cX11_told 93 = .ok (.ireturn, 1) := by decide +kernel
theorem dX11_told_94 : decode cX11_told 94 = .ok (.aload_n 0, 1) := by decide +kernel
theorem dX11_told_95 : decode cX11_told 95 = .ok (.aload_n 2, 1) := by decide +kernel
theorem dX11_told_96 : decode cX11_told 96 = .ok (.getfield 224, 3) := by decide +kernel
theorem dX11_told_99 : decode cX11_told 99 = .ok (.invokevirtual 200, 3) := by decide +kernel
theorem dX11_told_102 : decode cX11_told 102 = .ok (.ireturn, 1) := by decide +kernel
theorem dX11_told_103 : decode cX11_told 103 = .ok (.aload_n 0, 1) := by decide +kernel
theorem dX11_told_104 : decode cX11_told 104 = .ok (.aload_n 0, 1) := by decide +kernel
theorem dX11_told_105 : decode cX11_told 105 = .ok (.getfield 18, 3) := by decide +kernel
theorem dX11_told_108 : decode cX11_told 108 = .ok (.getfield 227, 3) := by decide +kernel
theorem dX11_told_111 : decode cX11_told 111 = .ok (.invokevirtual 200, 3) := by decide +kernel
theorem dX11_told_114 : decode cX11_told 114 = .ok (.ireturn, 1) := by decide +kernel
theorem dX11_told_115 : decode cX11_told 115 = .ok (.aload_n 0, 1) := by decide +kernel
theorem dX11_told_116 : decode cX11_told 116 = .ok (.aload_n 0, 1) := by decide +kernel
theorem dX11_told_117 : decode cX11_told 117 = .ok (.getfield 18, 3) := by decide +kernel
theorem dX11_told_120 : decode cX11_told 120 = .ok (.getfield 230, 3) := by decide +kernel
theorem dX11_told_123 : decode cX11_told 123 = .ok (.invokevirtual 200, 3) := by decide +kernel
theorem dX11_told_126 : decode cX11_told 126 = .ok (.ireturn, 1) := by decide +kernel
theorem dX11_told_127 : decode cX11_told 127 = .ok (.aload_n 0, 1) := by decide +kernel
theorem dX11_told_128 : decode cX11_told 128 = .ok (.aload_n 2, 1) := by decide +kernel
theorem dX11_told_129 : decode cX11_told 129 = .ok (.getfield 233, 3) := by decide +kernel
theorem dX11_told_132 : decode cX11_told 132 = .ok (.invokevirtual 200, 3) := by decide +kernel
theorem dX11_told_135 : decode cX11_told 135 = .ok (.ireturn, 1) := by decide +kernel
theorem dX11_told_136 : decode cX11_told 136 = .ok (.aload_n 0, 1) := by decide +kernel
theorem dX11_told_137 : decode cX11_told 137 = .ok (.aload_n 2, 1) := by decide +kernel
theorem dX11_told_138 : decode cX11_told 138 = .ok (.getfield 236, 3) := by decide +kernel
theorem dX11_told_141 : decode cX11_told 141 = .ok (.invokevirtual 200, 3) := by decide +kernel
theorem dX11_told_144 : decode cX11_told 144 = .ok (.ireturn, 1) := by decide +kernel
theorem dX11_told_145 : decode cX11_told 145 = .ok (.aload_n 0, 1) := by decide +kernel
theorem dX11_told_146 : decode cX11_told 146 = .ok (.aload_n 2, 1) := by decide +kernel
theorem dX11_told_147 : decode cX11_told 147 = .ok (.getfield 239, 3) := by decide +kernel
theorem dX11_told_150 : decode cX11_told 150 = .ok (.invokevirtual 200, 3) := by decide +kernel
theorem dX11_told_153 : decode cX11_told 153 = .ok (.ireturn, 1) := by decide +kernel
theorem dX11_told_154 : decode cX11_told 154 = .ok (.aload_n 0, 1) := by decide +kernel
theorem dX11_told_155 : decode cX11_told 155 = .ok (.aload_n 2, 1) := by decide +kernel
theorem dX11_told_156 : decode cX11_told 156 = .ok (.getfield 242, 3) := by decide +kernel
theorem dX11_told_159 : decode cX11_told 159 = .ok (.invokevirtual 200, 3) := by decide +kernel
theorem dX11_told_162 : decode cX11_told 162 = .ok (.ireturn, 1) := by decide +kernel
theorem dX11_told_163 : decode cX11_told 163 = .ok (.aload_n 0, 1) := by decide +kernel
theorem dX11_told_164 : decode cX11_told 164 = .ok (.aload_n 2, 1) := by decide +kernel
theorem dX11_told_165 : decode cX11_told 165 = .ok (.getfield 245, 3) := by decide +kernel
theorem dX11_told_168 : decode cX11_told 168 = .ok (.invokevirtual 200, 3) := by decide +kernel
theorem dX11_told_171 : decode cX11_told 171 = .ok (.ireturn, 1) := by decide +kernel
theorem dX11_told_172 : decode cX11_told 172 = .ok (.aload_n 0, 1) := by decide +kernel
theorem dX11_told_173 : decode cX11_told 173 = .ok (.aload_n 2, 1) := by decide +kernel
theorem dX11_told_174 : decode cX11_told 174 = .ok (.getfield 248, 3) := by decide +kernel
theorem dX11_told_177 : decode cX11_told 177 = .ok (.invokevirtual 200, 3) := by decide +kernel
theorem dX11_told_180 : decode cX11_told 180 = .ok (.ireturn, 1) := by decide +kernel
theorem dX11_told_181 : decode cX11_told 181 = .ok (.aload_n 0, 1) := by decide +kernel
theorem dX11_told_182 : decode cX11_told 182 = .ok (.aload_n 2, 1) := by decide +kernel
theorem dX11_told_183 : decode cX11_told 183 = .ok (.getfield 251, 3) := by decide +kernel
theorem dX11_told_186 : decode cX11_told 186 = .ok (.invokevirtual 200, 3) := by decide +kernel
theorem dX11_told_189 : decode cX11_told 189 = .ok (.ireturn, 1) := by decide +kernel
theorem dX11_told_190 : decode cX11_told 190 = .ok (.aload_n 0, 1) := by decide +kernel
theorem dX11_told_191 : decode cX11_told 191 = .ok (.aload_n 2, 1) := by decide +kernel
theorem dX11_told_192 : decode cX11_told 192 = .ok (.getfield 254, 3) := by decide +kernel
theorem dX11_told_195 : decode cX11_told 195 = .ok (.invokevirtual 200, 3) := by decide +kernel
theorem dX11_told_198 : decode cX11_told 198 = .ok (.ireturn, 1) := by decide +kernel
theorem dX11_told_199 : decode cX11_told 199 = .ok (.aload_n 0, 1) := by decide +kernel
theorem dX11_told_200 : decode cX11_told 200 = .ok (.iconst 1, 1) := by decide +kernel
theorem dX11_told_201 : decode cX11_told 201 = .ok (.invokevirtual 162, 3) := by decide +kernel
theorem dX11_told_204 : decode cX11_told 204 = .ok (.ireturn, 1) := by decide +kernel
theorem dX11_bar_0 : decode cX11_bar 0 = .ok (.aload_n 0, 1) := by decide +kernel
theorem dX11_bar_1 : decode cX11_bar 1 = .ok (.iload_n 1, 1) := by decide +kernel
theorem dX11_bar_2 : decode cX11_bar 2 = .ok (.invokevirtual 257, 3) := by decide +kernel
theorem dX11_bar_5 : decode cX11_bar 5 = .ok (.ifCond .eq 12, 3) := by decide +kernel
theorem dX11_bar_8 : decode cX11_bar 8 = .ok (.iload_n 2, 1) := by decide +kernel
theorem dX11_bar_9 : decode cX11_bar 9 = .ok (.ifCond .lt 8, 3) := by decide +kernel
theorem dX11_bar_12 : decode cX11_bar 12 = .ok (.iload_n 2, 1) := by decide +kernel
theorem dX11_bar_13 : decode cX11_bar 13 = .ok (.iconst 5, 1) := by decide +kernel
theorem dX11_bar_14 : decode cX11_bar 14 = .ok (.if_icmp .le 9, 3) := by decide +kernel
theorem dX11_bar_17 : decode cX11_bar 17 = .ok (.aload_n 0, 1) := by decide +kernel
theorem dX11_bar_18 : decode cX11_bar 18 = .ok (.iconst 1, 1) := by decide +kernel
theorem dX11_bar_19 : decode cX11_bar 19 = .ok (.invokevirtual 162, 3) := by decide +kernel
theorem dX11_bar_22 : decode cX11_bar 22 = .ok (.ireturn, 1) := by decide +kernel
theorem dX11_bar_23 : decode cX11_bar 23 = .ok (.aload_n 0, 1) := by decide +kernel
theorem dX11_bar_24 : decode cX11_bar 24 = .ok (.getfield 18, 3) := by decide +kernel
theorem dX11_bar_27 : decode cX11_bar 27 = .ok (.getfield 58, 3) := by decide +kernel
theorem dX11_bar_30 : decode cX11_bar 30 = .ok (.astore_n 3, 1) := by decide +kernel
theorem dX11_bar_31 : decode cX11_bar 31 = .ok (.iload_n 2, 1) := by decide +kernel
theorem dX11_bar_32 : decode cX11_bar 32 = .ok (.tableswitch 90 0 4 #[36, 47, 58, 69, 80], 36) := by decide +kernel
theorem dX11_bar_68 : decode cX11_bar 68 = .ok (.aload_n 0, 1) := by decide +kernel
theorem dX11_bar_69 : decode cX11_bar 69 = .ok (.aload_n 3, 1) := by decide +kernel
theorem dX11_bar_70 : decode cX11_bar 70 = .ok (.getfield 260, 3) := by decide +kernel
theorem dX11_bar_73 : decode cX11_bar 73 = .ok (.iload_n 1, 1) := by decide +kernel
theorem dX11_bar_74 : decode cX11_bar 74 = .ok (.iaload, 1) := by decide +kernel
theorem dX11_bar_75 : decode cX11_bar 75 = .ok (.invokevirtual 200, 3) := by decide +kernel
theorem dX11_bar_78 : decode cX11_bar 78 = .ok (.ireturn, 1) := by decide +kernel
theorem dX11_bar_79 : decode cX11_bar 79 = .ok (.aload_n 0, 1) := by decide +kernel
theorem dX11_bar_80 : decode cX11_bar 80 = .ok (.aload_n 3, 1) := by decide +kernel
theorem dX11_bar_81 : decode cX11_bar 81 = .ok (.getfield 263, 3) := by decide +kernel
theorem dX11_bar_84 : decode cX11_bar 84 = .ok (.iload_n 1, 1) := by decide +kernel
theorem dX11_bar_85 : decode cX11_bar 85 = .ok (.iaload, 1) := by decide +kernel
theorem dX11_bar_86 : decode cX11_bar 86 = .ok (.invokevirtual 200, 3) := by decide +kernel
theorem dX11_bar_89 : decode cX11_bar 89 = .ok (.ireturn, 1) := by decide +kernel
theorem dX11_bar_90 : decode cX11_bar 90 = .ok (.aload_n 0, 1) := by decide +kernel
theorem dX11_bar_91 : decode cX11_bar 91 = .ok (.aload_n 3, 1) := by decide +kernel
theorem dX11_bar_92 : decode cX11_bar 92 = .ok (.getfield 266, 3) := by decide +kernel
theorem dX11_bar_95 : decode cX11_bar 95 = .ok (.iload_n 1, 1) := by decide +kernel
theorem dX11_bar_96 : decode cX11_bar 96 = .ok (.iaload, 1) := by decide +kernel
theorem dX11_bar_97 : decode cX11_bar 97 = .ok (.invokevirtual 200, 3) := by decide +kernel
theorem dX11_bar_100 : decode cX11_bar 100 = .ok (.ireturn, 1) := by decide +kernel
theorem dX11_bar_101 : decode cX11_bar 101 = .ok (.aload_n 0, 1) := by decide +kernel
theorem dX11_bar_102 : decode cX11_bar 102 = .ok (.aload_n 3, 1) := by decide +kernel
theorem dX11_bar_103 : decode cX11_bar 103 = .ok (.getfield 269, 3) := by decide +kernel
theorem dX11_bar_106 : decode cX11_bar 106 = .ok (.iload_n 1, 1) := by decide +kernel
theorem dX11_bar_107 : decode cX11_bar 107 = .ok (.iaload, 1) := by decide +kernel
theorem dX11_bar_108 : decode cX11_bar 108 = .ok (.invokevirtual 200, 3) := by decide +kernel
theorem dX11_bar_111 : decode cX11_bar 111 = .ok (.ireturn, 1) := by decide +kernel
theorem dX11_bar_112 : decode cX11_bar 112 = .ok (.aload_n 0, 1) := by decide +kernel
theorem dX11_bar_113 : decode cX11_bar 113 = .ok (.aload_n 3, 1) := by decide +kernel
theorem dX11_bar_114 : decode cX11_bar 114 = .ok (.iload_n 1, 1) := by decide +kernel
theorem dX11_bar_115 : decode cX11_bar 115 = .ok (.invokevirtual 272, 3) := by decide +kernel
theorem dX11_bar_118 : decode cX11_bar 118 = .ok (.invokevirtual 200, 3) := by decide +kernel
theorem dX11_bar_121 : decode cX11_bar 121 = .ok (.ireturn, 1) := by decide +kernel
theorem dX11_bar_122 : decode cX11_bar 122 = .ok (.aload_n 3, 1) := by decide +kernel
theorem dX11_bar_123 : decode cX11_bar 123 = .ok (.getfield 275, 3) := by decide +kernel
theorem dX11_bar_126 : decode cX11_bar 126 = .ok (.iload_n 1, 1) := by decide +kernel
theorem dX11_bar_127 : decode cX11_bar 127 = .ok (.iaload, 1) := by decide +kernel
theorem dX11_bar_128 : decode cX11_bar 128 = .ok (.iconst (-1), 1) := by decide +kernel
theorem dX11_bar_129 : decode cX11_bar 129 = .ok (.if_icmp .ne 12, 3) := by decide +kernel
theorem dX11_bar_132 : decode cX11_bar 132 = .ok (.aload_n 0, 1) := by decide +kernel
theorem dX11_bar_133 : decode cX11_bar 133 = .ok (.bipush 6, 2) := by decide +kernel
theorem dX11_bar_135 : decode cX11_bar 135 = .ok (.invokevirtual 162, 3) := by decide +kernel
theorem dX11_bar_138 : decode cX11_bar 138 = .ok (.goto 13, 3) := by decide +kernel
theorem dX11_bar_141 : decode cX11_bar 141 = .ok (.aload_n 0, 1) := by decide +kernel
theorem dX11_bar_142 : decode cX11_bar 142 = .ok (.aload_n 3, 1) := by decide +kernel
theorem dX11_bar_143 : decode cX11_bar 143 = .ok (.getfield 275, 3) := by decide +kernel
theorem dX11_bar_146 : decode cX11_bar 146 = .ok (.iload_n 1, 1) := by decide +kernel
theorem dX11_bar_147 : decode cX11_bar 147 = .ok (.iaload, 1) := by decide +kernel
theorem dX11_bar_148 : decode cX11_bar 148 = .ok (.invokevirtual 200, 3) := by decide +kernel
theorem dX11_bar_151 : decode cX11_bar 151 = .ok (.ireturn, 1) := by decide +kernel
theorem dX11_barOf_0 : decode cX11_barOf 0 = .ok (.aload_n 0, 1) := by decide +kernel
theorem dX11_barOf_1 : decode cX11_barOf 1 = .ok (.iload_n 1, 1) := by decide +kernel
theorem dX11_barOf_2 : decode cX11_barOf 2 = .ok (.invokevirtual 278, 3) := by decide +kernel
theorem dX11_barOf_5 : decode cX11_barOf 5 = .ok (.ifCond .ne 9, 3) := by decide +kernel
theorem dX11_barOf_8 : decode cX11_barOf 8 = .ok (.aload_n 0, 1) := by decide +kernel
theorem dX11_barOf_9 : decode cX11_barOf 9 = .ok (.iconst 1, 1) := by decide +kernel
theorem dX11_barOf_10 : decode cX11_barOf 10 = .ok (.invokevirtual 162, 3) := by decide +kernel
theorem dX11_barOf_13 : decode cX11_barOf 13 = .ok (.ireturn, 1) := by decide +kernel
theorem dX11_barOf_14 : decode cX11_barOf 14 = .ok (.aload_n 0, 1) := by decide +kernel
theorem dX11_barOf_15 : decode cX11_barOf 15 = .ok (.getfield 18, 3) := by decide +kernel
theorem dX11_barOf_18 : decode cX11_barOf 18 = .ok (.getfield 58, 3) := by decide +kernel
theorem dX11_barOf_21 : decode cX11_barOf 21 = .ok (.getfield 281, 3) := by decide +kernel
theorem dX11_barOf_24 : decode cX11_barOf 24 = .ok (.iload_n 1, 1) := by decide +kernel
theorem dX11_barOf_25 : decode cX11_barOf 25 = .ok (.iaload, 1) := by decide +kernel
theorem dX11_barOf_26 : decode cX11_barOf 26 = .ok (.istore_n 2, 1) := by decide +kernel
theorem dX11_barOf_27 : decode cX11_barOf 27 = .ok (.iload_n 2, 1) := by decide +kernel
theorem dX11_barOf_28 : decode cX11_barOf 28 = .ok (.iconst (-1), 1) := by decide +kernel
theorem dX11_barOf_29 : decode cX11_barOf 29 = .ok (.if_icmp .ne 12, 3) := by decide +kernel
theorem dX11_barOf_32 : decode cX11_barOf 32 = .ok (.aload_n 0, 1) := by decide +kernel
theorem dX11_barOf_33 : decode cX11_barOf 33 = .ok (.bipush 6, 2) := by decide +kernel
theorem dX11_barOf_35 : decode cX11_barOf 35 = .ok (.invokevirtual 162, 3) := by decide +kernel
theorem dX11_barOf_38 : decode cX11_barOf 38 = .ok (.goto 8, 3) := by decide +kernel
theorem dX11_barOf_41 : decode cX11_barOf 41 = .ok (.aload_n 0, 1) := by decide +kernel
theorem dX11_barOf_42 : decode cX11_barOf 42 = .ok (.iload_n 2, 1) := by decide +kernel
theorem dX11_barOf_43 : decode cX11_barOf 43 = .ok (.invokevirtual 200, 3) := by decide +kernel
theorem dX11_barOf_46 : decode cX11_barOf 46 = .ok (.ireturn, 1) := by decide +kernel
theorem dX11_stage_0 : decode cX11_stage 0 = .ok (.iload_n 1, 1) := by decide +kernel
theorem dX11_stage_1 : decode cX11_stage 1 = .ok (.ifCond .lt 9, 3) := by decide +kernel
theorem dX11_stage_4 : decode cX11_stage 4 = .ok (.iload_n 1, 1) := by decide +kernel
theorem dX11_stage_5 : decode cX11_stage 5 = .ok (.bipush 99, 2) := by decide +kernel
theorem dX11_stage_7 : decode cX11_stage 7 = .ok (.if_icmp .le 9, 3) := by decide +kernel
theorem dX11_stage_10 : decode cX11_stage 10 = .ok (.aload_n 0, 1) := by decide +kernel
theorem dX11_stage_11 : decode cX11_stage 11 = .ok (.iconst 1, 1) := by decide +kernel
theorem dX11_stage_12 : decode cX11_stage 12 = .ok (.invokevirtual 162, 3) := by decide +kernel
theorem dX11_stage_15 : decode cX11_stage 15 = .ok (.ireturn, 1) := by decide +kernel
theorem dX11_stage_16 : decode cX11_stage 16 = .ok (.aload_n 0, 1) := by decide +kernel
theorem dX11_stage_17 : decode cX11_stage 17 = .ok (.aload_n 0, 1) := by decide +kernel
theorem dX11_stage_18 : decode cX11_stage 18 = .ok (.getfield 18, 3) := by decide +kernel
theorem dX11_stage_21 : decode cX11_stage 21 = .ok (.getfield 58, 3) := by decide +kernel
theorem dX11_stage_24 : decode cX11_stage 24 = .ok (.iload_n 1, 1) := by decide +kernel
theorem dX11_stage_25 : decode cX11_stage 25 = .ok (.invokevirtual 284, 3) := by decide +kernel
theorem dX11_stage_28 : decode cX11_stage 28 = .ok (.invokevirtual 200, 3) := by decide +kernel
theorem dX11_stage_31 : decode cX11_stage 31 = .ok (.ireturn, 1) := by decide +kernel
theorem dX11_depth_0 : decode cX11_depth 0 = .ok (.aload_n 0, 1) := by decide +kernel
theorem dX11_depth_1 : decode cX11_depth 1 = .ok (.iload_n 1, 1) := by decide +kernel
theorem dX11_depth_2 : decode cX11_depth 2 = .ok (.invokevirtual 278, 3) := by decide +kernel
theorem dX11_depth_5 : decode cX11_depth 5 = .ok (.ifCond .eq 11, 3) := by decide +kernel
theorem dX11_depth_8 : decode cX11_depth 8 = .ok (.aload_n 0, 1) := by decide +kernel
theorem dX11_depth_9 : decode cX11_depth 9 = .ok (.iload_n 2, 1) := by decide +kernel
theorem dX11_depth_10 : decode cX11_depth 10 = .ok (.invokevirtual 287, 3) := by decide +kernel
theorem dX11_depth_13 : decode cX11_depth 13 = .ok (.ifCond .ne 9, 3) := by decide +kernel
theorem dX11_depth_16 : decode cX11_depth 16 = .ok (.aload_n 0, 1) := by decide +kernel
theorem dX11_depth_17 : decode cX11_depth 17 = .ok (.iconst 1, 1) := by decide +kernel
theorem dX11_depth_18 : decode cX11_depth 18 = .ok (.invokevirtual 162, 3) := by decide +kernel
theorem dX11_depth_21 : decode cX11_depth 21 = .ok (.ireturn, 1) := by decide +kernel
theorem dX11_depth_22 : decode cX11_depth 22 = .ok (.aload_n 0, 1) := by decide +kernel
theorem dX11_depth_23 : decode cX11_depth 23 = .ok (.aload_n 0, 1) := by decide +kernel
theorem dX11_depth_24 : decode cX11_depth 24 = .ok (.getfield 18, 3) := by decide +kernel
theorem dX11_depth_27 : decode cX11_depth 27 = .ok (.getfield 58, 3) := by decide +kernel
theorem dX11_depth_30 : decode cX11_depth 30 = .ok (.aload_n 0, 1) := by decide +kernel
theorem dX11_depth_31 : decode cX11_depth 31 = .ok (.getfield 18, 3) := by decide +kernel
theorem dX11_depth_34 : decode cX11_depth 34 = .ok (.getfield 58, 3) := by decide +kernel
theorem dX11_depth_37 : decode cX11_depth 37 = .ok (.aload_n 0, 1) := by decide +kernel
theorem dX11_depth_38 : decode cX11_depth 38 = .ok (.getfield 18, 3) := by decide +kernel
theorem dX11_depth_41 : decode cX11_depth 41 = .ok (.getfield 227, 3) := by decide +kernel
theorem dX11_depth_44 : decode cX11_depth 44 = .ok (.invokevirtual 284, 3) := by decide +kernel
theorem dX11_depth_47 : decode cX11_depth 47 = .ok (.iload_n 1, 1) := by decide +kernel
theorem dX11_depth_48 : decode cX11_depth 48 = .ok (.iload_n 2, 1) := by decide +kernel
theorem dX11_depth_49 : decode cX11_depth 49 = .ok (.invokevirtual 290, 3) := by decide +kernel
theorem dX11_depth_52 : decode cX11_depth 52 = .ok (.invokevirtual 200, 3) := by decide +kernel
theorem dX11_depth_55 : decode cX11_depth 55 = .ok (.ireturn, 1) := by decide +kernel
theorem dX11_open_0 : decode cX11_open 0 = .ok (.aload_n 0, 1) := by decide +kernel
theorem dX11_open_1 : decode cX11_open 1 = .ok (.iload_n 1, 1) := by decide +kernel
theorem dX11_open_2 : decode cX11_open 2 = .ok (.invokevirtual 278, 3) := by decide +kernel
theorem dX11_open_5 : decode cX11_open 5 = .ok (.ifCond .ne 9, 3) := by decide +kernel
theorem dX11_open_8 : decode cX11_open 8 = .ok (.aload_n 0, 1) := by decide +kernel
theorem dX11_open_9 : decode cX11_open 9 = .ok (.iconst 1, 1) := by decide +kernel
theorem dX11_open_10 : decode cX11_open 10 = .ok (.invokevirtual 162, 3) := by decide +kernel
theorem dX11_open_13 : decode cX11_open 13 = .ok (.ireturn, 1) := by decide +kernel
theorem dX11_open_14 : decode cX11_open 14 = .ok (.aload_n 0, 1) := by decide +kernel
theorem dX11_open_15 : decode cX11_open 15 = .ok (.getfield 80, 3) := by decide +kernel
theorem dX11_open_18 : decode cX11_open 18 = .ok (.aload_n 0, 1) := by decide +kernel
theorem dX11_open_19 : decode cX11_open 19 = .ok (.getfield 18, 3) := by decide +kernel
theorem dX11_open_22 : decode cX11_open 22 = .ok (.getfield 58, 3) := by decide +kernel
theorem dX11_open_25 : decode cX11_open 25 = .ok (.aload_n 0, 1) := by decide +kernel
theorem dX11_open_26 : decode cX11_open 26 = .ok (.getfield 18, 3) := by decide +kernel
theorem dX11_open_29 : decode cX11_open 29 = .ok (.getfield 227, 3) := by decide +kernel
theorem dX11_open_32 : decode cX11_open 32 = .ok (.aload_n 0, 1) := by decide +kernel
theorem dX11_open_33 : decode cX11_open 33 = .ok (.getfield 18, 3) := by decide +kernel
theorem dX11_open_36 : decode cX11_open 36 = .ok (.getfield 230, 3) := by decide +kernel
theorem dX11_open_39 : decode cX11_open 39 = .ok (.invokevirtual 294, 3) := by decide +kernel
theorem dX11_open_42 : decode cX11_open 42 = .ok (.aload_n 0, 1) := by decide +kernel
theorem dX11_open_43 : decode cX11_open 43 = .ok (.aload_n 0, 1) := by decide +kernel
theorem dX11_open_44 : decode cX11_open 44 = .ok (.getfield 80, 3) := by decide +kernel
theorem dX11_open_47 : decode cX11_open 47 = .ok (.iload_n 1, 1) := by decide +kernel
theorem dX11_open_48 : decode cX11_open 48 = .ok (.invokevirtual 298, 3) := by decide +kernel
theorem dX11_open_51 : decode cX11_open 51 = .ok (.invokevirtual 200, 3) := by decide +kernel
theorem dX11_open_54 : decode cX11_open 54 = .ok (.ireturn, 1) := by decide +kernel
theorem dX11_part_0 : decode cX11_part 0 = .ok (.aload_n 0, 1) := by decide +kernel
theorem dX11_part_1 : decode cX11_part 1 = .ok (.iload_n 1, 1) := by decide +kernel
theorem dX11_part_2 : decode cX11_part 2 = .ok (.invokevirtual 287, 3) := by decide +kernel
theorem dX11_part_5 : decode cX11_part 5 = .ok (.ifCond .ne 9, 3) := by decide +kernel
theorem dX11_part_8 : decode cX11_part 8 = .ok (.aload_n 0, 1) := by decide +kernel
theorem dX11_part_9 : decode cX11_part 9 = .ok (.iconst 1, 1) := by decide +kernel
theorem dX11_part_10 : decode cX11_part 10 = .ok (.invokevirtual 162, 3) := by decide +kernel
theorem dX11_part_13 : decode cX11_part 13 = .ok (.ireturn, 1) := by decide +kernel
theorem dX11_part_14 : decode cX11_part 14 = .ok (.aload_n 0, 1) := by decide +kernel
theorem dX11_part_15 : decode cX11_part 15 = .ok (.aload_n 0, 1) := by decide +kernel
theorem dX11_part_16 : decode cX11_part 16 = .ok (.getfield 18, 3) := by decide +kernel
theorem dX11_part_19 : decode cX11_part 19 = .ok (.getfield 129, 3) := by decide +kernel
theorem dX11_part_22 : decode cX11_part 22 = .ok (.iload_n 1, 1) := by decide +kernel
theorem dX11_part_23 : decode cX11_part 23 = .ok (.laload, 1) := by decide +kernel
theorem dX11_part_24 : decode cX11_part 24 = .ok (.l2i, 1) := by decide +kernel
theorem dX11_part_25 : decode cX11_part 25 = .ok (.invokevirtual 200, 3) := by decide +kernel
theorem dX11_part_28 : decode cX11_part 28 = .ok (.ireturn, 1) := by decide +kernel
theorem dX11_there_0 : decode cX11_there 0 = .ok (.aload_n 0, 1) := by decide +kernel
theorem dX11_there_1 : decode cX11_there 1 = .ok (.iload_n 1, 1) := by decide +kernel
theorem dX11_there_2 : decode cX11_there 2 = .ok (.invokevirtual 257, 3) := by decide +kernel
theorem dX11_there_5 : decode cX11_there 5 = .ok (.ifCond .ne 9, 3) := by decide +kernel
theorem dX11_there_8 : decode cX11_there 8 = .ok (.aload_n 0, 1) := by decide +kernel
theorem dX11_there_9 : decode cX11_there 9 = .ok (.iconst 1, 1) := by decide +kernel
theorem dX11_there_10 : decode cX11_there 10 = .ok (.invokevirtual 140, 3) := by decide +kernel
theorem dX11_there_13 : decode cX11_there 13 = .ok (.ireturn, 1) := by decide +kernel
theorem dX11_there_14 : decode cX11_there 14 = .ok (.aload_n 0, 1) := by decide +kernel
theorem dX11_there_15 : decode cX11_there 15 = .ok (.aload_n 0, 1) := by decide +kernel
theorem dX11_there_16 : decode cX11_there 16 = .ok (.getfield 71, 3) := by decide +kernel
theorem dX11_there_19 : decode cX11_there 19 = .ok (.aload_n 0, 1) := by decide +kernel
theorem dX11_there_20 : decode cX11_there 20 = .ok (.getfield 18, 3) := by decide +kernel
theorem dX11_there_23 : decode cX11_there 23 = .ok (.getfield 129, 3) := by decide +kernel
theorem dX11_there_26 : decode cX11_there 26 = .ok (.iload_n 1, 1) := by decide +kernel
theorem dX11_there_27 : decode cX11_there 27 = .ok (.invokevirtual 301, 3) := by decide +kernel
theorem dX11_there_30 : decode cX11_there 30 = .ok (.ldc2_w 305, 3) := by decide +kernel
theorem dX11_there_33 : decode cX11_there 33 = .ok (.invokevirtual 307, 3) := by decide +kernel
theorem dX11_there_36 : decode cX11_there 36 = .ok (.ireturn, 1) := by decide +kernel
theorem dX11_chance_0 : decode cX11_chance 0 = .ok (.aload_n 0, 1) := by decide +kernel
theorem dX11_chance_1 : decode cX11_chance 1 = .ok (.iload_n 1, 1) := by decide +kernel
theorem dX11_chance_2 : decode cX11_chance 2 = .ok (.invokevirtual 287, 3) := by decide +kernel
theorem dX11_chance_5 : decode cX11_chance 5 = .ok (.ifCond .ne 9, 3) := by decide +kernel
theorem dX11_chance_8 : decode cX11_chance 8 = .ok (.aload_n 0, 1) := by decide +kernel
theorem dX11_chance_9 : decode cX11_chance 9 = .ok (.iconst 1, 1) := by decide +kernel
theorem dX11_chance_10 : decode cX11_chance 10 = .ok (.invokevirtual 140, 3) := by decide +kernel
theorem dX11_chance_13 : decode cX11_chance 13 = .ok (.ireturn, 1) := by decide +kernel
theorem dX11_chance_14 : decode cX11_chance 14 = .ok (.aload_n 0, 1) := by decide +kernel
theorem dX11_chance_15 : decode cX11_chance 15 = .ok (.aload_n 0, 1) := by decide +kernel
theorem dX11_chance_16 : decode cX11_chance 16 = .ok (.getfield 71, 3) := by decide +kernel
theorem dX11_chance_19 : decode cX11_chance 19 = .ok (.aload_n 0, 1) := by decide +kernel
theorem dX11_chance_20 : decode cX11_chance 20 = .ok (.getfield 18, 3) := by decide +kernel
theorem dX11_chance_23 : decode cX11_chance 23 = .ok (.getfield 129, 3) := by decide +kernel
theorem dX11_chance_26 : decode cX11_chance 26 = .ok (.iload_n 1, 1) := by decide +kernel
theorem dX11_chance_27 : decode cX11_chance 27 = .ok (.invokevirtual 311, 3) := by decide +kernel
theorem dX11_chance_30 : decode cX11_chance 30 = .ok (.ldc2_w 305, 3) := by decide +kernel
theorem dX11_chance_33 : decode cX11_chance 33 = .ok (.invokevirtual 307, 3) := by decide +kernel
theorem dX11_chance_36 : decode cX11_chance 36 = .ok (.ireturn, 1) := by decide +kernel
theorem dX11_pass_0 : decode cX11_pass 0 = .ok (.iload_n 1, 1) := by decide +kernel
theorem dX11_pass_1 : decode cX11_pass 1 = .ok (.iconst 1, 1) := by decide +kernel
theorem dX11_pass_2 : decode cX11_pass 2 = .ok (.if_icmp .lt 9, 3) := by decide +kernel
theorem dX11_pass_5 : decode cX11_pass 5 = .ok (.iload_n 1, 1) := by decide +kernel
theorem dX11_pass_6 : decode cX11_pass 6 = .ok (.bipush 9, 2) := by decide +kernel
theorem dX11_pass_8 : decode cX11_pass 8 = .ok (.if_icmp .le 9, 3) := by decide +kernel
theorem dX11_pass_11 : decode cX11_pass 11 = .ok (.aload_n 0, 1) := by decide +kernel
theorem dX11_pass_12 : decode cX11_pass 12 = .ok (.iconst 1, 1) := by decide +kernel
theorem dX11_pass_13 : decode cX11_pass 13 = .ok (.invokevirtual 162, 3) := by decide +kernel
theorem dX11_pass_16 : decode cX11_pass 16 = .ok (.ireturn, 1) := by decide +kernel
theorem dX11_pass_17 : decode cX11_pass 17 = .ok (.aload_n 0, 1) := by decide +kernel
theorem dX11_pass_18 : decode cX11_pass 18 = .ok (.getfield 18, 3) := by decide +kernel
theorem dX11_pass_21 : decode cX11_pass 21 = .ok (.getfield 227, 3) := by decide +kernel
theorem dX11_pass_24 : decode cX11_pass 24 = .ok (.iload_n 1, 1) := by decide +kernel
theorem dX11_pass_25 : decode cX11_pass 25 = .ok (.iadd, 1) := by decide +kernel
theorem dX11_pass_26 : decode cX11_pass 26 = .ok (.bipush 99, 2) := by decide +kernel
theorem dX11_pass_28 : decode cX11_pass 28 = .ok (.if_icmp .le 9, 3) := by decide +kernel
theorem dX11_pass_31 : decode cX11_pass 31 = .ok (.aload_n 0, 1) := by decide +kernel
theorem dX11_pass_32 : decode cX11_pass 32 = .ok (.iconst 4, 1) := by decide +kernel
theorem dX11_pass_33 : decode cX11_pass 33 = .ok (.invokevirtual 162, 3) := by decide +kernel
theorem dX11_pass_36 : decode cX11_pass 36 = .ok (.ireturn, 1) := by decide +kernel
theorem dX11_pass_37 : decode cX11_pass 37 = .ok (.iconst 0, 1) := by decide +kernel
theorem dX11_pass_38 : decode cX11_pass 38 = .ok (.istore_n 2, 1) := by decide +kernel
theorem dX11_pass_39 : decode cX11_pass 39 = .ok (.iload_n 2, 1) := by decide +kernel
theorem dX11_pass_40 : decode cX11_pass 40 = .ok (.iload_n 1, 1) := by decide +kernel
theorem dX11_pass_41 : decode cX11_pass 41 = .ok (.if_icmp .ge 32, 3) := by decide +kernel
theorem dX11_pass_44 : decode cX11_pass 44 = .ok (.aload_n 0, 1) := by decide +kernel
theorem dX11_pass_45 : decode cX11_pass 45 = .ok (.getfield 71, 3) := by decide +kernel
theorem dX11_pass_48 : decode cX11_pass 48 = .ok (.aload_n 0, 1) := by decide +kernel
theorem dX11_pass_49 : decode cX11_pass 49 = .ok (.getfield 18, 3) := by decide +kernel
theorem dX11_pass_52 : decode cX11_pass 52 = .ok (.getfield 58, 3) := by decide +kernel
theorem dX11_pass_55 : decode cX11_pass 55 = .ok (.aload_n 0, 1) := by decide +kernel
theorem dX11_pass_56 : decode cX11_pass 56 = .ok (.getfield 18, 3) := by decide +kernel
theorem dX11_pass_59 : decode cX11_pass 59 = .ok (.getfield 129, 3) := by decide +kernel
theorem dX11_pass_62 : decode cX11_pass 62 = .ok (.iconst (-1), 1) := by decide +kernel
theorem dX11_pass_63 : decode cX11_pass 63 = .ok (.iconst 0, 1) := by decide +kernel
theorem dX11_pass_64 : decode cX11_pass 64 = .ok (.invokevirtual 314, 3) := by decide +kernel
theorem dX11_pass_67 : decode cX11_pass 67 = .ok (.iinc 2 1, 3) := by decide +kernel
theorem dX11_pass_70 : decode cX11_pass 70 = .ok (.goto (-31), 3) := by decide +kernel
theorem dX11_pass_73 : decode cX11_pass 73 = .ok (.aload_n 0, 1) := by decide +kernel
theorem dX11_pass_74 : decode cX11_pass 74 = .ok (.getfield 18, 3) := by decide +kernel
theorem dX11_pass_77 : decode cX11_pass 77 = .ok (.dup, 1) := by decide +kernel
theorem dX11_pass_78 : decode cX11_pass 78 = .ok (.getfield 227, 3) := by decide +kernel
theorem dX11_pass_81 : decode cX11_pass 81 = .ok (.iload_n 1, 1) := by decide +kernel
theorem dX11_pass_82 : decode cX11_pass 82 = .ok (.iadd, 1) := by decide +kernel
theorem dX11_pass_83 : decode cX11_pass 83 = .ok (.putfield 227, 3) := by decide +kernel
theorem dX11_pass_86 : decode cX11_pass 86 = .ok (.aload_n 0, 1) := by decide +kernel
theorem dX11_pass_87 : decode cX11_pass 87 = .ok (.aload_n 0, 1) := by decide +kernel
theorem dX11_pass_88 : decode cX11_pass 88 = .ok (.getfield 18, 3) := by decide +kernel
theorem dX11_pass_91 : decode cX11_pass 91 = .ok (.getfield 227, 3) := by decide +kernel
theorem dX11_pass_94 : decode cX11_pass 94 = .ok (.invokevirtual 200, 3) := by decide +kernel
theorem dX11_pass_97 : decode cX11_pass 97 = .ok (.ireturn, 1) := by decide +kernel
theorem dX11_sound_0 : decode cX11_sound 0 = .ok (.aload_n 0, 1) := by decide +kernel
theorem dX11_sound_1 : decode cX11_sound 1 = .ok (.iload_n 1, 1) := by decide +kernel
theorem dX11_sound_2 : decode cX11_sound 2 = .ok (.invokevirtual 278, 3) := by decide +kernel
theorem dX11_sound_5 : decode cX11_sound 5 = .ok (.ifCond .eq 15, 3) := by decide +kernel
theorem dX11_sound_8 : decode cX11_sound 8 = .ok (.iload_n 2, 1) := by decide +kernel
theorem dX11_sound_9 : decode cX11_sound 9 = .ok (.bipush (-9), 2) := by decide +kernel
theorem dX11_sound_11 : decode cX11_sound 11 = .ok (.if_icmp .lt 9, 3) := by decide +kernel
theorem dX11_sound_14 : decode cX11_sound 14 = .ok (.iload_n 2, 1) := by decide +kernel
theorem dX11_sound_15 : decode cX11_sound 15 = .ok (.bipush 30, 2) := by decide +kernel
theorem dX11_sound_17 : decode cX11_sound 17 = .ok (.if_icmp .le 9, 3) := by decide +kernel
theorem dX11_sound_20 : decode cX11_sound 20 = .ok (.aload_n 0, 1) := by decide +kernel
theorem dX11_sound_21 : decode cX11_sound 21 = .ok (.iconst 1, 1) := by decide +kernel
theorem dX11_sound_22 : decode cX11_sound 22 = .ok (.invokevirtual 140, 3) := by decide +kernel
theorem dX11_sound_25 : decode cX11_sound 25 = .ok (.ireturn, 1) := by decide +kernel
theorem dX11_sound_26 : decode cX11_sound 26 = .ok (.aload_n 0, 1) := by decide +kernel
theorem dX11_sound_27 : decode cX11_sound 27 = .ok (.getfield 71, 3) := by decide +kernel
theorem dX11_sound_30 : decode cX11_sound 30 = .ok (.aload_n 0, 1) := by decide +kernel
theorem dX11_sound_31 : decode cX11_sound 31 = .ok (.getfield 18, 3) := by decide +kernel
theorem dX11_sound_34 : decode cX11_sound 34 = .ok (.getfield 58, 3) := by decide +kernel
theorem dX11_sound_37 : decode cX11_sound 37 = .ok (.aload_n 0, 1) := by decide +kernel
theorem dX11_sound_38 : decode cX11_sound 38 = .ok (.getfield 18, 3) := by decide +kernel
theorem dX11_sound_41 : decode cX11_sound 41 = .ok (.getfield 129, 3) := by decide +kernel
theorem dX11_sound_44 : decode cX11_sound 44 = .ok (.aload_n 0, 1) := by decide +kernel
theorem dX11_sound_45 : decode cX11_sound 45 = .ok (.getfield 18, 3) := by decide +kernel
theorem dX11_sound_48 : decode cX11_sound 48 = .ok (.getfield 227, 3) := by decide +kernel
theorem dX11_sound_51 : decode cX11_sound 51 = .ok (.iload_n 1, 1) := by decide +kernel
theorem dX11_sound_52 : decode cX11_sound 52 = .ok (.iload_n 2, 1) := by decide +kernel
theorem dX11_sound_53 : decode cX11_sound 53 = .ok (.invokevirtual 318, 3) := by decide +kernel
theorem dX11_sound_56 : decode cX11_sound 56 = .ok (.istore_n 3, 1) := by decide +kernel
theorem dX11_sound_57 : decode cX11_sound 57 = .ok (.iload_n 3, 1) := by decide +kernel
theorem dX11_sound_58 : decode cX11_sound 58 = .ok (.ifCond .eq 10, 3) := by decide +kernel
theorem dX11_sound_61 : decode cX11_sound 61 = .ok (.aload_n 0, 1) := by decide +kernel
theorem dX11_sound_62 : decode cX11_sound 62 = .ok (.invokevirtual 147, 3) := by decide +kernel
theorem dX11_sound_65 : decode cX11_sound 65 = .ok (.goto 9, 3) := by decide +kernel
theorem dX11_sound_68 : decode cX11_sound 68 = .ok (.aload_n 0, 1) := by decide +kernel
theorem dX11_sound_69 : decode cX11_sound 69 = .ok (.bipush 7, 2) := by decide +kernel
theorem dX11_sound_71 : decode cX11_sound 71 = .ok (.invokevirtual 140, 3) := by decide +kernel
theorem dX11_sound_74 : decode cX11_sound 74 = .ok (.ireturn, 1) := by decide +kernel
theorem dX11_colour_0 : decode cX11_colour 0 = .ok (.aload_n 0, 1) := by decide +kernel
theorem dX11_colour_1 : decode cX11_colour 1 = .ok (.iload_n 1, 1) := by decide +kernel
theorem dX11_colour_2 : decode cX11_colour 2 = .ok (.invokevirtual 278, 3) := by decide +kernel
theorem dX11_colour_5 : decode cX11_colour 5 = .ok (.ifCond .ne 9, 3) := by decide +kernel
theorem dX11_colour_8 : decode cX11_colour 8 = .ok (.aload_n 0, 1) := by decide +kernel
theorem dX11_colour_9 : decode cX11_colour 9 = .ok (.iconst 1, 1) := by decide +kernel
theorem dX11_colour_10 : decode cX11_colour 10 = .ok (.invokevirtual 140, 3) := by decide +kernel
theorem dX11_colour_13 : decode cX11_colour 13 = .ok (.ireturn, 1) := by decide +kernel
theorem dX11_colour_14 : decode cX11_colour 14 = .ok (.aload_n 0, 1) := by decide +kernel
theorem dX11_colour_15 : decode cX11_colour 15 = .ok (.getfield 71, 3) := by decide +kernel
theorem dX11_colour_18 : decode cX11_colour 18 = .ok (.aload_n 0, 1) := by decide +kernel
theorem dX11_colour_19 : decode cX11_colour 19 = .ok (.getfield 18, 3) := by decide +kernel
theorem dX11_colour_22 : decode cX11_colour 22 = .ok (.getfield 58, 3) := by decide +kernel
theorem dX11_colour_25 : decode cX11_colour 25 = .ok (.aload_n 0, 1) := by decide +kernel
theorem dX11_colour_26 : decode cX11_colour 26 = .ok (.getfield 18, 3) := by decide +kernel
theorem dX11_colour_29 : decode cX11_colour 29 = .ok (.getfield 129, 3) := by decide +kernel
theorem dX11_colour_32 : decode cX11_colour 32 = .ok (.iload_n 1, 1) := by decide +kernel
theorem dX11_colour_33 : decode cX11_colour 33 = .ok (.iload_n 2, 1) := by decide +kernel
theorem dX11_colour_34 : decode cX11_colour 34 = .ok (.invokevirtual 322, 3) := by decide +kernel
theorem dX11_colour_37 : decode cX11_colour 37 = .ok (.ifCond .eq 10, 3) := by decide +kernel
theorem dX11_colour_40 : decode cX11_colour 40 = .ok (.aload_n 0, 1) := by decide +kernel
theorem dX11_colour_41 : decode cX11_colour 41 = .ok (.invokevirtual 147, 3) := by decide +kernel
theorem dX11_colour_44 : decode cX11_colour 44 = .ok (.goto 9, 3) := by decide +kernel
theorem dX11_colour_47 : decode cX11_colour 47 = .ok (.aload_n 0, 1) := by decide +kernel
theorem dX11_colour_48 : decode cX11_colour 48 = .ok (.bipush 7, 2) := by decide +kernel
theorem dX11_colour_50 : decode cX11_colour 50 = .ok (.invokevirtual 140, 3) := by decide +kernel
theorem dX11_colour_53 : decode cX11_colour 53 = .ok (.ireturn, 1) := by decide +kernel
theorem dX11_off_0 : decode cX11_off 0 = .ok (.iload_n 1, 1) := by decide +kernel
theorem dX11_off_1 : decode cX11_off 1 = .ok (.ifCond .lt 17, 3) := by decide +kernel
theorem dX11_off_4 : decode cX11_off 4 = .ok (.iload_n 1, 1) := by decide +kernel
theorem dX11_off_5 : decode cX11_off 5 = .ok (.aload_n 0, 1) := by decide +kernel
theorem dX11_off_6 : decode cX11_off 6 = .ok (.getfield 18, 3) := by decide +kernel
theorem dX11_off_9 : decode cX11_off 9 = .ok (.getfield 58, 3) := by decide +kernel
theorem dX11_off_12 : decode cX11_off 12 = .ok (.getfield 236, 3) := by decide +kernel
theorem dX11_off_15 : decode cX11_off 15 = .ok (.if_icmp .le 9, 3) := by decide +kernel
theorem dX11_off_18 : decode cX11_off 18 = .ok (.aload_n 0, 1) := by decide +kernel
theorem dX11_off_19 : decode cX11_off 19 = .ok (.iconst 1, 1) := by decide +kernel
theorem dX11_off_20 : decode cX11_off 20 = .ok (.invokevirtual 140, 3) := by decide +kernel
theorem dX11_off_23 : decode cX11_off 23 = .ok (.ireturn, 1) := by decide +kernel
theorem dX11_off_24 : decode cX11_off 24 = .ok (.aload_n 0, 1) := by decide +kernel
theorem dX11_off_25 : decode cX11_off 25 = .ok (.getfield 18, 3) := by decide +kernel
theorem dX11_off_28 : decode cX11_off 28 = .ok (.iload_n 1, 1) := by decide +kernel
theorem dX11_off_29 : decode cX11_off 29 = .ok (.putfield 230, 3) := by decide +kernel
theorem dX11_off_32 : decode cX11_off 32 = .ok (.aload_n 0, 1) := by decide +kernel
theorem dX11_off_33 : decode cX11_off 33 = .ok (.invokevirtual 147, 3) := by decide +kernel
theorem dX11_off_36 : decode cX11_off 36 = .ok (.ireturn, 1) := by decide +kernel
theorem dX11_forget_0 : decode cX11_forget 0 = .ok (.aload_n 0, 1) := by decide +kernel
theorem dX11_forget_1 : decode cX11_forget 1 = .ok (.invokevirtual 193, 3) := by decide +kernel
theorem dX11_forget_4 : decode cX11_forget 4 = .ok (.aload_n 0, 1) := by decide +kernel
theorem dX11_forget_5 : decode cX11_forget 5 = .ok (.invokevirtual 147, 3) := by decide +kernel
theorem dX11_forget_8 : decode cX11_forget 8 = .ok (.ireturn, 1) := by decide +kernel
theorem dX11_minutes_0 : decode cX11_minutes 0 = .ok (.aload_n 0, 1) := by decide +kernel
theorem dX11_minutes_1 : decode cX11_minutes 1 = .ok (.iload_n 1, 1) := by decide +kernel
theorem dX11_minutes_2 : decode cX11_minutes 2 = .ok (.iload_n 2, 1) := by decide +kernel
theorem dX11_minutes_3 : decode cX11_minutes 3 = .ok (.iconst 0, 1) := by decide +kernel
theorem dX11_minutes_4 : decode cX11_minutes 4 = .ok (.invokevirtual 326, 3) := by decide +kernel
theorem dX11_minutes_7 : decode cX11_minutes 7 = .ok (.istore_n 3, 1) := by decide +kernel
theorem dX11_minutes_8 : decode cX11_minutes 8 = .ok (.iload_n 3, 1) := by decide +kernel
theorem dX11_minutes_9 : decode cX11_minutes 9 = .ok (.ifCond .eq 9, 3) := by decide +kernel
theorem dX11_minutes_12 : decode cX11_minutes 12 = .ok (.aload_n 0, 1) := by decide +kernel
theorem dX11_minutes_13 : decode cX11_minutes 13 = .ok (.iload_n 3, 1) := by decide +kernel
theorem dX11_minutes_14 : decode cX11_minutes 14 = .ok (.invokevirtual 162, 3) := by decide +kernel
theorem dX11_minutes_17 : decode cX11_minutes 17 = .ok (.ireturn, 1) := by decide +kernel
theorem dX11_minutes_18 : decode cX11_minutes 18 = .ok (.aload_n 0, 1) := by decide +kernel
theorem dX11_minutes_19 : decode cX11_minutes 19 = .ok (.aload_n 0, 1) := by decide +kernel
theorem dX11_minutes_20 : decode cX11_minutes 20 = .ok (.getfield 18, 3) := by decide +kernel
theorem dX11_minutes_23 : decode cX11_minutes 23 = .ok (.getfield 58, 3) := by decide +kernel
theorem dX11_minutes_26 : decode cX11_minutes 26 = .ok (.aload_n 0, 1) := by decide +kernel
theorem dX11_minutes_27 : decode cX11_minutes 27 = .ok (.getfield 11, 3) := by decide +kernel
theorem dX11_minutes_30 : decode cX11_minutes 30 = .ok (.iload_n 1, 1) := by decide +kernel
theorem dX11_minutes_31 : decode cX11_minutes 31 = .ok (.aaload, 1) := by decide +kernel
theorem dX11_minutes_32 : decode cX11_minutes 32 = .ok (.getfield 155, 3) := by decide +kernel
theorem dX11_minutes_35 : decode cX11_minutes 35 = .ok (.iload_n 2, 1) := by decide +kernel
theorem dX11_minutes_36 : decode cX11_minutes 36 = .ok (.invokevirtual 329, 3) := by decide +kernel
theorem dX11_minutes_39 : decode cX11_minutes 39 = .ok (.invokevirtual 200, 3) := by decide +kernel
theorem dX11_minutes_42 : decode cX11_minutes 42 = .ok (.ireturn, 1) := by decide +kernel
theorem dX11_struck_0 : decode cX11_struck 0 = .ok (.aload_n 0, 1) := by decide +kernel
theorem dX11_struck_1 : decode cX11_struck 1 = .ok (.iload_n 1, 1) := by decide +kernel
theorem dX11_struck_2 : decode cX11_struck 2 = .ok (.iload_n 2, 1) := by decide +kernel
theorem dX11_struck_3 : decode cX11_struck 3 = .ok (.iload_n 3, 1) := by decide +kernel
theorem dX11_struck_4 : decode cX11_struck 4 = .ok (.invokevirtual 326, 3) := by decide +kernel
theorem dX11_struck_7 : decode cX11_struck 7 = .ok (.istore 4, 2) := by decide +kernel
theorem dX11_struck_9 : decode cX11_struck 9 = .ok (.iload 4, 2) := by decide +kernel
theorem dX11_struck_11 : decode cX11_struck 11 = .ok (.ifCond .eq 10, 3) := by decide +kernel
theorem dX11_struck_14 : decode cX11_struck 14 = .ok (.aload_n 0, 1) := by decide +kernel
theorem dX11_struck_15 : decode cX11_struck 15 = .ok (.iload 4, 2) := by decide +kernel
theorem dX11_struck_17 : decode cX11_struck 17 = .ok (.invokevirtual 162, 3) := by decide +kernel
theorem dX11_struck_20 : decode cX11_struck 20 = .ok (.ireturn, 1) := by decide +kernel
theorem dX11_struck_21 : decode cX11_struck 21 = .ok (.aload_n 0, 1) := by decide +kernel
theorem dX11_struck_22 : decode cX11_struck 22 = .ok (.getfield 80, 3) := by decide +kernel
theorem dX11_struck_25 : decode cX11_struck 25 = .ok (.aload_n 0, 1) := by decide +kernel
theorem dX11_struck_26 : decode cX11_struck 26 = .ok (.getfield 18, 3) := by decide +kernel
theorem dX11_struck_29 : decode cX11_struck 29 = .ok (.getfield 58, 3) := by decide +kernel
theorem dX11_struck_32 : decode cX11_struck 32 = .ok (.aload_n 0, 1) := by decide +kernel
theorem dX11_struck_33 : decode cX11_struck 33 = .ok (.getfield 18, 3) := by decide +kernel
theorem dX11_struck_36 : decode cX11_struck 36 = .ok (.getfield 227, 3) := by decide +kernel
theorem dX11_struck_39 : decode cX11_struck 39 = .ok (.aload_n 0, 1) := by decide +kernel
theorem dX11_struck_40 : decode cX11_struck 40 = .ok (.getfield 18, 3) := by decide +kernel
theorem dX11_struck_43 : decode cX11_struck 43 = .ok (.getfield 230, 3) := by decide +kernel
theorem dX11_struck_46 : decode cX11_struck 46 = .ok (.invokevirtual 294, 3) := by decide +kernel
theorem dX11_struck_49 : decode cX11_struck 49 = .ok (.aload_n 0, 1) := by decide +kernel
theorem dX11_struck_50 : decode cX11_struck 50 = .ok (.getfield 80, 3) := by decide +kernel
theorem dX11_struck_53 : decode cX11_struck 53 = .ok (.aload_n 0, 1) := by decide +kernel
theorem dX11_struck_54 : decode cX11_struck 54 = .ok (.getfield 11, 3) := by decide +kernel
theorem dX11_struck_57 : decode cX11_struck 57 = .ok (.iload_n 1, 1) := by decide +kernel
theorem dX11_struck_58 : decode cX11_struck 58 = .ok (.aaload, 1) := by decide +kernel
theorem dX11_struck_59 : decode cX11_struck 59 = .ok (.getfield 155, 3) := by decide +kernel
theorem dX11_struck_62 : decode cX11_struck 62 = .ok (.iload_n 2, 1) := by decide +kernel
theorem dX11_struck_63 : decode cX11_struck 63 = .ok (.iload_n 3, 1) := by decide +kernel
theorem dX11_struck_64 : decode cX11_struck 64 = .ok (.invokevirtual 333, 3) := by decide +kernel
theorem dX11_struck_67 : decode cX11_struck 67 = .ok (.istore 5, 2) := by decide +kernel
theorem dX11_struck_69 : decode cX11_struck 69 = .ok (.iload 5, 2) := by decide +kernel
theorem dX11_struck_71 : decode cX11_struck 71 = .ok (.iconst (-1), 1) := by decide +kernel
theorem dX11_struck_72 : decode cX11_struck 72 = .ok (.if_icmp .ne 12, 3) := by decide +kernel
theorem dX11_struck_75 : decode cX11_struck 75 = .ok (.aload_n 0, 1) := by decide +kernel
theorem dX11_struck_76 : decode cX11_struck 76 = .ok (.bipush 6, 2) := by decide +kernel
theorem dX11_struck_78 : decode cX11_struck 78 = .ok (.invokevirtual 162, 3) := by decide +kernel
theorem dX11_struck_81 : decode cX11_struck 81 = .ok (.goto 9, 3) := by decide +kernel
theorem dX11_struck_84 : decode cX11_struck 84 = .ok (.aload_n 0, 1) := by decide +kernel
theorem dX11_struck_85 : decode cX11_struck 85 = .ok (.iload 5, 2) := by decide +kernel
theorem dX11_struck_87 : decode cX11_struck 87 = .ok (.invokevirtual 200, 3) := by decide +kernel
theorem dX11_struck_90 : decode cX11_struck 90 = .ok (.ireturn, 1) := by decide +kernel
theorem dX11_sure_0 : decode cX11_sure 0 = .ok (.aload_n 0, 1) := by decide +kernel
theorem dX11_sure_1 : decode cX11_sure 1 = .ok (.iload_n 1, 1) := by decide +kernel
theorem dX11_sure_2 : decode cX11_sure 2 = .ok (.iload_n 2, 1) := by decide +kernel
theorem dX11_sure_3 : decode cX11_sure 3 = .ok (.iconst 0, 1) := by decide +kernel
theorem dX11_sure_4 : decode cX11_sure 4 = .ok (.invokevirtual 326, 3) := by decide +kernel
theorem dX11_sure_7 : decode cX11_sure 7 = .ok (.istore_n 3, 1) := by decide +kernel
theorem dX11_sure_8 : decode cX11_sure 8 = .ok (.iload_n 3, 1) := by decide +kernel
theorem dX11_sure_9 : decode cX11_sure 9 = .ok (.ifCond .eq 9, 3) := by decide +kernel
theorem dX11_sure_12 : decode cX11_sure 12 = .ok (.aload_n 0, 1) := by decide +kernel
theorem dX11_sure_13 : decode cX11_sure 13 = .ok (.iload_n 3, 1) := by decide +kernel
theorem dX11_sure_14 : decode cX11_sure 14 = .ok (.invokevirtual 140, 3) := by decide +kernel
theorem dX11_sure_17 : decode cX11_sure 17 = .ok (.ireturn, 1) := by decide +kernel
theorem dX11_sure_18 : decode cX11_sure 18 = .ok (.aload_n 0, 1) := by decide +kernel
theorem dX11_sure_19 : decode cX11_sure 19 = .ok (.getfield 80, 3) := by decide +kernel
theorem dX11_sure_22 : decode cX11_sure 22 = .ok (.aload_n 0, 1) := by decide +kernel
theorem dX11_sure_23 : decode cX11_sure 23 = .ok (.getfield 18, 3) := by decide +kernel
theorem dX11_sure_26 : decode cX11_sure 26 = .ok (.getfield 58, 3) := by decide +kernel
theorem dX11_sure_29 : decode cX11_sure 29 = .ok (.aload_n 0, 1) := by decide +kernel
theorem dX11_sure_30 : decode cX11_sure 30 = .ok (.getfield 18, 3) := by decide +kernel
theorem dX11_sure_33 : decode cX11_sure 33 = .ok (.getfield 227, 3) := by decide +kernel
theorem dX11_sure_36 : decode cX11_sure 36 = .ok (.aload_n 0, 1) := by decide +kernel
theorem dX11_sure_37 : decode cX11_sure 37 = .ok (.getfield 18, 3) := by decide +kernel
theorem dX11_sure_40 : decode cX11_sure 40 = .ok (.getfield 230, 3) := by decide +kernel
theorem dX11_sure_43 : decode cX11_sure 43 = .ok (.invokevirtual 294, 3) := by decide +kernel
theorem dX11_sure_46 : decode cX11_sure 46 = .ok (.lconst 0, 1) := by decide +kernel
theorem dX11_sure_47 : decode cX11_sure 47 = .ok (.lstore 4, 2) := by decide +kernel
theorem dX11_sure_49 : decode cX11_sure 49 = .ok (.iconst 0, 1) := by decide +kernel
theorem dX11_sure_50 : decode cX11_sure 50 = .ok (.istore 6, 2) := by decide +kernel
theorem dX11_sure_52 : decode cX11_sure 52 = .ok (.iload 6, 2) := by decide +kernel
theorem dX11_sure_54 : decode cX11_sure 54 = .ok (.aload_n 0, 1) := by decide +kernel
theorem dX11_sure_55 : decode cX11_sure 55 = .ok (.getfield 18, 3) := by decide +kernel
theorem dX11_sure_58 : decode cX11_sure 58 = .ok (.getfield 58, 3) := by decide +kernel
theorem dX11_sure_61 : decode cX11_sure 61 = .ok (.invokevirtual 337, 3) := by decide +kernel
theorem dX11_sure_64 : decode cX11_sure 64 = .ok (.if_icmp .ge 47, 3) := by decide +kernel
theorem dX11_sure_67 : decode cX11_sure 67 = .ok (.aload_n 0, 1) := by decide +kernel
theorem dX11_sure_68 : decode cX11_sure 68 = .ok (.getfield 80, 3) := by decide +kernel
theorem dX11_sure_71 : decode cX11_sure 71 = .ok (.aload_n 0, 1) := by decide +kernel
theorem dX11_sure_72 : decode cX11_sure 72 = .ok (.getfield 11, 3) := by decide +kernel
theorem dX11_sure_75 : decode cX11_sure 75 = .ok (.iload_n 1, 1) := by decide +kernel
theorem dX11_sure_76 : decode cX11_sure 76 = .ok (.aaload, 1) := by decide +kernel
theorem dX11_sure_77 : decode cX11_sure 77 = .ok (.getfield 155, 3) := by decide +kernel
theorem dX11_sure_80 : decode cX11_sure 80 = .ok (.iload_n 2, 1) := by decide +kernel
theorem dX11_sure_81 : decode cX11_sure 81 = .ok (.iload 6, 2) := by decide +kernel
theorem dX11_sure_83 : decode cX11_sure 83 = .ok (.invokevirtual 333, 3) := by decide +kernel
theorem dX11_sure_86 : decode cX11_sure 86 = .ok (.iconst (-1), 1) := by decide +kernel
theorem dX11_sure_87 : decode cX11_sure 87 = .ok (.if_icmp .ne 18, 3) := by decide +kernel
theorem dX11_sure_90 : decode cX11_sure 90 = .ok (.lload 4, 2) := by decide +kernel
theorem dX11_sure_92 : decode cX11_sure 92 = .ok (.aload_n 0, 1) := by decide +kernel
theorem dX11_sure_93 : decode cX11_sure 93 = .ok (.getfield 18, 3) := by decide +kernel
theorem dX11_sure_96 : decode cX11_sure 96 = .ok (.getfield 129, 3) := by decide +kernel
theorem dX11_sure_99 : decode cX11_sure 99 = .ok (.iload 6, 2) := by decide +kernel
theorem dX11_sure_101 : decode cX11_sure 101 = .ok (.laload, 1) := by decide +kernel
theorem dX11_sure_102 : decode cX11_sure 102 = .ok (.ladd, 1) := by decide +kernel
theorem dX11_sure_103 : decode cX11_sure 103 = .ok (.lstore 4, 2) := by decide +kernel
theorem dX11_sure_105 : decode cX11_sure 105 = .ok (.iinc 6 1, 3) := by decide +kernel
theorem dX11_sure_108 : decode cX11_sure 108 = .ok (.goto (-56), 3) := by decide +kernel
theorem dX11_sure_111 : decode cX11_sure 111 = .ok (.aload_n 0, 1) := by decide +kernel
theorem dX11_sure_112 : decode cX11_sure 112 = .ok (.lload 4, 2) := by decide +kernel
theorem dX11_sure_114 : decode cX11_sure 114 = .ok (.ldc2_w 305, 3) := by decide +kernel
theorem dX11_sure_117 : decode cX11_sure 117 = .ok (.invokevirtual 307, 3) := by decide +kernel
theorem dX11_sure_120 : decode cX11_sure 120 = .ok (.ireturn, 1) := by decide +kernel
theorem dX11_soonest_0 : decode cX11_soonest 0 = .ok (.aload_n 0, 1) := by decide +kernel
theorem dX11_soonest_1 : decode cX11_soonest 1 = .ok (.iload_n 1, 1) := by decide +kernel
theorem dX11_soonest_2 : decode cX11_soonest 2 = .ok (.invokevirtual 278, 3) := by decide +kernel
theorem dX11_soonest_5 : decode cX11_soonest 5 = .ok (.ifCond .eq 19, 3) := by decide +kernel
theorem dX11_soonest_8 : decode cX11_soonest 8 = .ok (.aload_n 0, 1) := by decide +kernel
theorem dX11_soonest_9 : decode cX11_soonest 9 = .ok (.iload_n 2, 1) := by decide +kernel
theorem dX11_soonest_10 : decode cX11_soonest 10 = .ok (.invokevirtual 278, 3) := by decide +kernel
theorem dX11_soonest_13 : decode cX11_soonest 13 = .ok (.ifCond .eq 11, 3) := by decide +kernel
theorem dX11_soonest_16 : decode cX11_soonest 16 = .ok (.aload_n 0, 1) := by decide +kernel
theorem dX11_soonest_17 : decode cX11_soonest 17 = .ok (.iload_n 3, 1) := by decide +kernel
theorem dX11_soonest_18 : decode cX11_soonest 18 = .ok (.invokevirtual 287, 3) := by decide +kernel
theorem dX11_soonest_21 : decode cX11_soonest 21 = .ok (.ifCond .ne 9, 3) := by decide +kernel
theorem dX11_soonest_24 : decode cX11_soonest 24 = .ok (.aload_n 0, 1) := by decide +kernel
theorem dX11_soonest_25 : decode cX11_soonest 25 = .ok (.iconst 1, 1) := by decide +kernel
theorem dX11_soonest_26 : decode cX11_soonest 26 = .ok (.invokevirtual 162, 3) := by decide +kernel
theorem dX11_soonest_29 : decode cX11_soonest 29 = .ok (.ireturn, 1) := by decide +kernel
theorem dX11_soonest_30 : decode cX11_soonest 30 = .ok (.aload_n 0, 1) := by decide +kernel
theorem dX11_soonest_31 : decode cX11_soonest 31 = .ok (.getfield 80, 3) := by decide +kernel
theorem dX11_soonest_34 : decode cX11_soonest 34 = .ok (.aload_n 0, 1) := by decide +kernel
theorem dX11_soonest_35 : decode cX11_soonest 35 = .ok (.getfield 18, 3) := by decide +kernel
theorem dX11_soonest_38 : decode cX11_soonest 38 = .ok (.getfield 58, 3) := by decide +kernel
theorem dX11_soonest_41 : decode cX11_soonest 41 = .ok (.aload_n 0, 1) := by decide +kernel
theorem dX11_soonest_42 : decode cX11_soonest 42 = .ok (.getfield 18, 3) := by decide +kernel
theorem dX11_soonest_45 : decode cX11_soonest 45 = .ok (.getfield 227, 3) := by decide +kernel
theorem dX11_soonest_48 : decode cX11_soonest 48 = .ok (.aload_n 0, 1) := by decide +kernel
theorem dX11_soonest_49 : decode cX11_soonest 49 = .ok (.getfield 18, 3) := by decide +kernel
theorem dX11_soonest_52 : decode cX11_soonest 52 = .ok (.getfield 230, 3) := by decide +kernel
theorem dX11_soonest_55 : decode cX11_soonest 55 = .ok (.invokevirtual 294, 3) := by decide +kernel
theorem dX11_soonest_58 : decode cX11_soonest 58 = .ok (.aload_n 0, 1) := by decide +kernel
theorem dX11_soonest_59 : decode cX11_soonest 59 = .ok (.getfield 80, 3) := by decide +kernel
theorem dX11_soonest_62 : decode cX11_soonest 62 = .ok (.iload_n 1, 1) := by decide +kernel
theorem dX11_soonest_63 : decode cX11_soonest 63 = .ok (.iload_n 2, 1) := by decide +kernel
theorem dX11_soonest_64 : decode cX11_soonest 64 = .ok (.invokevirtual 340, 3) := by decide +kernel
theorem dX11_soonest_67 : decode cX11_soonest 67 = .ok (.pop, 1) := by decide +kernel
theorem dX11_soonest_68 : decode cX11_soonest 68 = .ok (.aload_n 0, 1) := by decide +kernel
theorem dX11_soonest_69 : decode cX11_soonest 69 = .ok (.getfield 80, 3) := by decide +kernel
theorem dX11_soonest_72 : decode cX11_soonest 72 = .ok (.getfield 343, 3) := by decide +kernel
theorem dX11_soonest_75 : decode cX11_soonest 75 = .ok (.iload_n 3, 1) := by decide +kernel
theorem dX11_soonest_76 : decode cX11_soonest 76 = .ok (.baload, 1) := by decide +kernel
theorem dX11_soonest_77 : decode cX11_soonest 77 = .ok (.ifCond .ne 10, 3) := by decide +kernel
theorem dX11_soonest_80 : decode cX11_soonest 80 = .ok (.aload_n 0, 1) := by decide +kernel
theorem dX11_soonest_81 : decode cX11_soonest 81 = .ok (.bipush 6, 2) := by decide +kernel
theorem dX11_soonest_83 : decode cX11_soonest 83 = .ok (.invokevirtual 162, 3) := by decide +kernel
theorem dX11_soonest_86 : decode cX11_soonest 86 = .ok (.ireturn, 1) := by decide +kernel
theorem dX11_soonest_87 : decode cX11_soonest 87 = .ok (.aload_n 0, 1) := by decide +kernel
theorem dX11_soonest_88 : decode cX11_soonest 88 = .ok (.aload_n 0, 1) := by decide +kernel
theorem dX11_soonest_89 : decode cX11_soonest 89 = .ok (.getfield 80, 3) := by decide +kernel
theorem dX11_soonest_92 : decode cX11_soonest 92 = .ok (.iload_n 3, 1) := by decide +kernel
theorem dX11_soonest_93 : decode cX11_soonest 93 = .ok (.invokevirtual 347, 3) := by decide +kernel
theorem dX11_soonest_96 : decode cX11_soonest 96 = .ok (.invokevirtual 200, 3) := by decide +kernel
theorem dX11_soonest_99 : decode cX11_soonest 99 = .ok (.ireturn, 1) := by decide +kernel
theorem dX11_surest_0 : decode cX11_surest 0 = .ok (.aload_n 0, 1) := by decide +kernel
theorem dX11_surest_1 : decode cX11_surest 1 = .ok (.iload_n 1, 1) := by decide +kernel
theorem dX11_surest_2 : decode cX11_surest 2 = .ok (.iload_n 2, 1) := by decide +kernel
theorem dX11_surest_3 : decode cX11_surest 3 = .ok (.invokevirtual 350, 3) := by decide +kernel
theorem dX11_surest_6 : decode cX11_surest 6 = .ok (.istore_n 3, 1) := by decide +kernel
theorem dX11_surest_7 : decode cX11_surest 7 = .ok (.iload_n 3, 1) := by decide +kernel
theorem dX11_surest_8 : decode cX11_surest 8 = .ok (.ifCond .eq 9, 3) := by decide +kernel
theorem dX11_surest_11 : decode cX11_surest 11 = .ok (.aload_n 0, 1) := by decide +kernel
theorem dX11_surest_12 : decode cX11_surest 12 = .ok (.iload_n 3, 1) := by decide +kernel
theorem dX11_surest_13 : decode cX11_surest 13 = .ok (.invokevirtual 162, 3) := by decide +kernel
theorem dX11_surest_16 : decode cX11_surest 16 = .ok (.ireturn, 1) := by decide +kernel
theorem dX11_surest_17 : decode cX11_surest 17 = .ok (.aload_n 0, 1) := by decide +kernel
theorem dX11_surest_18 : decode cX11_surest 18 = .ok (.getfield 80, 3) := by decide +kernel
theorem dX11_surest_21 : decode cX11_surest 21 = .ok (.aload_n 0, 1) := by decide +kernel
theorem dX11_surest_22 : decode cX11_surest 22 = .ok (.getfield 18, 3) := by decide +kernel
theorem dX11_surest_25 : decode cX11_surest 25 = .ok (.getfield 129, 3) := by decide +kernel
theorem dX11_surest_28 : decode cX11_surest 28 = .ok (.invokevirtual 353, 3) := by decide +kernel
theorem dX11_surest_31 : decode cX11_surest 31 = .ok (.aload_n 0, 1) := by decide +kernel
theorem dX11_surest_32 : decode cX11_surest 32 = .ok (.getfield 80, 3) := by decide +kernel
theorem dX11_surest_35 : decode cX11_surest 35 = .ok (.aload_n 0, 1) := by decide +kernel
theorem dX11_surest_36 : decode cX11_surest 36 = .ok (.getfield 80, 3) := by decide +kernel
theorem dX11_surest_39 : decode cX11_surest 39 = .ok (.getfield 357, 3) := by decide +kernel
theorem dX11_surest_42 : decode cX11_surest 42 = .ok (.invokevirtual 347, 3) := by decide +kernel
theorem dX11_surest_45 : decode cX11_surest 45 = .ok (.pop, 1) := by decide +kernel
theorem dX11_surest_46 : decode cX11_surest 46 = .ok (.aload_n 0, 1) := by decide +kernel
theorem dX11_surest_47 : decode cX11_surest 47 = .ok (.aload_n 0, 1) := by decide +kernel
theorem dX11_surest_48 : decode cX11_surest 48 = .ok (.getfield 80, 3) := by decide +kernel
theorem dX11_surest_51 : decode cX11_surest 51 = .ok (.getfield 360, 3) := by decide +kernel
theorem dX11_surest_54 : decode cX11_surest 54 = .ok (.ldc2_w 305, 3) := by decide +kernel
theorem dX11_surest_57 : decode cX11_surest 57 = .ok (.invokevirtual 307, 3) := by decide +kernel
theorem dX11_surest_60 : decode cX11_surest 60 = .ok (.pop, 1) := by decide +kernel
theorem dX11_surest_61 : decode cX11_surest 61 = .ok (.aload_n 0, 1) := by decide +kernel
theorem dX11_surest_62 : decode cX11_surest 62 = .ok (.aload_n 0, 1) := by decide +kernel
theorem dX11_surest_63 : decode cX11_surest 63 = .ok (.getfield 80, 3) := by decide +kernel
theorem dX11_surest_66 : decode cX11_surest 66 = .ok (.getfield 357, 3) := by decide +kernel
theorem dX11_surest_69 : decode cX11_surest 69 = .ok (.invokevirtual 200, 3) := by decide +kernel
theorem dX11_surest_72 : decode cX11_surest 72 = .ok (.ireturn, 1) := by decide +kernel
theorem dX11_mean_0 : decode cX11_mean 0 = .ok (.aload_n 0, 1) := by decide +kernel
theorem dX11_mean_1 : decode cX11_mean 1 = .ok (.iload_n 1, 1) := by decide +kernel
theorem dX11_mean_2 : decode cX11_mean 2 = .ok (.iload_n 2, 1) := by decide +kernel
theorem dX11_mean_3 : decode cX11_mean 3 = .ok (.invokevirtual 350, 3) := by decide +kernel
theorem dX11_mean_6 : decode cX11_mean 6 = .ok (.istore_n 3, 1) := by decide +kernel
theorem dX11_mean_7 : decode cX11_mean 7 = .ok (.iload_n 3, 1) := by decide +kernel
theorem dX11_mean_8 : decode cX11_mean 8 = .ok (.ifCond .eq 9, 3) := by decide +kernel
theorem dX11_mean_11 : decode cX11_mean 11 = .ok (.aload_n 0, 1) := by decide +kernel
theorem dX11_mean_12 : decode cX11_mean 12 = .ok (.iload_n 3, 1) := by decide +kernel
theorem dX11_mean_13 : decode cX11_mean 13 = .ok (.invokevirtual 162, 3) := by decide +kernel
theorem dX11_mean_16 : decode cX11_mean 16 = .ok (.ireturn, 1) := by decide +kernel
theorem dX11_mean_17 : decode cX11_mean 17 = .ok (.aload_n 0, 1) := by decide +kernel
theorem dX11_mean_18 : decode cX11_mean 18 = .ok (.getfield 80, 3) := by decide +kernel
theorem dX11_mean_21 : decode cX11_mean 21 = .ok (.aload_n 0, 1) := by decide +kernel
theorem dX11_mean_22 : decode cX11_mean 22 = .ok (.getfield 18, 3) := by decide +kernel
theorem dX11_mean_25 : decode cX11_mean 25 = .ok (.getfield 129, 3) := by decide +kernel
theorem dX11_mean_28 : decode cX11_mean 28 = .ok (.invokevirtual 363, 3) := by decide +kernel
theorem dX11_mean_31 : decode cX11_mean 31 = .ok (.lstore 4, 2) := by decide +kernel
theorem dX11_mean_33 : decode cX11_mean 33 = .ok (.aload_n 0, 1) := by decide +kernel
theorem dX11_mean_34 : decode cX11_mean 34 = .ok (.getfield 80, 3) := by decide +kernel
theorem dX11_mean_37 : decode cX11_mean 37 = .ok (.aload_n 0, 1) := by decide +kernel
theorem dX11_mean_38 : decode cX11_mean 38 = .ok (.getfield 80, 3) := by decide +kernel
theorem dX11_mean_41 : decode cX11_mean 41 = .ok (.getfield 357, 3) := by decide +kernel
theorem dX11_mean_44 : decode cX11_mean 44 = .ok (.invokevirtual 347, 3) := by decide +kernel
theorem dX11_mean_47 : decode cX11_mean 47 = .ok (.pop, 1) := by decide +kernel
theorem dX11_mean_48 : decode cX11_mean 48 = .ok (.aload_n 0, 1) := by decide +kernel
theorem dX11_mean_49 : decode cX11_mean 49 = .ok (.lload 4, 2) := by decide +kernel
theorem dX11_mean_51 : decode cX11_mean 51 = .ok (.ldc2_w 305, 3) := by decide +kernel
theorem dX11_mean_54 : decode cX11_mean 54 = .ok (.invokevirtual 307, 3) := by decide +kernel
theorem dX11_mean_57 : decode cX11_mean 57 = .ok (.pop, 1) := by decide +kernel
theorem dX11_mean_58 : decode cX11_mean 58 = .ok (.aload_n 0, 1) := by decide +kernel
theorem dX11_mean_59 : decode cX11_mean 59 = .ok (.aload_n 0, 1) := by decide +kernel
theorem dX11_mean_60 : decode cX11_mean 60 = .ok (.getfield 80, 3) := by decide +kernel
theorem dX11_mean_63 : decode cX11_mean 63 = .ok (.getfield 357, 3) := by decide +kernel
theorem dX11_mean_66 : decode cX11_mean 66 = .ok (.invokevirtual 200, 3) := by decide +kernel
theorem dX11_mean_69 : decode cX11_mean 69 = .ok (.ireturn, 1) := by decide +kernel
theorem dX11_length_0 : decode cX11_length 0 = .ok (.aload_n 0, 1) := by decide +kernel
theorem dX11_length_1 : decode cX11_length 1 = .ok (.getfield 80, 3) := by decide +kernel
theorem dX11_length_4 : decode cX11_length 4 = .ok (.getfield 367, 3) := by decide +kernel
theorem dX11_length_7 : decode cX11_length 7 = .ok (.ifCond .ne 12, 3) := by decide +kernel
theorem dX11_length_10 : decode cX11_length 10 = .ok (.aload_n 0, 1) := by decide +kernel
theorem dX11_length_11 : decode cX11_length 11 = .ok (.bipush 6, 2) := by decide +kernel
theorem dX11_length_13 : decode cX11_length 13 = .ok (.invokevirtual 162, 3) := by decide +kernel
theorem dX11_length_16 : decode cX11_length 16 = .ok (.goto 14, 3) := by decide +kernel
theorem dX11_length_19 : decode cX11_length 19 = .ok (.aload_n 0, 1) := by decide +kernel
theorem dX11_length_20 : decode cX11_length 20 = .ok (.aload_n 0, 1) := by decide +kernel
theorem dX11_length_21 : decode cX11_length 21 = .ok (.getfield 80, 3) := by decide +kernel
theorem dX11_length_24 : decode cX11_length 24 = .ok (.getfield 367, 3) := by decide +kernel
theorem dX11_length_27 : decode cX11_length 27 = .ok (.invokevirtual 200, 3) := by decide +kernel
theorem dX11_length_30 : decode cX11_length 30 = .ok (.ireturn, 1) := by decide +kernel
theorem dX11_way_0 : decode cX11_way 0 = .ok (.iload_n 1, 1) := by decide +kernel
theorem dX11_way_1 : decode cX11_way 1 = .ok (.ifCond .lt 14, 3) := by decide +kernel
theorem dX11_way_4 : decode cX11_way 4 = .ok (.iload_n 1, 1) := by decide +kernel
theorem dX11_way_5 : decode cX11_way 5 = .ok (.aload_n 0, 1) := by decide +kernel
theorem dX11_way_6 : decode cX11_way 6 = .ok (.getfield 80, 3) := by decide +kernel
theorem dX11_way_9 : decode cX11_way 9 = .ok (.getfield 367, 3) := by decide +kernel
theorem dX11_way_12 : decode cX11_way 12 = .ok (.if_icmp .lt 10, 3) := by decide +kernel
theorem dX11_way_15 : decode cX11_way 15 = .ok (.aload_n 0, 1) := by decide +kernel
theorem dX11_way_16 : decode cX11_way 16 = .ok (.bipush 6, 2) := by decide +kernel
theorem dX11_way_18 : decode cX11_way 18 = .ok (.invokevirtual 162, 3) := by decide +kernel
theorem dX11_way_21 : decode cX11_way 21 = .ok (.ireturn, 1) := by decide +kernel
theorem dX11_way_22 : decode cX11_way 22 = .ok (.aload_n 0, 1) := by decide +kernel
theorem dX11_way_23 : decode cX11_way 23 = .ok (.aload_n 0, 1) := by decide +kernel
theorem dX11_way_24 : decode cX11_way 24 = .ok (.getfield 80, 3) := by decide +kernel
theorem dX11_way_27 : decode cX11_way 27 = .ok (.getfield 370, 3) := by decide +kernel
theorem dX11_way_30 : decode cX11_way 30 = .ok (.iload_n 1, 1) := by decide +kernel
theorem dX11_way_31 : decode cX11_way 31 = .ok (.iaload, 1) := by decide +kernel
theorem dX11_way_32 : decode cX11_way 32 = .ok (.invokevirtual 200, 3) := by decide +kernel
theorem dX11_way_35 : decode cX11_way 35 = .ok (.ireturn, 1) := by decide +kernel
theorem dX11_worth_0 : decode cX11_worth 0 = .ok (.aload_n 0, 1) := by decide +kernel
theorem dX11_worth_1 : decode cX11_worth 1 = .ok (.iload_n 1, 1) := by decide +kernel
theorem dX11_worth_2 : decode cX11_worth 2 = .ok (.invokevirtual 278, 3) := by decide +kernel
theorem dX11_worth_5 : decode cX11_worth 5 = .ok (.ifCond .eq 20, 3) := by decide +kernel
theorem dX11_worth_8 : decode cX11_worth 8 = .ok (.aload_n 0, 1) := by decide +kernel
theorem dX11_worth_9 : decode cX11_worth 9 = .ok (.iload_n 2, 1) := by decide +kernel
theorem dX11_worth_10 : decode cX11_worth 10 = .ok (.invokevirtual 278, 3) := by decide +kernel
theorem dX11_worth_13 : decode cX11_worth 13 = .ok (.ifCond .eq 12, 3) := by decide +kernel
theorem dX11_worth_16 : decode cX11_worth 16 = .ok (.iload_n 3, 1) := by decide +kernel
theorem dX11_worth_17 : decode cX11_worth 17 = .ok (.ifCond .lt 8, 3) := by decide +kernel
theorem dX11_worth_20 : decode cX11_worth 20 = .ok (.iload_n 3, 1) := by decide +kernel
theorem dX11_worth_21 : decode cX11_worth 21 = .ok (.iconst 3, 1) := by decide +kernel
theorem dX11_worth_22 : decode cX11_worth 22 = .ok (.if_icmp .le 9, 3) := by decide +kernel
theorem dX11_worth_25 : decode cX11_worth 25 = .ok (.aload_n 0, 1) := by decide +kernel
theorem dX11_worth_26 : decode cX11_worth 26 = .ok (.iconst 1, 1) := by decide +kernel
theorem dX11_worth_27 : decode cX11_worth 27 = .ok (.invokevirtual 140, 3) := by decide +kernel
theorem dX11_worth_30 : decode cX11_worth 30 = .ok (.ireturn, 1) := by decide +kernel
theorem dX11_worth_31 : decode cX11_worth 31 = .ok (.aload_n 0, 1) := by decide +kernel
theorem dX11_worth_32 : decode cX11_worth 32 = .ok (.getfield 80, 3) := by decide +kernel
theorem dX11_worth_35 : decode cX11_worth 35 = .ok (.aload_n 0, 1) := by decide +kernel
theorem dX11_worth_36 : decode cX11_worth 36 = .ok (.getfield 18, 3) := by decide +kernel
theorem dX11_worth_39 : decode cX11_worth 39 = .ok (.getfield 58, 3) := by decide +kernel
theorem dX11_worth_42 : decode cX11_worth 42 = .ok (.aload_n 0, 1) := by decide +kernel
theorem dX11_worth_43 : decode cX11_worth 43 = .ok (.getfield 18, 3) := by decide +kernel
theorem dX11_worth_46 : decode cX11_worth 46 = .ok (.getfield 227, 3) := by decide +kernel
theorem dX11_worth_49 : decode cX11_worth 49 = .ok (.aload_n 0, 1) := by decide +kernel
theorem dX11_worth_50 : decode cX11_worth 50 = .ok (.getfield 18, 3) := by decide +kernel
theorem dX11_worth_53 : decode cX11_worth 53 = .ok (.getfield 230, 3) := by decide +kernel
theorem dX11_worth_56 : decode cX11_worth 56 = .ok (.invokevirtual 294, 3) := by decide +kernel
theorem dX11_worth_59 : decode cX11_worth 59 = .ok (.aload_n 0, 1) := by decide +kernel
theorem dX11_worth_60 : decode cX11_worth 60 = .ok (.getfield 80, 3) := by decide +kernel
theorem dX11_worth_63 : decode cX11_worth 63 = .ok (.iload_n 1, 1) := by decide +kernel
theorem dX11_worth_64 : decode cX11_worth 64 = .ok (.iload_n 2, 1) := by decide +kernel
theorem dX11_worth_65 : decode cX11_worth 65 = .ok (.invokevirtual 340, 3) := by decide +kernel
theorem dX11_worth_68 : decode cX11_worth 68 = .ok (.pop, 1) := by decide +kernel
theorem dX11_worth_69 : decode cX11_worth 69 = .ok (.aload_n 0, 1) := by decide +kernel
theorem dX11_worth_70 : decode cX11_worth 70 = .ok (.getfield 89, 3) := by decide +kernel
theorem dX11_worth_73 : decode cX11_worth 73 = .ok (.aload_n 0, 1) := by decide +kernel
theorem dX11_worth_74 : decode cX11_worth 74 = .ok (.getfield 18, 3) := by decide +kernel
theorem dX11_worth_77 : decode cX11_worth 77 = .ok (.iload_n 3, 1) := by decide +kernel
theorem dX11_worth_78 : decode cX11_worth 78 = .ok (.invokevirtual 373, 3) := by decide +kernel
theorem dX11_worth_81 : decode cX11_worth 81 = .ok (.aload_n 0, 1) := by decide +kernel
theorem dX11_worth_82 : decode cX11_worth 82 = .ok (.aload_n 0, 1) := by decide +kernel
theorem dX11_worth_83 : decode cX11_worth 83 = .ok (.getfield 89, 3) := by decide +kernel
theorem dX11_worth_86 : decode cX11_worth 86 = .ok (.iload_n 3, 1) := by decide +kernel
theorem dX11_worth_87 : decode cX11_worth 87 = .ok (.invokevirtual 377, 3) := by decide +kernel
theorem dX11_worth_90 : decode cX11_worth 90 = .ok (.aload_n 0, 1) := by decide +kernel
theorem dX11_worth_91 : decode cX11_worth 91 = .ok (.getfield 89, 3) := by decide +kernel
theorem dX11_worth_94 : decode cX11_worth 94 = .ok (.iload_n 3, 1) := by decide +kernel
theorem dX11_worth_95 : decode cX11_worth 95 = .ok (.invokevirtual 381, 3) := by decide +kernel
theorem dX11_worth_98 : decode cX11_worth 98 = .ok (.invokevirtual 307, 3) := by decide +kernel
theorem dX11_worth_101 : decode cX11_worth 101 = .ok (.ireturn, 1) := by decide +kernel
theorem dX11_next_0 : decode cX11_next 0 = .ok (.aload_n 0, 1) := by decide +kernel
theorem dX11_next_1 : decode cX11_next 1 = .ok (.iload_n 1, 1) := by decide +kernel
theorem dX11_next_2 : decode cX11_next 2 = .ok (.invokevirtual 278, 3) := by decide +kernel
theorem dX11_next_5 : decode cX11_next 5 = .ok (.ifCond .eq 21, 3) := by decide +kernel
theorem dX11_next_8 : decode cX11_next 8 = .ok (.aload_n 0, 1) := by decide +kernel
theorem dX11_next_9 : decode cX11_next 9 = .ok (.iload_n 2, 1) := by decide +kernel
theorem dX11_next_10 : decode cX11_next 10 = .ok (.invokevirtual 278, 3) := by decide +kernel
theorem dX11_next_13 : decode cX11_next 13 = .ok (.ifCond .eq 13, 3) := by decide +kernel
theorem dX11_next_16 : decode cX11_next 16 = .ok (.iload_n 3, 1) := by decide +kernel
theorem dX11_next_17 : decode cX11_next 17 = .ok (.iconst 1, 1) := by decide +kernel
theorem dX11_next_18 : decode cX11_next 18 = .ok (.if_icmp .lt 8, 3) := by decide +kernel
theorem dX11_next_21 : decode cX11_next 21 = .ok (.iload_n 3, 1) := by decide +kernel
theorem dX11_next_22 : decode cX11_next 22 = .ok (.iconst 3, 1) := by decide +kernel
theorem dX11_next_23 : decode cX11_next 23 = .ok (.if_icmp .le 9, 3) := by decide +kernel
theorem dX11_next_26 : decode cX11_next 26 = .ok (.aload_n 0, 1) := by decide +kernel
theorem dX11_next_27 : decode cX11_next 27 = .ok (.iconst 1, 1) := by decide +kernel
theorem dX11_next_28 : decode cX11_next 28 = .ok (.invokevirtual 162, 3) := by decide +kernel
theorem dX11_next_31 : decode cX11_next 31 = .ok (.ireturn, 1) := by decide +kernel
theorem dX11_next_32 : decode cX11_next 32 = .ok (.aload_n 0, 1) := by decide +kernel
theorem dX11_next_33 : decode cX11_next 33 = .ok (.getfield 80, 3) := by decide +kernel
theorem dX11_next_36 : decode cX11_next 36 = .ok (.aload_n 0, 1) := by decide +kernel
theorem dX11_next_37 : decode cX11_next 37 = .ok (.getfield 18, 3) := by decide +kernel
theorem dX11_next_40 : decode cX11_next 40 = .ok (.getfield 58, 3) := by decide +kernel
theorem dX11_next_43 : decode cX11_next 43 = .ok (.aload_n 0, 1) := by decide +kernel
theorem dX11_next_44 : decode cX11_next 44 = .ok (.getfield 18, 3) := by decide +kernel
theorem dX11_next_47 : decode cX11_next 47 = .ok (.getfield 227, 3) := by decide +kernel
theorem dX11_next_50 : decode cX11_next 50 = .ok (.aload_n 0, 1) := by decide +kernel
theorem dX11_next_51 : decode cX11_next 51 = .ok (.getfield 18, 3) := by decide +kernel
theorem dX11_next_54 : decode cX11_next 54 = .ok (.getfield 230, 3) := by decide +kernel
theorem dX11_next_57 : decode cX11_next 57 = .ok (.invokevirtual 294, 3) := by decide +kernel
theorem dX11_next_60 : decode cX11_next 60 = .ok (.aload_n 0, 1) := by decide +kernel
theorem dX11_next_61 : decode cX11_next 61 = .ok (.getfield 80, 3) := by decide +kernel
theorem dX11_next_64 : decode cX11_next 64 = .ok (.iload_n 1, 1) := by decide +kernel
theorem dX11_next_65 : decode cX11_next 65 = .ok (.iload_n 2, 1) := by decide +kernel
theorem dX11_next_66 : decode cX11_next 66 = .ok (.invokevirtual 340, 3) := by decide +kernel
theorem dX11_next_69 : decode cX11_next 69 = .ok (.pop, 1) := by decide +kernel
theorem dX11_next_70 : decode cX11_next 70 = .ok (.aload_n 0, 1) := by decide +kernel
theorem dX11_next_71 : decode cX11_next 71 = .ok (.getfield 89, 3) := by decide +kernel
theorem dX11_next_74 : decode cX11_next 74 = .ok (.aload_n 0, 1) := by decide +kernel
theorem dX11_next_75 : decode cX11_next 75 = .ok (.getfield 18, 3) := by decide +kernel
theorem dX11_next_78 : decode cX11_next 78 = .ok (.iload_n 3, 1) := by decide +kernel
theorem dX11_next_79 : decode cX11_next 79 = .ok (.invokevirtual 373, 3) := by decide +kernel
theorem dX11_next_82 : decode cX11_next 82 = .ok (.aload_n 0, 1) := by decide +kernel
theorem dX11_next_83 : decode cX11_next 83 = .ok (.getfield 89, 3) := by decide +kernel
theorem dX11_next_86 : decode cX11_next 86 = .ok (.iload_n 3, 1) := by decide +kernel
theorem dX11_next_87 : decode cX11_next 87 = .ok (.invokevirtual 384, 3) := by decide +kernel
theorem dX11_next_90 : decode cX11_next 90 = .ok (.istore 4, 2) := by decide +kernel
theorem dX11_next_92 : decode cX11_next 92 = .ok (.iload 4, 2) := by decide +kernel
theorem dX11_next_94 : decode cX11_next 94 = .ok (.iconst (-1), 1) := by decide +kernel
theorem dX11_next_95 : decode cX11_next 95 = .ok (.if_icmp .ne 12, 3) := by decide +kernel
theorem dX11_next_98 : decode cX11_next 98 = .ok (.aload_n 0, 1) := by decide +kernel
theorem dX11_next_99 : decode cX11_next 99 = .ok (.bipush 6, 2) := by decide +kernel
theorem dX11_next_101 : decode cX11_next 101 = .ok (.invokevirtual 162, 3) := by decide +kernel
theorem dX11_next_104 : decode cX11_next 104 = .ok (.goto 9, 3) := by decide +kernel
theorem dX11_next_107 : decode cX11_next 107 = .ok (.aload_n 0, 1) := by decide +kernel
theorem dX11_next_108 : decode cX11_next 108 = .ok (.iload 4, 2) := by decide +kernel
theorem dX11_next_110 : decode cX11_next 110 = .ok (.invokevirtual 200, 3) := by decide +kernel
theorem dX11_next_113 : decode cX11_next 113 = .ok (.ireturn, 1) := by decide +kernel
theorem dX11_lieTo_0 : decode cX11_lieTo 0 = .ok (.aload_n 0, 1) := by decide +kernel
theorem dX11_lieTo_1 : decode cX11_lieTo 1 = .ok (.iload_n 1, 1) := by decide +kernel
theorem dX11_lieTo_2 : decode cX11_lieTo 2 = .ok (.invokevirtual 278, 3) := by decide +kernel
theorem dX11_lieTo_5 : decode cX11_lieTo 5 = .ok (.ifCond .eq 34, 3) := by decide +kernel
theorem dX11_lieTo_8 : decode cX11_lieTo 8 = .ok (.aload_n 0, 1) := by decide +kernel
theorem dX11_lieTo_9 : decode cX11_lieTo 9 = .ok (.iload_n 2, 1) := by decide +kernel
theorem dX11_lieTo_10 : decode cX11_lieTo 10 = .ok (.invokevirtual 278, 3) := by decide +kernel
theorem dX11_lieTo_13 : decode cX11_lieTo 13 = .ok (.ifCond .eq 26, 3) := by decide +kernel
theorem dX11_lieTo_16 : decode cX11_lieTo 16 = .ok (.iload_n 3, 1) := by decide +kernel
theorem dX11_lieTo_17 : decode cX11_lieTo 17 = .ok (.ifCond .lt 22, 3) := by decide +kernel
theorem dX11_lieTo_20 : decode cX11_lieTo 20 = .ok (.iload_n 3, 1) := by decide +kernel
theorem dX11_lieTo_21 : decode cX11_lieTo 21 = .ok (.bipush 9, 2) := by decide +kernel
theorem dX11_lieTo_23 : decode cX11_lieTo 23 = .ok (.if_icmp .gt 16, 3) := by decide +kernel
theorem dX11_lieTo_26 : decode cX11_lieTo 26 = .ok (.iload 4, 2) := by decide +kernel
theorem dX11_lieTo_28 : decode cX11_lieTo 28 = .ok (.ifCond .lt 11, 3) := by decide +kernel
theorem dX11_lieTo_31 : decode cX11_lieTo 31 = .ok (.iload 4, 2) := by decide +kernel
theorem dX11_lieTo_33 : decode cX11_lieTo 33 = .ok (.ldc_w 387, 3) := by decide +kernel
theorem dX11_lieTo_36 : decode cX11_lieTo 36 = .ok (.if_icmp .le 9, 3) := by decide +kernel
theorem dX11_lieTo_39 : decode cX11_lieTo 39 = .ok (.aload_n 0, 1) := by decide +kernel
theorem dX11_lieTo_40 : decode cX11_lieTo 40 = .ok (.iconst 1, 1) := by decide +kernel
theorem dX11_lieTo_41 : decode cX11_lieTo 41 = .ok (.invokevirtual 162, 3) := by decide +kernel
theorem dX11_lieTo_44 : decode cX11_lieTo 44 = .ok (.ireturn, 1) := by decide +kernel
theorem dX11_lieTo_45 : decode cX11_lieTo 45 = .ok (.aload_n 0, 1) := by decide +kernel
theorem dX11_lieTo_46 : decode cX11_lieTo 46 = .ok (.getfield 18, 3) := by decide +kernel
theorem dX11_lieTo_49 : decode cX11_lieTo 49 = .ok (.getfield 227, 3) := by decide +kernel
theorem dX11_lieTo_52 : decode cX11_lieTo 52 = .ok (.iload_n 3, 1) := by decide +kernel
theorem dX11_lieTo_53 : decode cX11_lieTo 53 = .ok (.iadd, 1) := by decide +kernel
theorem dX11_lieTo_54 : decode cX11_lieTo 54 = .ok (.bipush 99, 2) := by decide +kernel
theorem dX11_lieTo_56 : decode cX11_lieTo 56 = .ok (.if_icmp .le 9, 3) := by decide +kernel
theorem dX11_lieTo_59 : decode cX11_lieTo 59 = .ok (.aload_n 0, 1) := by decide +kernel
theorem dX11_lieTo_60 : decode cX11_lieTo 60 = .ok (.iconst 4, 1) := by decide +kernel
theorem dX11_lieTo_61 : decode cX11_lieTo 61 = .ok (.invokevirtual 162, 3) := by decide +kernel
theorem dX11_lieTo_64 : decode cX11_lieTo 64 = .ok (.ireturn, 1) := by decide +kernel
theorem dX11_lieTo_65 : decode cX11_lieTo 65 = .ok (.aload_n 0, 1) := by decide +kernel
theorem dX11_lieTo_66 : decode cX11_lieTo 66 = .ok (.getfield 18, 3) := by decide +kernel
theorem dX11_lieTo_69 : decode cX11_lieTo 69 = .ok (.getfield 129, 3) := by decide +kernel
theorem dX11_lieTo_72 : decode cX11_lieTo 72 = .ok (.aload_n 0, 1) := by decide +kernel
theorem dX11_lieTo_73 : decode cX11_lieTo 73 = .ok (.getfield 102, 3) := by decide +kernel
theorem dX11_lieTo_76 : decode cX11_lieTo 76 = .ok (.invokestatic 388, 3) := by decide +kernel
theorem dX11_lieTo_79 : decode cX11_lieTo 79 = .ok (.iconst (-1), 1) := by decide +kernel
theorem dX11_lieTo_80 : decode cX11_lieTo 80 = .ok (.istore 5, 2) := by decide +kernel
theorem dX11_lieTo_82 : decode cX11_lieTo 82 = .ok (.lconst 0, 1) := by decide +kernel
theorem dX11_lieTo_83 : decode cX11_lieTo 83 = .ok (.lstore 6, 2) := by decide +kernel
theorem dX11_lieTo_85 : decode cX11_lieTo 85 = .ok (.lconst 0, 1) := by decide +kernel
theorem dX11_lieTo_86 : decode cX11_lieTo 86 = .ok (.lstore 8, 2) := by decide +kernel
theorem dX11_lieTo_88 : decode cX11_lieTo 88 = .ok (.iconst 0, 1) := by decide +kernel
theorem dX11_lieTo_89 : decode cX11_lieTo 89 = .ok (.istore 10, 2) := by decide +kernel
theorem dX11_lieTo_91 : decode cX11_lieTo 91 = .ok (.iload 10, 2) := by decide +kernel
theorem dX11_lieTo_93 : decode cX11_lieTo 93 = .ok (.iload_n 3, 1) := by decide +kernel
theorem dX11_lieTo_94 : decode cX11_lieTo 94 = .ok (.if_icmp .gt 128, 3) := by decide +kernel
theorem dX11_lieTo_97 : decode cX11_lieTo 97 = .ok (.iload 10, 2) := by decide +kernel
theorem dX11_lieTo_99 : decode cX11_lieTo 99 = .ok (.ifCond .le 23, 3) := by decide +kernel
theorem dX11_lieTo_102 : decode cX11_lieTo 102 = .ok (.aload_n 0, 1) := by decide +kernel
theorem dX11_lieTo_103 : decode cX11_lieTo 103 = .ok (.getfield 71, 3) := by decide +kernel
theorem dX11_lieTo_106 : decode cX11_lieTo 106 = .ok (.aload_n 0, 1) := by decide +kernel
theorem dX11_lieTo_107 : decode cX11_lieTo 107 = .ok (.getfield 18, 3) := by decide +kernel
theorem dX11_lieTo_110 : decode cX11_lieTo 110 = .ok (.getfield 58, 3) := by decide +kernel
theorem dX11_lieTo_113 : decode cX11_lieTo 113 = .ok (.aload_n 0, 1) := by decide +kernel
theorem dX11_lieTo_114 : decode cX11_lieTo 114 = .ok (.getfield 102, 3) := by decide +kernel
theorem dX11_lieTo_117 : decode cX11_lieTo 117 = .ok (.iconst (-1), 1) := by decide +kernel
theorem dX11_lieTo_118 : decode cX11_lieTo 118 = .ok (.iconst 0, 1) := by decide +kernel
theorem dX11_lieTo_119 : decode cX11_lieTo 119 = .ok (.invokevirtual 314, 3) := by decide +kernel
theorem dX11_lieTo_122 : decode cX11_lieTo 122 = .ok (.aload_n 0, 1) := by decide +kernel
theorem dX11_lieTo_123 : decode cX11_lieTo 123 = .ok (.getfield 80, 3) := by decide +kernel
theorem dX11_lieTo_126 : decode cX11_lieTo 126 = .ok (.aload_n 0, 1) := by decide +kernel
theorem dX11_lieTo_127 : decode cX11_lieTo 127 = .ok (.getfield 18, 3) := by decide +kernel
theorem dX11_lieTo_130 : decode cX11_lieTo 130 = .ok (.getfield 58, 3) := by decide +kernel
theorem dX11_lieTo_133 : decode cX11_lieTo 133 = .ok (.aload_n 0, 1) := by decide +kernel
theorem dX11_lieTo_134 : decode cX11_lieTo 134 = .ok (.getfield 18, 3) := by decide +kernel
theorem dX11_lieTo_137 : decode cX11_lieTo 137 = .ok (.getfield 227, 3) := by decide +kernel
theorem dX11_lieTo_140 : decode cX11_lieTo 140 = .ok (.iload 10, 2) := by decide +kernel
theorem dX11_lieTo_142 : decode cX11_lieTo 142 = .ok (.iadd, 1) := by decide +kernel
theorem dX11_lieTo_143 : decode cX11_lieTo 143 = .ok (.aload_n 0, 1) := by decide +kernel
theorem dX11_lieTo_144 : decode cX11_lieTo 144 = .ok (.getfield 18, 3) := by decide +kernel
theorem dX11_lieTo_147 : decode cX11_lieTo 147 = .ok (.getfield 230, 3) := by decide +kernel
theorem dX11_lieTo_150 : decode cX11_lieTo 150 = .ok (.invokevirtual 294, 3) := by decide +kernel
theorem dX11_lieTo_153 : decode cX11_lieTo 153 = .ok (.aload_n 0, 1) := by decide +kernel
theorem dX11_lieTo_154 : decode cX11_lieTo 154 = .ok (.getfield 80, 3) := by decide +kernel
theorem dX11_lieTo_157 : decode cX11_lieTo 157 = .ok (.iload_n 1, 1) := by decide +kernel
theorem dX11_lieTo_158 : decode cX11_lieTo 158 = .ok (.iload_n 2, 1) := by decide +kernel
theorem dX11_lieTo_159 : decode cX11_lieTo 159 = .ok (.invokevirtual 340, 3) := by decide +kernel
theorem dX11_lieTo_162 : decode cX11_lieTo 162 = .ok (.ifCond .eq 54, 3) := by decide +kernel
theorem dX11_lieTo_165 : decode cX11_lieTo 165 = .ok (.aload_n 0, 1) := by decide +kernel
theorem dX11_lieTo_166 : decode cX11_lieTo 166 = .ok (.getfield 80, 3) := by decide +kernel
theorem dX11_lieTo_169 : decode cX11_lieTo 169 = .ok (.aload_n 0, 1) := by decide +kernel
theorem dX11_lieTo_170 : decode cX11_lieTo 170 = .ok (.getfield 102, 3) := by decide +kernel
theorem dX11_lieTo_173 : decode cX11_lieTo 173 = .ok (.invokevirtual 392, 3) := by decide +kernel
theorem dX11_lieTo_176 : decode cX11_lieTo 176 = .ok (.lstore 11, 2) := by decide +kernel
theorem dX11_lieTo_178 : decode cX11_lieTo 178 = .ok (.lload 11, 2) := by decide +kernel
theorem dX11_lieTo_180 : decode cX11_lieTo 180 = .ok (.iload 10, 2) := by decide +kernel
theorem dX11_lieTo_182 : decode cX11_lieTo 182 = .ok (.i2l, 1) := by decide +kernel
theorem dX11_lieTo_183 : decode cX11_lieTo 183 = .ok (.iload 4, 2) := by decide +kernel
theorem dX11_lieTo_185 : decode cX11_lieTo 185 = .ok (.i2l, 1) := by decide +kernel
theorem dX11_lieTo_186 : decode cX11_lieTo 186 = .ok (.lmul, 1) := by decide +kernel
theorem dX11_lieTo_187 : decode cX11_lieTo 187 = .ok (.lsub, 1) := by decide +kernel
theorem dX11_lieTo_188 : decode cX11_lieTo 188 = .ok (.lstore 13, 2) := by decide +kernel
theorem dX11_lieTo_190 : decode cX11_lieTo 190 = .ok (.iload 5, 2) := by decide +kernel
theorem dX11_lieTo_192 : decode cX11_lieTo 192 = .ok (.iconst (-1), 1) := by decide +kernel
theorem dX11_lieTo_193 : decode cX11_lieTo 193 = .ok (.if_icmp .eq 11, 3) := by decide +kernel
theorem dX11_lieTo_196 : decode cX11_lieTo 196 = .ok (.lload 13, 2) := by decide +kernel
theorem dX11_lieTo_198 : decode cX11_lieTo 198 = .ok (.lload 8, 2) := by decide +kernel
theorem dX11_lieTo_200 : decode cX11_lieTo 200 = .ok (.lcmp, 1) := by decide +kernel
theorem dX11_lieTo_201 : decode cX11_lieTo 201 = .ok (.ifCond .le 15, 3) := by decide +kernel
theorem dX11_lieTo_204 : decode cX11_lieTo 204 = .ok (.iload 10, 2) := by decide +kernel
theorem dX11_lieTo_206 : decode cX11_lieTo 206 = .ok (.istore 5, 2) := by decide +kernel
theorem dX11_lieTo_208 : decode cX11_lieTo 208 = .ok (.lload 11, 2) := by decide +kernel
theorem dX11_lieTo_210 : decode cX11_lieTo 210 = .ok (.lstore 6, 2) := by decide +kernel
theorem dX11_lieTo_212 : decode cX11_lieTo 212 = .ok (.lload 13, 2) := by decide +kernel
theorem dX11_lieTo_214 : decode cX11_lieTo 214 = .ok (.lstore 8, 2) := by decide +kernel
theorem dX11_lieTo_216 : decode cX11_lieTo 216 = .ok (.iinc 10 1, 3) := by decide +kernel
theorem dX11_lieTo_219 : decode cX11_lieTo 219 = .ok (.goto (-128), 3) := by decide +kernel
theorem dX11_lieTo_222 : decode cX11_lieTo 222 = .ok (.iload 5, 2) := by decide +kernel
theorem dX11_lieTo_224 : decode cX11_lieTo 224 = .ok (.iconst (-1), 1) := by decide +kernel
theorem dX11_lieTo_225 : decode cX11_lieTo 225 = .ok (.if_icmp .ne 10, 3) := by decide +kernel
theorem dX11_lieTo_228 : decode cX11_lieTo 228 = .ok (.aload_n 0, 1) := by decide +kernel
theorem dX11_lieTo_229 : decode cX11_lieTo 229 = .ok (.bipush 6, 2) := by decide +kernel
theorem dX11_lieTo_231 : decode cX11_lieTo 231 = .ok (.invokevirtual 162, 3) := by decide +kernel
theorem dX11_lieTo_234 : decode cX11_lieTo 234 = .ok (.ireturn, 1) := by decide +kernel
theorem dX11_lieTo_235 : decode cX11_lieTo 235 = .ok (.aload_n 0, 1) := by decide +kernel
theorem dX11_lieTo_236 : decode cX11_lieTo 236 = .ok (.lload 6, 2) := by decide +kernel
theorem dX11_lieTo_238 : decode cX11_lieTo 238 = .ok (.ldc2_w 305, 3) := by decide +kernel
theorem dX11_lieTo_241 : decode cX11_lieTo 241 = .ok (.invokevirtual 307, 3) := by decide +kernel
theorem dX11_lieTo_244 : decode cX11_lieTo 244 = .ok (.pop, 1) := by decide +kernel
theorem dX11_lieTo_245 : decode cX11_lieTo 245 = .ok (.aload_n 0, 1) := by decide +kernel
theorem dX11_lieTo_246 : decode cX11_lieTo 246 = .ok (.iload 5, 2) := by decide +kernel
theorem dX11_lieTo_248 : decode cX11_lieTo 248 = .ok (.invokevirtual 200, 3) := by decide +kernel
theorem dX11_lieTo_251 : decode cX11_lieTo 251 = .ok (.ireturn, 1) := by decide +kernel
theorem dX11_marked_0 : decode cX11_marked 0 = .ok (.iload_n 3, 1) := by decide +kernel
theorem dX11_marked_1 : decode cX11_marked 1 = .ok (.ifCond .lt 17, 3) := by decide +kernel
theorem dX11_marked_4 : decode cX11_marked 4 = .ok (.iload_n 3, 1) := by decide +kernel
theorem dX11_marked_5 : decode cX11_marked 5 = .ok (.aload_n 0, 1) := by decide +kernel
theorem dX11_marked_6 : decode cX11_marked 6 = .ok (.getfield 18, 3) := by decide +kernel
theorem dX11_marked_9 : decode cX11_marked 9 = .ok (.getfield 58, 3) := by decide +kernel
theorem dX11_marked_12 : decode cX11_marked 12 = .ok (.getfield 224, 3) := by decide +kernel
theorem dX11_marked_15 : decode cX11_marked 15 = .ok (.if_icmp .le 9, 3) := by decide +kernel
theorem dX11_marked_18 : decode cX11_marked 18 = .ok (.aload_n 0, 1) := by decide +kernel
theorem dX11_marked_19 : decode cX11_marked 19 = .ok (.iconst 1, 1) := by decide +kernel
theorem dX11_marked_20 : decode cX11_marked 20 = .ok (.invokevirtual 162, 3) := by decide +kernel
theorem dX11_marked_23 : decode cX11_marked 23 = .ok (.ireturn, 1) := by decide +kernel
theorem dX11_marked_24 : decode cX11_marked 24 = .ok (.aload_n 0, 1) := by decide +kernel
theorem dX11_marked_25 : decode cX11_marked 25 = .ok (.iload_n 1, 1) := by decide +kernel
theorem dX11_marked_26 : decode cX11_marked 26 = .ok (.iload_n 2, 1) := by decide +kernel
theorem dX11_marked_27 : decode cX11_marked 27 = .ok (.invokevirtual 350, 3) := by decide +kernel
theorem dX11_marked_30 : decode cX11_marked 30 = .ok (.istore 4, 2) := by decide +kernel
theorem dX11_marked_32 : decode cX11_marked 32 = .ok (.iload 4, 2) := by decide +kernel
theorem dX11_marked_34 : decode cX11_marked 34 = .ok (.ifCond .eq 10, 3) := by decide +kernel
theorem dX11_marked_37 : decode cX11_marked 37 = .ok (.aload_n 0, 1) := by decide +kernel
theorem dX11_marked_38 : decode cX11_marked 38 = .ok (.iload 4, 2) := by decide +kernel
theorem dX11_marked_40 : decode cX11_marked 40 = .ok (.invokevirtual 162, 3) := by decide +kernel
theorem dX11_marked_43 : decode cX11_marked 43 = .ok (.ireturn, 1) := by decide +kernel
theorem dX11_marked_44 : decode cX11_marked 44 = .ok (.iconst (-1), 1) := by decide +kernel
theorem dX11_marked_45 : decode cX11_marked 45 = .ok (.istore 5, 2) := by decide +kernel
theorem dX11_marked_47 : decode cX11_marked 47 = .ok (.lconst 0, 1) := by decide +kernel
theorem dX11_marked_48 : decode cX11_marked 48 = .ok (.lstore 6, 2) := by decide +kernel
theorem dX11_marked_50 : decode cX11_marked 50 = .ok (.iconst 0, 1) := by decide +kernel
theorem dX11_marked_51 : decode cX11_marked 51 = .ok (.istore 8, 2) := by decide +kernel
theorem dX11_marked_53 : decode cX11_marked 53 = .ok (.iload 8, 2) := by decide +kernel
theorem dX11_marked_55 : decode cX11_marked 55 = .ok (.aload_n 0, 1) := by decide +kernel
theorem dX11_marked_56 : decode cX11_marked 56 = .ok (.getfield 18, 3) := by decide +kernel
theorem dX11_marked_59 : decode cX11_marked 59 = .ok (.getfield 58, 3) := by decide +kernel
theorem dX11_marked_62 : decode cX11_marked 62 = .ok (.invokevirtual 337, 3) := by decide +kernel
theorem dX11_marked_65 : decode cX11_marked 65 = .ok (.if_icmp .ge 48, 3) := by decide +kernel
theorem dX11_marked_68 : decode cX11_marked 68 = .ok (.iload 8, 2) := by decide +kernel
theorem dX11_marked_70 : decode cX11_marked 70 = .ok (.invokestatic 395, 3) := by decide +kernel
theorem dX11_marked_73 : decode cX11_marked 73 = .ok (.iload_n 3, 1) := by decide +kernel
theorem dX11_marked_74 : decode cX11_marked 74 = .ok (.if_icmp .ne 33, 3) := by decide +kernel
theorem dX11_marked_77 : decode cX11_marked 77 = .ok (.aload_n 0, 1) := by decide +kernel
theorem dX11_marked_78 : decode cX11_marked 78 = .ok (.iload 8, 2) := by decide +kernel
theorem dX11_marked_80 : decode cX11_marked 80 = .ok (.invokevirtual 400, 3) := by decide +kernel
theorem dX11_marked_83 : decode cX11_marked 83 = .ok (.lstore 9, 2) := by decide +kernel
theorem dX11_marked_85 : decode cX11_marked 85 = .ok (.iload 5, 2) := by decide +kernel
theorem dX11_marked_87 : decode cX11_marked 87 = .ok (.iconst (-1), 1) := by decide +kernel
theorem dX11_marked_88 : decode cX11_marked 88 = .ok (.if_icmp .eq 11, 3) := by decide +kernel
theorem dX11_marked_91 : decode cX11_marked 91 = .ok (.lload 9, 2) := by decide +kernel
theorem dX11_marked_93 : decode cX11_marked 93 = .ok (.lload 6, 2) := by decide +kernel
theorem dX11_marked_95 : decode cX11_marked 95 = .ok (.lcmp, 1) := by decide +kernel
theorem dX11_marked_96 : decode cX11_marked 96 = .ok (.ifCond .le 11, 3) := by decide +kernel
theorem dX11_marked_99 : decode cX11_marked 99 = .ok (.iload 8, 2) := by decide +kernel
theorem dX11_marked_101 : decode cX11_marked 101 = .ok (.istore 5, 2) := by decide +kernel
theorem dX11_marked_103 : decode cX11_marked 103 = .ok (.lload 9, 2) := by decide +kernel
theorem dX11_marked_105 : decode cX11_marked 105 = .ok (.lstore 6, 2) := by decide +kernel
theorem dX11_marked_107 : decode cX11_marked 107 = .ok (.iinc 8 1, 3) := by decide +kernel
theorem dX11_marked_110 : decode cX11_marked 110 = .ok (.goto (-57), 3) := by decide +kernel
theorem dX11_marked_113 : decode cX11_marked 113 = .ok (.iload 5, 2) := by decide +kernel
theorem dX11_marked_115 : decode cX11_marked 115 = .ok (.iconst (-1), 1) := by decide +kernel
theorem dX11_marked_116 : decode cX11_marked 116 = .ok (.if_icmp .ne 10, 3) := by decide +kernel
theorem dX11_marked_119 : decode cX11_marked 119 = .ok (.aload_n 0, 1) := by decide +kernel
theorem dX11_marked_120 : decode cX11_marked 120 = .ok (.bipush 6, 2) := by decide +kernel
theorem dX11_marked_122 : decode cX11_marked 122 = .ok (.invokevirtual 162, 3) := by decide +kernel
theorem dX11_marked_125 : decode cX11_marked 125 = .ok (.ireturn, 1) := by decide +kernel
theorem dX11_marked_126 : decode cX11_marked 126 = .ok (.aload_n 0, 1) := by decide +kernel
theorem dX11_marked_127 : decode cX11_marked 127 = .ok (.lload 6, 2) := by decide +kernel
theorem dX11_marked_129 : decode cX11_marked 129 = .ok (.ldc2_w 305, 3) := by decide +kernel
theorem dX11_marked_132 : decode cX11_marked 132 = .ok (.invokevirtual 307, 3) := by decide +kernel
theorem dX11_marked_135 : decode cX11_marked 135 = .ok (.pop, 1) := by decide +kernel
theorem dX11_marked_136 : decode cX11_marked 136 = .ok (.aload_n 0, 1) := by decide +kernel
theorem dX11_marked_137 : decode cX11_marked 137 = .ok (.iload 5, 2) := by decide +kernel
theorem dX11_marked_139 : decode cX11_marked 139 = .ok (.invokevirtual 200, 3) := by decide +kernel
theorem dX11_marked_142 : decode cX11_marked 142 = .ok (.ireturn, 1) := by decide +kernel
theorem dX11_tells_0 : decode cX11_tells 0 = .ok (.aload_n 0, 1) := by decide +kernel
theorem dX11_tells_1 : decode cX11_tells 1 = .ok (.iload_n 1, 1) := by decide +kernel
theorem dX11_tells_2 : decode cX11_tells 2 = .ok (.iload_n 2, 1) := by decide +kernel
theorem dX11_tells_3 : decode cX11_tells 3 = .ok (.invokevirtual 350, 3) := by decide +kernel
theorem dX11_tells_6 : decode cX11_tells 6 = .ok (.istore_n 3, 1) := by decide +kernel
theorem dX11_tells_7 : decode cX11_tells 7 = .ok (.iload_n 3, 1) := by decide +kernel
theorem dX11_tells_8 : decode cX11_tells 8 = .ok (.ifCond .eq 9, 3) := by decide +kernel
theorem dX11_tells_11 : decode cX11_tells 11 = .ok (.aload_n 0, 1) := by decide +kernel
theorem dX11_tells_12 : decode cX11_tells 12 = .ok (.iload_n 3, 1) := by decide +kernel
theorem dX11_tells_13 : decode cX11_tells 13 = .ok (.invokevirtual 140, 3) := by decide +kernel
theorem dX11_tells_16 : decode cX11_tells 16 = .ok (.ireturn, 1) := by decide +kernel
theorem dX11_tells_17 : decode cX11_tells 17 = .ok (.aload_n 0, 1) := by decide +kernel
theorem dX11_tells_18 : decode cX11_tells 18 = .ok (.getfield 80, 3) := by decide +kernel
theorem dX11_tells_21 : decode cX11_tells 21 = .ok (.aload_n 0, 1) := by decide +kernel
theorem dX11_tells_22 : decode cX11_tells 22 = .ok (.getfield 18, 3) := by decide +kernel
theorem dX11_tells_25 : decode cX11_tells 25 = .ok (.getfield 129, 3) := by decide +kernel
theorem dX11_tells_28 : decode cX11_tells 28 = .ok (.invokevirtual 353, 3) := by decide +kernel
theorem dX11_tells_31 : decode cX11_tells 31 = .ok (.iconst 0, 1) := by decide +kernel
theorem dX11_tells_32 : decode cX11_tells 32 = .ok (.istore 4, 2) := by decide +kernel
theorem dX11_tells_34 : decode cX11_tells 34 = .ok (.iload 4, 2) := by decide +kernel
theorem dX11_tells_36 : decode cX11_tells 36 = .ok (.bipush 32, 2) := by decide +kernel
theorem dX11_tells_38 : decode cX11_tells 38 = .ok (.if_icmp .ge 43, 3) := by decide +kernel
theorem dX11_tells_41 : decode cX11_tells 41 = .ok (.aload_n 0, 1) := by decide +kernel
theorem dX11_tells_42 : decode cX11_tells 42 = .ok (.getfield 102, 3) := by decide +kernel
theorem dX11_tells_45 : decode cX11_tells 45 = .ok (.iload 4, 2) := by decide +kernel
theorem dX11_tells_47 : decode cX11_tells 47 = .ok (.iload 4, 2) := by decide +kernel
theorem dX11_tells_49 : decode cX11_tells 49 = .ok (.aload_n 0, 1) := by decide +kernel
theorem dX11_tells_50 : decode cX11_tells 50 = .ok (.getfield 80, 3) := by decide +kernel
theorem dX11_tells_53 : decode cX11_tells 53 = .ok (.getfield 357, 3) := by decide +kernel
theorem dX11_tells_56 : decode cX11_tells 56 = .ok (.iand, 1) := by decide +kernel
theorem dX11_tells_57 : decode cX11_tells 57 = .ok (.ifCond .ne 7, 3) := by decide +kernel
theorem dX11_tells_60 : decode cX11_tells 60 = .ok (.lconst 0, 1) := by decide +kernel
theorem dX11_tells_61 : decode cX11_tells 61 = .ok (.goto 13, 3) := by decide +kernel
theorem dX11_tells_64 : decode cX11_tells 64 = .ok (.aload_n 0, 1) := by decide +kernel
theorem dX11_tells_65 : decode cX11_tells 65 = .ok (.getfield 18, 3) := by decide +kernel
theorem dX11_tells_68 : decode cX11_tells 68 = .ok (.getfield 129, 3) := by decide +kernel
theorem dX11_tells_71 : decode cX11_tells 71 = .ok (.iload 4, 2) := by decide +kernel
theorem dX11_tells_73 : decode cX11_tells 73 = .ok (.laload, 1) := by decide +kernel
theorem dX11_tells_74 : decode cX11_tells 74 = .ok (.lastore, 1) := by decide +kernel
theorem dX11_tells_75 : decode cX11_tells 75 = .ok (.iinc 4 1, 3) := by decide +kernel
theorem dX11_tells_78 : decode cX11_tells 78 = .ok (.goto (-44), 3) := by decide +kernel
theorem dX11_tells_81 : decode cX11_tells 81 = .ok (.aload_n 0, 1) := by decide +kernel
theorem dX11_tells_82 : decode cX11_tells 82 = .ok (.aload_n 0, 1) := by decide +kernel
theorem dX11_tells_83 : decode cX11_tells 83 = .ok (.getfield 80, 3) := by decide +kernel
theorem dX11_tells_86 : decode cX11_tells 86 = .ok (.getfield 360, 3) := by decide +kernel
theorem dX11_tells_89 : decode cX11_tells 89 = .ok (.aload_n 0, 1) := by decide +kernel
theorem dX11_tells_90 : decode cX11_tells 90 = .ok (.getfield 80, 3) := by decide +kernel
theorem dX11_tells_93 : decode cX11_tells 93 = .ok (.aload_n 0, 1) := by decide +kernel
theorem dX11_tells_94 : decode cX11_tells 94 = .ok (.getfield 102, 3) := by decide +kernel
theorem dX11_tells_97 : decode cX11_tells 97 = .ok (.invokevirtual 392, 3) := by decide +kernel
theorem dX11_tells_100 : decode cX11_tells 100 = .ok (.ladd, 1) := by decide +kernel
theorem dX11_tells_101 : decode cX11_tells 101 = .ok (.ldc2_w 305, 3) := by decide +kernel
theorem dX11_tells_104 : decode cX11_tells 104 = .ok (.invokevirtual 307, 3) := by decide +kernel
theorem dX11_tells_107 : decode cX11_tells 107 = .ok (.ireturn, 1) := by decide +kernel
theorem dX11_dredged_0 : decode cX11_dredged 0 = .ok (.aload_n 0, 1) := by decide +kernel
theorem dX11_dredged_1 : decode cX11_dredged 1 = .ok (.iload_n 1, 1) := by decide +kernel
theorem dX11_dredged_2 : decode cX11_dredged 2 = .ok (.iload_n 2, 1) := by decide +kernel
theorem dX11_dredged_3 : decode cX11_dredged 3 = .ok (.invokevirtual 350, 3) := by decide +kernel
theorem dX11_dredged_6 : decode cX11_dredged 6 = .ok (.istore_n 3, 1) := by decide +kernel
theorem dX11_dredged_7 : decode cX11_dredged 7 = .ok (.iload_n 3, 1) := by decide +kernel
theorem dX11_dredged_8 : decode cX11_dredged 8 = .ok (.ifCond .eq 9, 3) := by decide +kernel
theorem dX11_dredged_11 : decode cX11_dredged 11 = .ok (.aload_n 0, 1) := by decide +kernel
theorem dX11_dredged_12 : decode cX11_dredged 12 = .ok (.iload_n 3, 1) := by decide +kernel
theorem dX11_dredged_13 : decode cX11_dredged 13 = .ok (.invokevirtual 162, 3) := by decide +kernel
theorem dX11_dredged_16 : decode cX11_dredged 16 = .ok (.ireturn, 1) := by decide +kernel
theorem dX11_dredged_17 : decode cX11_dredged 17 = .ok (.iconst (-1), 1) := by decide +kernel
theorem dX11_dredged_18 : decode cX11_dredged 18 = .ok (.istore 4, 2) := by decide +kernel
theorem dX11_dredged_20 : decode cX11_dredged 20 = .ok (.lconst 0, 1) := by decide +kernel
theorem dX11_dredged_21 : decode cX11_dredged 21 = .ok (.lstore 5, 2) := by decide +kernel
theorem dX11_dredged_23 : decode cX11_dredged 23 = .ok (.iconst 0, 1) := by decide +kernel
theorem dX11_dredged_24 : decode cX11_dredged 24 = .ok (.istore 7, 2) := by decide +kernel
theorem dX11_dredged_26 : decode cX11_dredged 26 = .ok (.iload 7, 2) := by decide +kernel
theorem dX11_dredged_28 : decode cX11_dredged 28 = .ok (.aload_n 0, 1) := by decide +kernel
theorem dX11_dredged_29 : decode cX11_dredged 29 = .ok (.getfield 18, 3) := by decide +kernel
theorem dX11_dredged_32 : decode cX11_dredged 32 = .ok (.getfield 58, 3) := by decide +kernel
theorem dX11_dredged_35 : decode cX11_dredged 35 = .ok (.getfield 224, 3) := by decide +kernel
theorem dX11_dredged_38 : decode cX11_dredged 38 = .ok (.if_icmp .ge 39, 3) := by decide +kernel
theorem dX11_dredged_41 : decode cX11_dredged 41 = .ok (.aload_n 0, 1) := by decide +kernel
theorem dX11_dredged_42 : decode cX11_dredged 42 = .ok (.iload 7, 2) := by decide +kernel
theorem dX11_dredged_44 : decode cX11_dredged 44 = .ok (.invokevirtual 403, 3) := by decide +kernel
theorem dX11_dredged_47 : decode cX11_dredged 47 = .ok (.lstore 8, 2) := by decide +kernel
theorem dX11_dredged_49 : decode cX11_dredged 49 = .ok (.iload 4, 2) := by decide +kernel
theorem dX11_dredged_51 : decode cX11_dredged 51 = .ok (.iconst (-1), 1) := by decide +kernel
theorem dX11_dredged_52 : decode cX11_dredged 52 = .ok (.if_icmp .eq 11, 3) := by decide +kernel
theorem dX11_dredged_55 : decode cX11_dredged 55 = .ok (.lload 8, 2) := by decide +kernel
theorem dX11_dredged_57 : decode cX11_dredged 57 = .ok (.lload 5, 2) := by decide +kernel
theorem dX11_dredged_59 : decode cX11_dredged 59 = .ok (.lcmp, 1) := by decide +kernel
theorem dX11_dredged_60 : decode cX11_dredged 60 = .ok (.ifCond .le 11, 3) := by decide +kernel
theorem dX11_dredged_63 : decode cX11_dredged 63 = .ok (.iload 7, 2) := by decide +kernel
theorem dX11_dredged_65 : decode cX11_dredged 65 = .ok (.istore 4, 2) := by decide +kernel
theorem dX11_dredged_67 : decode cX11_dredged 67 = .ok (.lload 8, 2) := by decide +kernel
theorem dX11_dredged_69 : decode cX11_dredged 69 = .ok (.lstore 5, 2) := by decide +kernel
theorem dX11_dredged_71 : decode cX11_dredged 71 = .ok (.iinc 7 1, 3) := by decide +kernel
theorem dX11_dredged_74 : decode cX11_dredged 74 = .ok (.goto (-48), 3) := by decide +kernel
theorem dX11_dredged_77 : decode cX11_dredged 77 = .ok (.iload 4, 2) := by decide +kernel
theorem dX11_dredged_79 : decode cX11_dredged 79 = .ok (.iconst (-1), 1) := by decide +kernel
theorem dX11_dredged_80 : decode cX11_dredged 80 = .ok (.if_icmp .ne 10, 3) := by decide +kernel
theorem dX11_dredged_83 : decode cX11_dredged 83 = .ok (.aload_n 0, 1) := by decide +kernel
theorem dX11_dredged_84 : decode cX11_dredged 84 = .ok (.bipush 6, 2) := by decide +kernel
theorem dX11_dredged_86 : decode cX11_dredged 86 = .ok (.invokevirtual 162, 3) := by decide +kernel
theorem dX11_dredged_89 : decode cX11_dredged 89 = .ok (.ireturn, 1) := by decide +kernel
theorem dX11_dredged_90 : decode cX11_dredged 90 = .ok (.aload_n 0, 1) := by decide +kernel
theorem dX11_dredged_91 : decode cX11_dredged 91 = .ok (.lload 5, 2) := by decide +kernel
theorem dX11_dredged_93 : decode cX11_dredged 93 = .ok (.ldc2_w 305, 3) := by decide +kernel
theorem dX11_dredged_96 : decode cX11_dredged 96 = .ok (.invokevirtual 307, 3) := by decide +kernel
theorem dX11_dredged_99 : decode cX11_dredged 99 = .ok (.pop, 1) := by decide +kernel
theorem dX11_dredged_100 : decode cX11_dredged 100 = .ok (.aload_n 0, 1) := by decide +kernel
theorem dX11_dredged_101 : decode cX11_dredged 101 = .ok (.iload 4, 2) := by decide +kernel
theorem dX11_dredged_103 : decode cX11_dredged 103 = .ok (.invokevirtual 200, 3) := by decide +kernel
theorem dX11_dredged_106 : decode cX11_dredged 106 = .ok (.ireturn, 1) := by decide +kernel
theorem dX11_brush_0 : decode cX11_brush 0 = .ok (.aload_n 0, 1) := by decide +kernel
theorem dX11_brush_1 : decode cX11_brush 1 = .ok (.iload_n 1, 1) := by decide +kernel
theorem dX11_brush_2 : decode cX11_brush 2 = .ok (.invokevirtual 278, 3) := by decide +kernel
theorem dX11_brush_5 : decode cX11_brush 5 = .ok (.ifCond .eq 44, 3) := by decide +kernel
theorem dX11_brush_8 : decode cX11_brush 8 = .ok (.aload_n 0, 1) := by decide +kernel
theorem dX11_brush_9 : decode cX11_brush 9 = .ok (.iload_n 2, 1) := by decide +kernel
theorem dX11_brush_10 : decode cX11_brush 10 = .ok (.invokevirtual 278, 3) := by decide +kernel
theorem dX11_brush_13 : decode cX11_brush 13 = .ok (.ifCond .eq 36, 3) := by decide +kernel
theorem dX11_brush_16 : decode cX11_brush 16 = .ok (.aload_n 0, 1) := by decide +kernel
theorem dX11_brush_17 : decode cX11_brush 17 = .ok (.iload_n 3, 1) := by decide +kernel
theorem dX11_brush_18 : decode cX11_brush 18 = .ok (.invokevirtual 257, 3) := by decide +kernel
theorem dX11_brush_21 : decode cX11_brush 21 = .ok (.ifCond .eq 28, 3) := by decide +kernel
theorem dX11_brush_24 : decode cX11_brush 24 = .ok (.iload 4, 2) := by decide +kernel
theorem dX11_brush_26 : decode cX11_brush 26 = .ok (.ifCond .lt 23, 3) := by decide +kernel
theorem dX11_brush_29 : decode cX11_brush 29 = .ok (.iload 4, 2) := by decide +kernel
theorem dX11_brush_31 : decode cX11_brush 31 = .ok (.bipush 16, 2) := by decide +kernel
theorem dX11_brush_33 : decode cX11_brush 33 = .ok (.if_icmp .gt 16, 3) := by decide +kernel
theorem dX11_brush_36 : decode cX11_brush 36 = .ok (.iload 5, 2) := by decide +kernel
theorem dX11_brush_38 : decode cX11_brush 38 = .ok (.iconst 1, 1) := by decide +kernel
theorem dX11_brush_39 : decode cX11_brush 39 = .ok (.if_icmp .lt 10, 3) := by decide +kernel
theorem dX11_brush_42 : decode cX11_brush 42 = .ok (.iload 5, 2) := by decide +kernel
theorem dX11_brush_44 : decode cX11_brush 44 = .ok (.bipush 9, 2) := by decide +kernel
theorem dX11_brush_46 : decode cX11_brush 46 = .ok (.if_icmp .le 9, 3) := by decide +kernel
theorem dX11_brush_49 : decode cX11_brush 49 = .ok (.aload_n 0, 1) := by decide +kernel
theorem dX11_brush_50 : decode cX11_brush 50 = .ok (.iconst 1, 1) := by decide +kernel
theorem dX11_brush_51 : decode cX11_brush 51 = .ok (.invokevirtual 140, 3) := by decide +kernel
theorem dX11_brush_54 : decode cX11_brush 54 = .ok (.ireturn, 1) := by decide +kernel
theorem dX11_brush_55 : decode cX11_brush 55 = .ok (.aload_n 0, 1) := by decide +kernel
theorem dX11_brush_56 : decode cX11_brush 56 = .ok (.getfield 18, 3) := by decide +kernel
theorem dX11_brush_59 : decode cX11_brush 59 = .ok (.getfield 227, 3) := by decide +kernel
theorem dX11_brush_62 : decode cX11_brush 62 = .ok (.iload 5, 2) := by decide +kernel
theorem dX11_brush_64 : decode cX11_brush 64 = .ok (.iadd, 1) := by decide +kernel
theorem dX11_brush_65 : decode cX11_brush 65 = .ok (.bipush 99, 2) := by decide +kernel
theorem dX11_brush_67 : decode cX11_brush 67 = .ok (.if_icmp .le 9, 3) := by decide +kernel
theorem dX11_brush_70 : decode cX11_brush 70 = .ok (.aload_n 0, 1) := by decide +kernel
theorem dX11_brush_71 : decode cX11_brush 71 = .ok (.iconst 4, 1) := by decide +kernel
theorem dX11_brush_72 : decode cX11_brush 72 = .ok (.invokevirtual 140, 3) := by decide +kernel
theorem dX11_brush_75 : decode cX11_brush 75 = .ok (.ireturn, 1) := by decide +kernel
theorem dX11_brush_76 : decode cX11_brush 76 = .ok (.aload_n 0, 1) := by decide +kernel
theorem dX11_brush_77 : decode cX11_brush 77 = .ok (.getfield 80, 3) := by decide +kernel
theorem dX11_brush_80 : decode cX11_brush 80 = .ok (.aload_n 0, 1) := by decide +kernel
theorem dX11_brush_81 : decode cX11_brush 81 = .ok (.getfield 18, 3) := by decide +kernel
theorem dX11_brush_84 : decode cX11_brush 84 = .ok (.getfield 58, 3) := by decide +kernel
theorem dX11_brush_87 : decode cX11_brush 87 = .ok (.aload_n 0, 1) := by decide +kernel
theorem dX11_brush_88 : decode cX11_brush 88 = .ok (.getfield 18, 3) := by decide +kernel
theorem dX11_brush_91 : decode cX11_brush 91 = .ok (.getfield 227, 3) := by decide +kernel
theorem dX11_brush_94 : decode cX11_brush 94 = .ok (.iload 5, 2) := by decide +kernel
theorem dX11_brush_96 : decode cX11_brush 96 = .ok (.iadd, 1) := by decide +kernel
theorem dX11_brush_97 : decode cX11_brush 97 = .ok (.aload_n 0, 1) := by decide +kernel
theorem dX11_brush_98 : decode cX11_brush 98 = .ok (.getfield 18, 3) := by decide +kernel
theorem dX11_brush_101 : decode cX11_brush 101 = .ok (.getfield 230, 3) := by decide +kernel
theorem dX11_brush_104 : decode cX11_brush 104 = .ok (.invokevirtual 294, 3) := by decide +kernel
theorem dX11_brush_107 : decode cX11_brush 107 = .ok (.aload_n 0, 1) := by decide +kernel
theorem dX11_brush_108 : decode cX11_brush 108 = .ok (.getfield 80, 3) := by decide +kernel
theorem dX11_brush_111 : decode cX11_brush 111 = .ok (.iload_n 1, 1) := by decide +kernel
theorem dX11_brush_112 : decode cX11_brush 112 = .ok (.iload_n 2, 1) := by decide +kernel
theorem dX11_brush_113 : decode cX11_brush 113 = .ok (.invokevirtual 340, 3) := by decide +kernel
theorem dX11_brush_116 : decode cX11_brush 116 = .ok (.ifCond .ne 10, 3) := by decide +kernel
theorem dX11_brush_119 : decode cX11_brush 119 = .ok (.aload_n 0, 1) := by decide +kernel
theorem dX11_brush_120 : decode cX11_brush 120 = .ok (.bipush 6, 2) := by decide +kernel
theorem dX11_brush_122 : decode cX11_brush 122 = .ok (.invokevirtual 140, 3) := by decide +kernel
theorem dX11_brush_125 : decode cX11_brush 125 = .ok (.ireturn, 1) := by decide +kernel
theorem dX11_brush_126 : decode cX11_brush 126 = .ok (.aload_n 0, 1) := by decide +kernel
theorem dX11_brush_127 : decode cX11_brush 127 = .ok (.getfield 18, 3) := by decide +kernel
theorem dX11_brush_130 : decode cX11_brush 130 = .ok (.getfield 129, 3) := by decide +kernel
theorem dX11_brush_133 : decode cX11_brush 133 = .ok (.aload_n 0, 1) := by decide +kernel
theorem dX11_brush_134 : decode cX11_brush 134 = .ok (.getfield 102, 3) := by decide +kernel
theorem dX11_brush_137 : decode cX11_brush 137 = .ok (.invokestatic 388, 3) := by decide +kernel
theorem dX11_brush_140 : decode cX11_brush 140 = .ok (.iconst 0, 1) := by decide +kernel
theorem dX11_brush_141 : decode cX11_brush 141 = .ok (.istore 6, 2) := by decide +kernel
theorem dX11_brush_143 : decode cX11_brush 143 = .ok (.iload 6, 2) := by decide +kernel
theorem dX11_brush_145 : decode cX11_brush 145 = .ok (.iload 5, 2) := by decide +kernel
theorem dX11_brush_147 : decode cX11_brush 147 = .ok (.if_icmp .ge 30, 3) := by decide +kernel
theorem dX11_brush_150 : decode cX11_brush 150 = .ok (.aload_n 0, 1) := by decide +kernel
theorem dX11_brush_151 : decode cX11_brush 151 = .ok (.getfield 71, 3) := by decide +kernel
theorem dX11_brush_154 : decode cX11_brush 154 = .ok (.aload_n 0, 1) := by decide +kernel
theorem dX11_brush_155 : decode cX11_brush 155 = .ok (.getfield 18, 3) := by decide +kernel
theorem dX11_brush_158 : decode cX11_brush 158 = .ok (.getfield 58, 3) := by decide +kernel
theorem dX11_brush_161 : decode cX11_brush 161 = .ok (.aload_n 0, 1) := by decide +kernel
theorem dX11_brush_162 : decode cX11_brush 162 = .ok (.getfield 102, 3) := by decide +kernel
theorem dX11_brush_165 : decode cX11_brush 165 = .ok (.iload_n 3, 1) := by decide +kernel
theorem dX11_brush_166 : decode cX11_brush 166 = .ok (.iload 4, 2) := by decide +kernel
theorem dX11_brush_168 : decode cX11_brush 168 = .ok (.invokevirtual 314, 3) := by decide +kernel
theorem dX11_brush_171 : decode cX11_brush 171 = .ok (.iinc 6 1, 3) := by decide +kernel
theorem dX11_brush_174 : decode cX11_brush 174 = .ok (.goto (-31), 3) := by decide +kernel
theorem dX11_brush_177 : decode cX11_brush 177 = .ok (.aload_n 0, 1) := by decide +kernel
theorem dX11_brush_178 : decode cX11_brush 178 = .ok (.aload_n 0, 1) := by decide +kernel
theorem dX11_brush_179 : decode cX11_brush 179 = .ok (.getfield 80, 3) := by decide +kernel
theorem dX11_brush_182 : decode cX11_brush 182 = .ok (.aload_n 0, 1) := by decide +kernel
theorem dX11_brush_183 : decode cX11_brush 183 = .ok (.getfield 102, 3) := by decide +kernel
theorem dX11_brush_186 : decode cX11_brush 186 = .ok (.invokevirtual 392, 3) := by decide +kernel
theorem dX11_brush_189 : decode cX11_brush 189 = .ok (.ldc2_w 305, 3) := by decide +kernel
theorem dX11_brush_192 : decode cX11_brush 192 = .ok (.invokevirtual 307, 3) := by decide +kernel
theorem dX11_brush_195 : decode cX11_brush 195 = .ok (.ireturn, 1) := by decide +kernel
theorem dX11_lighten_0 : decode cX11_lighten 0 = .ok (.aload_n 0, 1) := by decide +kernel
theorem dX11_lighten_1 : decode cX11_lighten 1 = .ok (.iload_n 1, 1) := by decide +kernel
theorem dX11_lighten_2 : decode cX11_lighten 2 = .ok (.invokevirtual 278, 3) := by decide +kernel
theorem dX11_lighten_5 : decode cX11_lighten 5 = .ok (.ifCond .eq 22, 3) := by decide +kernel
theorem dX11_lighten_8 : decode cX11_lighten 8 = .ok (.aload_n 0, 1) := by decide +kernel
theorem dX11_lighten_9 : decode cX11_lighten 9 = .ok (.iload_n 2, 1) := by decide +kernel
theorem dX11_lighten_10 : decode cX11_lighten 10 = .ok (.invokevirtual 278, 3) := by decide +kernel
theorem dX11_lighten_13 : decode cX11_lighten 13 = .ok (.ifCond .eq 14, 3) := by decide +kernel
theorem dX11_lighten_16 : decode cX11_lighten 16 = .ok (.iload_n 3, 1) := by decide +kernel
theorem dX11_lighten_17 : decode cX11_lighten 17 = .ok (.iconst 1, 1) := by decide +kernel
theorem dX11_lighten_18 : decode cX11_lighten 18 = .ok (.if_icmp .lt 9, 3) := by decide +kernel
theorem dX11_lighten_21 : decode cX11_lighten 21 = .ok (.iload_n 3, 1) := by decide +kernel
theorem dX11_lighten_22 : decode cX11_lighten 22 = .ok (.bipush 16, 2) := by decide +kernel
theorem dX11_lighten_24 : decode cX11_lighten 24 = .ok (.if_icmp .le 9, 3) := by decide +kernel
theorem dX11_lighten_27 : decode cX11_lighten 27 = .ok (.aload_n 0, 1) := by decide +kernel
theorem dX11_lighten_28 : decode cX11_lighten 28 = .ok (.iconst 1, 1) := by decide +kernel
theorem dX11_lighten_29 : decode cX11_lighten 29 = .ok (.invokevirtual 162, 3) := by decide +kernel
theorem dX11_lighten_32 : decode cX11_lighten 32 = .ok (.ireturn, 1) := by decide +kernel
theorem dX11_lighten_33 : decode cX11_lighten 33 = .ok (.iconst 0, 1) := by decide +kernel
theorem dX11_lighten_34 : decode cX11_lighten 34 = .ok (.istore 4, 2) := by decide +kernel
theorem dX11_lighten_36 : decode cX11_lighten 36 = .ok (.iload 4, 2) := by decide +kernel
theorem dX11_lighten_38 : decode cX11_lighten 38 = .ok (.aload_n 0, 1) := by decide +kernel
theorem dX11_lighten_39 : decode cX11_lighten 39 = .ok (.getfield 18, 3) := by decide +kernel
theorem dX11_lighten_42 : decode cX11_lighten 42 = .ok (.getfield 58, 3) := by decide +kernel
theorem dX11_lighten_45 : decode cX11_lighten 45 = .ok (.getfield 236, 3) := by decide +kernel
theorem dX11_lighten_48 : decode cX11_lighten 48 = .ok (.if_icmp .gt 79, 3) := by decide +kernel
theorem dX11_lighten_51 : decode cX11_lighten 51 = .ok (.aload_n 0, 1) := by decide +kernel
theorem dX11_lighten_52 : decode cX11_lighten 52 = .ok (.getfield 80, 3) := by decide +kernel
theorem dX11_lighten_55 : decode cX11_lighten 55 = .ok (.aload_n 0, 1) := by decide +kernel
theorem dX11_lighten_56 : decode cX11_lighten 56 = .ok (.getfield 18, 3) := by decide +kernel
theorem dX11_lighten_59 : decode cX11_lighten 59 = .ok (.getfield 58, 3) := by decide +kernel
theorem dX11_lighten_62 : decode cX11_lighten 62 = .ok (.aload_n 0, 1) := by decide +kernel
theorem dX11_lighten_63 : decode cX11_lighten 63 = .ok (.getfield 18, 3) := by decide +kernel
theorem dX11_lighten_66 : decode cX11_lighten 66 = .ok (.getfield 227, 3) := by decide +kernel
theorem dX11_lighten_69 : decode cX11_lighten 69 = .ok (.iload 4, 2) := by decide +kernel
theorem dX11_lighten_71 : decode cX11_lighten 71 = .ok (.invokevirtual 294, 3) := by decide +kernel
theorem dX11_lighten_74 : decode cX11_lighten 74 = .ok (.aload_n 0, 1) := by decide +kernel
theorem dX11_lighten_75 : decode cX11_lighten 75 = .ok (.getfield 80, 3) := by decide +kernel
theorem dX11_lighten_78 : decode cX11_lighten 78 = .ok (.iload_n 1, 1) := by decide +kernel
theorem dX11_lighten_79 : decode cX11_lighten 79 = .ok (.iload_n 2, 1) := by decide +kernel
theorem dX11_lighten_80 : decode cX11_lighten 80 = .ok (.invokevirtual 340, 3) := by decide +kernel
theorem dX11_lighten_83 : decode cX11_lighten 83 = .ok (.ifCond .eq 38, 3) := by decide +kernel
theorem dX11_lighten_86 : decode cX11_lighten 86 = .ok (.aload_n 0, 1) := by decide +kernel
theorem dX11_lighten_87 : decode cX11_lighten 87 = .ok (.getfield 80, 3) := by decide +kernel
theorem dX11_lighten_90 : decode cX11_lighten 90 = .ok (.aload_n 0, 1) := by decide +kernel
theorem dX11_lighten_91 : decode cX11_lighten 91 = .ok (.getfield 18, 3) := by decide +kernel
theorem dX11_lighten_94 : decode cX11_lighten 94 = .ok (.getfield 129, 3) := by decide +kernel
theorem dX11_lighten_97 : decode cX11_lighten 97 = .ok (.invokevirtual 392, 3) := by decide +kernel
theorem dX11_lighten_100 : decode cX11_lighten 100 = .ok (.ldc2_w 406, 3) := by decide +kernel
theorem dX11_lighten_103 : decode cX11_lighten 103 = .ok (.lmul, 1) := by decide +kernel
theorem dX11_lighten_104 : decode cX11_lighten 104 = .ok (.iload_n 3, 1) := by decide +kernel
theorem dX11_lighten_105 : decode cX11_lighten 105 = .ok (.i2l, 1) := by decide +kernel
theorem dX11_lighten_106 : decode cX11_lighten 106 = .ok (.ldc2_w 305, 3) := by decide +kernel
theorem dX11_lighten_109 : decode cX11_lighten 109 = .ok (.lmul, 1) := by decide +kernel
theorem dX11_lighten_110 : decode cX11_lighten 110 = .ok (.lcmp, 1) := by decide +kernel
theorem dX11_lighten_111 : decode cX11_lighten 111 = .ok (.ifCond .lt 10, 3) := by decide +kernel
theorem dX11_lighten_114 : decode cX11_lighten 114 = .ok (.aload_n 0, 1) := by decide +kernel
theorem dX11_lighten_115 : decode cX11_lighten 115 = .ok (.iload 4, 2) := by decide +kernel
theorem dX11_lighten_117 : decode cX11_lighten 117 = .ok (.invokevirtual 200, 3) := by decide +kernel
theorem dX11_lighten_120 : decode cX11_lighten 120 = .ok (.ireturn, 1) := by decide +kernel
theorem dX11_lighten_121 : decode cX11_lighten 121 = .ok (.iinc 4 1, 3) := by decide +kernel
theorem dX11_lighten_124 : decode cX11_lighten 124 = .ok (.goto (-88), 3) := by decide +kernel
theorem dX11_lighten_127 : decode cX11_lighten 127 = .ok (.aload_n 0, 1) := by decide +kernel
theorem dX11_lighten_128 : decode cX11_lighten 128 = .ok (.bipush 6, 2) := by decide +kernel
theorem dX11_lighten_130 : decode cX11_lighten 130 = .ok (.invokevirtual 162, 3) := by decide +kernel
theorem dX11_lighten_133 : decode cX11_lighten 133 = .ok (.ireturn, 1) := by decide +kernel
theorem dX11_play_0 : decode cX11_play 0 = .ok (.aload_n 0, 1) := by decide +kernel
theorem dX11_play_1 : decode cX11_play 1 = .ok (.iload_n 1, 1) := by decide +kernel
theorem dX11_play_2 : decode cX11_play 2 = .ok (.invokevirtual 278, 3) := by decide +kernel
theorem dX11_play_5 : decode cX11_play 5 = .ok (.ifCond .eq 22, 3) := by decide +kernel
theorem dX11_play_8 : decode cX11_play 8 = .ok (.aload_n 0, 1) := by decide +kernel
theorem dX11_play_9 : decode cX11_play 9 = .ok (.iload_n 2, 1) := by decide +kernel
theorem dX11_play_10 : decode cX11_play 10 = .ok (.invokevirtual 278, 3) := by decide +kernel
theorem dX11_play_13 : decode cX11_play 13 = .ok (.ifCond .eq 14, 3) := by decide +kernel
theorem dX11_play_16 : decode cX11_play 16 = .ok (.iload_n 3, 1) := by decide +kernel
theorem dX11_play_17 : decode cX11_play 17 = .ok (.ifCond .lt 10, 3) := by decide +kernel
theorem dX11_play_20 : decode cX11_play 20 = .ok (.iload_n 3, 1) := by decide +kernel
theorem dX11_play_21 : decode cX11_play 21 = .ok (.sipush 9999, 3) := by decide +kernel
theorem dX11_play_24 : decode cX11_play 24 = .ok (.if_icmp .le 9, 3) := by decide +kernel
theorem dX11_play_27 : decode cX11_play 27 = .ok (.aload_n 0, 1) := by decide +kernel
theorem dX11_play_28 : decode cX11_play 28 = .ok (.iconst 1, 1) := by decide +kernel
theorem dX11_play_29 : decode cX11_play 29 = .ok (.invokevirtual 162, 3) := by decide +kernel
theorem dX11_play_32 : decode cX11_play 32 = .ok (.ireturn, 1) := by decide +kernel
theorem dX11_play_33 : decode cX11_play 33 = .ok (.aload_n 0, 1) := by decide +kernel
theorem dX11_play_34 : decode cX11_play 34 = .ok (.getfield 98, 3) := by decide +kernel
theorem dX11_play_37 : decode cX11_play 37 = .ok (.aload_n 0, 1) := by decide +kernel
theorem dX11_play_38 : decode cX11_play 38 = .ok (.getfield 18, 3) := by decide +kernel
theorem dX11_play_41 : decode cX11_play 41 = .ok (.iload_n 1, 1) := by decide +kernel
theorem dX11_play_42 : decode cX11_play 42 = .ok (.iload_n 2, 1) := by decide +kernel
theorem dX11_play_43 : decode cX11_play 43 = .ok (.iload_n 3, 1) := by decide +kernel
theorem dX11_play_44 : decode cX11_play 44 = .ok (.invokevirtual 408, 3) := by decide +kernel
theorem dX11_play_47 : decode cX11_play 47 = .ok (.aload_n 0, 1) := by decide +kernel
theorem dX11_play_48 : decode cX11_play 48 = .ok (.getfield 98, 3) := by decide +kernel
theorem dX11_play_51 : decode cX11_play 51 = .ok (.invokevirtual 411, 3) := by decide +kernel
theorem dX11_play_54 : decode cX11_play 54 = .ok (.istore 4, 2) := by decide +kernel
theorem dX11_play_56 : decode cX11_play 56 = .ok (.aload_n 0, 1) := by decide +kernel
theorem dX11_play_57 : decode cX11_play 57 = .ok (.getfield 98, 3) := by decide +kernel
theorem dX11_play_60 : decode cX11_play 60 = .ok (.getfield 414, 3) := by decide +kernel
theorem dX11_play_63 : decode cX11_play 63 = .ok (.iconst 0, 1) := by decide +kernel
theorem dX11_play_64 : decode cX11_play 64 = .ok (.aload_n 0, 1) := by decide +kernel
theorem dX11_play_65 : decode cX11_play 65 = .ok (.getfield 106, 3) := by decide +kernel
theorem dX11_play_68 : decode cX11_play 68 = .ok (.iconst 0, 1) := by decide +kernel
theorem dX11_play_69 : decode cX11_play 69 = .ok (.bipush 7, 2) := by decide +kernel
theorem dX11_play_71 : decode cX11_play 71 = .ok (.invokestatic 176, 3) := by decide +kernel
theorem dX11_play_74 : decode cX11_play 74 = .ok (.aload_n 0, 1) := by decide +kernel
theorem dX11_play_75 : decode cX11_play 75 = .ok (.iconst 1, 1) := by decide +kernel
theorem dX11_play_76 : decode cX11_play 76 = .ok (.putfield 110, 3) := by decide +kernel
theorem dX11_play_79 : decode cX11_play 79 = .ok (.aload_n 0, 1) := by decide +kernel
theorem dX11_play_80 : decode cX11_play 80 = .ok (.iload 4, 2) := by decide +kernel
theorem dX11_play_82 : decode cX11_play 82 = .ok (.invokevirtual 200, 3) := by decide +kernel
theorem dX11_play_85 : decode cX11_play 85 = .ok (.ireturn, 1) := by decide +kernel
theorem dX11_played_0 : decode cX11_played 0 = .ok (.iload_n 1, 1) := by decide +kernel
theorem dX11_played_1 : decode cX11_played 1 = .ok (.ifCond .lt 9, 3) := by decide +kernel
theorem dX11_played_4 : decode cX11_played 4 = .ok (.iload_n 1, 1) := by decide +kernel
theorem dX11_played_5 : decode cX11_played 5 = .ok (.bipush 7, 2) := by decide +kernel
theorem dX11_played_7 : decode cX11_played 7 = .ok (.if_icmp .lt 9, 3) := by decide +kernel
theorem dX11_played_10 : decode cX11_played 10 = .ok (.aload_n 0, 1) := by decide +kernel
theorem dX11_played_11 : decode cX11_played 11 = .ok (.iconst 1, 1) := by decide +kernel
theorem dX11_played_12 : decode cX11_played 12 = .ok (.invokevirtual 162, 3) := by decide +kernel
theorem dX11_played_15 : decode cX11_played 15 = .ok (.ireturn, 1) := by decide +kernel
theorem dX11_played_16 : decode cX11_played 16 = .ok (.aload_n 0, 1) := by decide +kernel
theorem dX11_played_17 : decode cX11_played 17 = .ok (.getfield 110, 3) := by decide +kernel
theorem dX11_played_20 : decode cX11_played 20 = .ok (.ifCond .eq 16, 3) := by decide +kernel
theorem dX11_played_23 : decode cX11_played 23 = .ok (.aload_n 0, 1) := by decide +kernel
theorem dX11_played_24 : decode cX11_played 24 = .ok (.aload_n 0, 1) := by decide +kernel
theorem dX11_played_25 : decode cX11_played 25 = .ok (.getfield 106, 3) := by decide +kernel
theorem dX11_played_28 : decode cX11_played 28 = .ok (.iload_n 1, 1) := by decide +kernel
theorem dX11_played_29 : decode cX11_played 29 = .ok (.iaload, 1) := by decide +kernel
theorem dX11_played_30 : decode cX11_played 30 = .ok (.invokevirtual 200, 3) := by decide +kernel
theorem dX11_played_33 : decode cX11_played 33 = .ok (.goto 9, 3) := by decide +kernel
theorem dX11_played_36 : decode cX11_played 36 = .ok (.aload_n 0, 1) := by decide +kernel
theorem dX11_played_37 : decode cX11_played 37 = .ok (.bipush 6, 2) := by decide +kernel
theorem dX11_played_39 : decode cX11_played 39 = .ok (.invokevirtual 162, 3) := by decide +kernel
theorem dX11_played_42 : decode cX11_played 42 = .ok (.ireturn, 1) := by decide +kernel
theorem dX11_tally_0 : decode cX11_tally 0 = .ok (.aload_n 0, 1) := by decide +kernel
theorem dX11_tally_1 : decode cX11_tally 1 = .ok (.iload_n 1, 1) := by decide +kernel
theorem dX11_tally_2 : decode cX11_tally 2 = .ok (.invokevirtual 278, 3) := by decide +kernel
theorem dX11_tally_5 : decode cX11_tally 5 = .ok (.ifCond .eq 58, 3) := by decide +kernel
theorem dX11_tally_8 : decode cX11_tally 8 = .ok (.aload_n 0, 1) := by decide +kernel
theorem dX11_tally_9 : decode cX11_tally 9 = .ok (.iload_n 2, 1) := by decide +kernel
theorem dX11_tally_10 : decode cX11_tally 10 = .ok (.invokevirtual 278, 3) := by decide +kernel
theorem dX11_tally_13 : decode cX11_tally 13 = .ok (.ifCond .eq 50, 3) := by decide +kernel
theorem dX11_tally_16 : decode cX11_tally 16 = .ok (.iload_n 3, 1) := by decide +kernel
theorem dX11_tally_17 : decode cX11_tally 17 = .ok (.ifCond .lt 46, 3) := by decide +kernel
theorem dX11_tally_20 : decode cX11_tally 20 = .ok (.iload_n 3, 1) := by decide +kernel
theorem dX11_tally_21 : decode cX11_tally 21 = .ok (.sipush 9999, 3) := by decide +kernel
theorem dX11_tally_24 : decode cX11_tally 24 = .ok (.if_icmp .gt 39, 3) := by decide +kernel
theorem dX11_tally_27 : decode cX11_tally 27 = .ok (.iload 4, 2) := by decide +kernel
theorem dX11_tally_29 : decode cX11_tally 29 = .ok (.iconst 1, 1) := by decide +kernel
theorem dX11_tally_30 : decode cX11_tally 30 = .ok (.if_icmp .lt 33, 3) := by decide +kernel
theorem dX11_tally_33 : decode cX11_tally 33 = .ok (.iload 4, 2) := by decide +kernel
theorem dX11_tally_35 : decode cX11_tally 35 = .ok (.bipush 30, 2) := by decide +kernel
theorem dX11_tally_37 : decode cX11_tally 37 = .ok (.if_icmp .gt 26, 3) := by decide +kernel
theorem dX11_tally_40 : decode cX11_tally 40 = .ok (.iload 5, 2) := by decide +kernel
theorem dX11_tally_42 : decode cX11_tally 42 = .ok (.ifCond .lt 21, 3) := by decide +kernel
theorem dX11_tally_45 : decode cX11_tally 45 = .ok (.iload 5, 2) := by decide +kernel
theorem dX11_tally_47 : decode cX11_tally 47 = .ok (.iconst 3, 1) := by decide +kernel
theorem dX11_tally_48 : decode cX11_tally 48 = .ok (.if_icmp .gt 15, 3) := by decide +kernel
theorem dX11_tally_51 : decode cX11_tally 51 = .ok (.iload_n 3, 1) := by decide +kernel
theorem dX11_tally_52 : decode cX11_tally 52 = .ok (.iload 4, 2) := by decide +kernel
theorem dX11_tally_54 : decode cX11_tally 54 = .ok (.iadd, 1) := by decide +kernel
theorem dX11_tally_55 : decode cX11_tally 55 = .ok (.iconst 1, 1) := by decide +kernel
theorem dX11_tally_56 : decode cX11_tally 56 = .ok (.isub, 1) := by decide +kernel
theorem dX11_tally_57 : decode cX11_tally 57 = .ok (.sipush 9999, 3) := by decide +kernel
theorem dX11_tally_60 : decode cX11_tally 60 = .ok (.if_icmp .le 9, 3) := by decide +kernel
theorem dX11_tally_63 : decode cX11_tally 63 = .ok (.aload_n 0, 1) := by decide +kernel
theorem dX11_tally_64 : decode cX11_tally 64 = .ok (.iconst 1, 1) := by decide +kernel
theorem dX11_tally_65 : decode cX11_tally 65 = .ok (.invokevirtual 162, 3) := by decide +kernel
theorem dX11_tally_68 : decode cX11_tally 68 = .ok (.ireturn, 1) := by decide +kernel
theorem dX11_tally_69 : decode cX11_tally 69 = .ok (.iconst 0, 1) := by decide +kernel
theorem dX11_tally_70 : decode cX11_tally 70 = .ok (.istore 6, 2) := by decide +kernel
theorem dX11_tally_72 : decode cX11_tally 72 = .ok (.iconst 0, 1) := by decide +kernel
theorem dX11_tally_73 : decode cX11_tally 73 = .ok (.istore 7, 2) := by decide +kernel
theorem dX11_tally_75 : decode cX11_tally 75 = .ok (.iload 7, 2) := by decide +kernel
theorem dX11_tally_77 : decode cX11_tally 77 = .ok (.iload 4, 2) := by decide +kernel
theorem dX11_tally_79 : decode cX11_tally 79 = .ok (.if_icmp .ge 41, 3) := by decide +kernel
theorem dX11_tally_82 : decode cX11_tally 82 = .ok (.aload_n 0, 1) := by decide +kernel
theorem dX11_tally_83 : decode cX11_tally 83 = .ok (.getfield 98, 3) := by decide +kernel
theorem dX11_tally_86 : decode cX11_tally 86 = .ok (.aload_n 0, 1) := by decide +kernel
theorem dX11_tally_87 : decode cX11_tally 87 = .ok (.getfield 18, 3) := by decide +kernel
theorem dX11_tally_90 : decode cX11_tally 90 = .ok (.iload_n 1, 1) := by decide +kernel
theorem dX11_tally_91 : decode cX11_tally 91 = .ok (.iload_n 2, 1) := by decide +kernel
theorem dX11_tally_92 : decode cX11_tally 92 = .ok (.iload_n 3, 1) := by decide +kernel
theorem dX11_tally_93 : decode cX11_tally 93 = .ok (.iload 7, 2) := by decide +kernel
theorem dX11_tally_95 : decode cX11_tally 95 = .ok (.iadd, 1) := by decide +kernel
theorem dX11_tally_96 : decode cX11_tally 96 = .ok (.invokevirtual 408, 3) := by decide +kernel
theorem dX11_tally_99 : decode cX11_tally 99 = .ok (.aload_n 0, 1) := by decide +kernel
theorem dX11_tally_100 : decode cX11_tally 100 = .ok (.getfield 98, 3) := by decide +kernel
theorem dX11_tally_103 : decode cX11_tally 103 = .ok (.invokevirtual 411, 3) := by decide +kernel
theorem dX11_tally_106 : decode cX11_tally 106 = .ok (.iload 5, 2) := by decide +kernel
theorem dX11_tally_108 : decode cX11_tally 108 = .ok (.if_icmp .ne 6, 3) := by decide +kernel
theorem dX11_tally_111 : decode cX11_tally 111 = .ok (.iinc 6 1, 3) := by decide +kernel
theorem dX11_tally_114 : decode cX11_tally 114 = .ok (.iinc 7 1, 3) := by decide +kernel
theorem dX11_tally_117 : decode cX11_tally 117 = .ok (.goto (-42), 3) := by decide +kernel
theorem dX11_tally_120 : decode cX11_tally 120 = .ok (.aload_n 0, 1) := by decide +kernel
theorem dX11_tally_121 : decode cX11_tally 121 = .ok (.iload 6, 2) := by decide +kernel
theorem dX11_tally_123 : decode cX11_tally 123 = .ok (.invokevirtual 200, 3) := by decide +kernel
theorem dX11_tally_126 : decode cX11_tally 126 = .ok (.ireturn, 1) := by decide +kernel
theorem dX11_mark_0 : decode cX11_mark 0 = .ok (.aload_n 0, 1) := by decide +kernel
theorem dX11_mark_1 : decode cX11_mark 1 = .ok (.getfield 114, 3) := by decide +kernel
theorem dX11_mark_4 : decode cX11_mark 4 = .ok (.iconst 3, 1) := by decide +kernel
theorem dX11_mark_5 : decode cX11_mark 5 = .ok (.if_icmp .lt 9, 3) := by decide +kernel
theorem dX11_mark_8 : decode cX11_mark 8 = .ok (.aload_n 0, 1) := by decide +kernel
theorem dX11_mark_9 : decode cX11_mark 9 = .ok (.iconst 4, 1) := by decide +kernel
theorem dX11_mark_10 : decode cX11_mark 10 = .ok (.invokevirtual 162, 3) := by decide +kernel
theorem dX11_mark_13 : decode cX11_mark 13 = .ok (.ireturn, 1) := by decide +kernel
theorem dX11_mark_14 : decode cX11_mark 14 = .ok (.aload_n 0, 1) := by decide +kernel
theorem dX11_mark_15 : decode cX11_mark 15 = .ok (.getfield 22, 3) := by decide +kernel
theorem dX11_mark_18 : decode cX11_mark 18 = .ok (.aload_n 0, 1) := by decide +kernel
theorem dX11_mark_19 : decode cX11_mark 19 = .ok (.getfield 114, 3) := by decide +kernel
theorem dX11_mark_22 : decode cX11_mark 22 = .ok (.aaload, 1) := by decide +kernel
theorem dX11_mark_23 : decode cX11_mark 23 = .ok (.aload_n 0, 1) := by decide +kernel
theorem dX11_mark_24 : decode cX11_mark 24 = .ok (.getfield 18, 3) := by decide +kernel
theorem dX11_mark_27 : decode cX11_mark 27 = .ok (.invokevirtual 417, 3) := by decide +kernel
theorem dX11_mark_30 : decode cX11_mark 30 = .ok (.aload_n 0, 1) := by decide +kernel
theorem dX11_mark_31 : decode cX11_mark 31 = .ok (.dup, 1) := by decide +kernel
theorem dX11_mark_32 : decode cX11_mark 32 = .ok (.getfield 114, 3) := by decide +kernel
theorem dX11_mark_35 : decode cX11_mark 35 = .ok (.iconst 1, 1) := by decide +kernel
theorem dX11_mark_36 : decode cX11_mark 36 = .ok (.iadd, 1) := by decide +kernel
theorem dX11_mark_37 : decode cX11_mark 37 = .ok (.putfield 114, 3) := by decide +kernel
theorem dX11_mark_40 : decode cX11_mark 40 = .ok (.aload_n 0, 1) := by decide +kernel
theorem dX11_mark_41 : decode cX11_mark 41 = .ok (.aload_n 0, 1) := by decide +kernel
theorem dX11_mark_42 : decode cX11_mark 42 = .ok (.getfield 114, 3) := by decide +kernel
theorem dX11_mark_45 : decode cX11_mark 45 = .ok (.invokevirtual 200, 3) := by decide +kernel
theorem dX11_mark_48 : decode cX11_mark 48 = .ok (.ireturn, 1) := by decide +kernel
theorem dX11_back_0 : decode cX11_back 0 = .ok (.aload_n 0, 1) := by decide +kernel
theorem dX11_back_1 : decode cX11_back 1 = .ok (.getfield 114, 3) := by decide +kernel
theorem dX11_back_4 : decode cX11_back 4 = .ok (.ifCond .gt 10, 3) := by decide +kernel
theorem dX11_back_7 : decode cX11_back 7 = .ok (.aload_n 0, 1) := by decide +kernel
theorem dX11_back_8 : decode cX11_back 8 = .ok (.bipush 6, 2) := by decide +kernel
theorem dX11_back_10 : decode cX11_back 10 = .ok (.invokevirtual 162, 3) := by decide +kernel
theorem dX11_back_13 : decode cX11_back 13 = .ok (.ireturn, 1) := by decide +kernel
theorem dX11_back_14 : decode cX11_back 14 = .ok (.aload_n 0, 1) := by decide +kernel
theorem dX11_back_15 : decode cX11_back 15 = .ok (.dup, 1) := by decide +kernel
theorem dX11_back_16 : decode cX11_back 16 = .ok (.getfield 114, 3) := by decide +kernel
theorem dX11_back_19 : decode cX11_back 19 = .ok (.iconst 1, 1) := by decide +kernel
theorem dX11_back_20 : decode cX11_back 20 = .ok (.isub, 1) := by decide +kernel
theorem dX11_back_21 : decode cX11_back 21 = .ok (.putfield 114, 3) := by decide +kernel
theorem dX11_back_24 : decode cX11_back 24 = .ok (.aload_n 0, 1) := by decide +kernel
theorem dX11_back_25 : decode cX11_back 25 = .ok (.getfield 18, 3) := by decide +kernel
theorem dX11_back_28 : decode cX11_back 28 = .ok (.aload_n 0, 1) := by decide +kernel
theorem dX11_back_29 : decode cX11_back 29 = .ok (.getfield 22, 3) := by decide +kernel
theorem dX11_back_32 : decode cX11_back 32 = .ok (.aload_n 0, 1) := by decide +kernel
theorem dX11_back_33 : decode cX11_back 33 = .ok (.getfield 114, 3) := by decide +kernel
theorem dX11_back_36 : decode cX11_back 36 = .ok (.aaload, 1) := by decide +kernel
theorem dX11_back_37 : decode cX11_back 37 = .ok (.invokevirtual 417, 3) := by decide +kernel
theorem dX11_back_40 : decode cX11_back 40 = .ok (.aload_n 0, 1) := by decide +kernel
theorem dX11_back_41 : decode cX11_back 41 = .ok (.aload_n 0, 1) := by decide +kernel
theorem dX11_back_42 : decode cX11_back 42 = .ok (.getfield 114, 3) := by decide +kernel
theorem dX11_back_45 : decode cX11_back 45 = .ok (.invokevirtual 200, 3) := by decide +kernel
theorem dX11_back_48 : decode cX11_back 48 = .ok (.ireturn, 1) := by decide +kernel
theorem dX11_fail_0 : decode cX11_fail 0 = .ok (.aload_n 0, 1) := by decide +kernel
theorem dX11_fail_1 : decode cX11_fail 1 = .ok (.iload_n 1, 1) := by decide +kernel
theorem dX11_fail_2 : decode cX11_fail 2 = .ok (.putfield 118, 3) := by decide +kernel
theorem dX11_fail_5 : decode cX11_fail 5 = .ok (.iconst (-1), 1) := by decide +kernel
theorem dX11_fail_6 : decode cX11_fail 6 = .ok (.ireturn, 1) := by decide +kernel
theorem dX11_refuse_0 : decode cX11_refuse 0 = .ok (.aload_n 0, 1) := by decide +kernel
theorem dX11_refuse_1 : decode cX11_refuse 1 = .ok (.iload_n 1, 1) := by decide +kernel
theorem dX11_refuse_2 : decode cX11_refuse 2 = .ok (.putfield 118, 3) := by decide +kernel
theorem dX11_refuse_5 : decode cX11_refuse 5 = .ok (.iconst 0, 1) := by decide +kernel
theorem dX11_refuse_6 : decode cX11_refuse 6 = .ok (.ireturn, 1) := by decide +kernel
theorem dX11_answer_0 : decode cX11_answer 0 = .ok (.aload_n 0, 1) := by decide +kernel
theorem dX11_answer_1 : decode cX11_answer 1 = .ok (.iconst 0, 1) := by decide +kernel
theorem dX11_answer_2 : decode cX11_answer 2 = .ok (.putfield 118, 3) := by decide +kernel
theorem dX11_answer_5 : decode cX11_answer 5 = .ok (.iload_n 1, 1) := by decide +kernel
theorem dX11_answer_6 : decode cX11_answer 6 = .ok (.ireturn, 1) := by decide +kernel
theorem dX11_agree_0 : decode cX11_agree 0 = .ok (.aload_n 0, 1) := by decide +kernel
theorem dX11_agree_1 : decode cX11_agree 1 = .ok (.iconst 0, 1) := by decide +kernel
theorem dX11_agree_2 : decode cX11_agree 2 = .ok (.putfield 118, 3) := by decide +kernel
theorem dX11_agree_5 : decode cX11_agree 5 = .ok (.iconst 1, 1) := by decide +kernel
theorem dX11_agree_6 : decode cX11_agree 6 = .ok (.ireturn, 1) := by decide +kernel
theorem dX11_tellFraction_0 : decode cX11_tellFraction 0 = .ok (.lload_n 1, 1) := by decide +kernel
theorem dX11_tellFraction_1 : decode cX11_tellFraction 1 = .ok (.lload_n 3, 1) := by decide +kernel
theorem dX11_tellFraction_2 : decode cX11_tellFraction 2 = .ok (.invokestatic 421, 3) := by decide +kernel
theorem dX11_tellFraction_5 : decode cX11_tellFraction 5 = .ok (.lstore 5, 2) := by decide +kernel
theorem dX11_tellFraction_7 : decode cX11_tellFraction 7 = .ok (.lload 5, 2) := by decide +kernel
theorem dX11_tellFraction_9 : decode cX11_tellFraction 9 = .ok (.lconst 0, 1) := by decide +kernel
theorem dX11_tellFraction_10 : decode cX11_tellFraction 10 = .ok (.lcmp, 1) := by decide +kernel
theorem dX11_tellFraction_11 : decode cX11_tellFraction 11 = .ok (.ifCond .le 19, 3) := by decide +kernel
theorem dX11_tellFraction_14 : decode cX11_tellFraction 14 = .ok (.aload_n 0, 1) := by decide +kernel
theorem dX11_tellFraction_15 : decode cX11_tellFraction 15 = .ok (.lload_n 1, 1) := by decide +kernel
theorem dX11_tellFraction_16 : decode cX11_tellFraction 16 = .ok (.lload 5, 2) := by decide +kernel
theorem dX11_tellFraction_18 : decode cX11_tellFraction 18 = .ok (.ldiv, 1) := by decide +kernel
theorem dX11_tellFraction_19 : decode cX11_tellFraction 19 = .ok (.putfield 121, 3) := by decide +kernel
theorem dX11_tellFraction_22 : decode cX11_tellFraction 22 = .ok (.aload_n 0, 1) := by decide +kernel
theorem dX11_tellFraction_23 : decode cX11_tellFraction 23 = .ok (.lload_n 3, 1) := by decide +kernel
theorem dX11_tellFraction_24 : decode cX11_tellFraction 24 = .ok (.lload 5, 2) := by decide +kernel
theorem dX11_tellFraction_26 : decode cX11_tellFraction 26 = .ok (.ldiv, 1) := by decide +kernel
theorem dX11_tellFraction_27 : decode cX11_tellFraction 27 = .ok (.putfield 125, 3) := by decide +kernel
theorem dX11_tellFraction_30 : decode cX11_tellFraction 30 = .ok (.aload_n 0, 1) := by decide +kernel
theorem dX11_tellFraction_31 : decode cX11_tellFraction 31 = .ok (.invokevirtual 147, 3) := by decide +kernel
theorem dX11_tellFraction_34 : decode cX11_tellFraction 34 = .ok (.ireturn, 1) := by decide +kernel
theorem dX11_commonDivisor_0 : decode cX11_commonDivisor 0 = .ok (.lload_n 0, 1) := by decide +kernel
theorem dX11_commonDivisor_1 : decode cX11_commonDivisor 1 = .ok (.lstore 4, 2) := by decide +kernel
theorem dX11_commonDivisor_3 : decode cX11_commonDivisor 3 = .ok (.lload_n 2, 1) := by decide +kernel
theorem dX11_commonDivisor_4 : decode cX11_commonDivisor 4 = .ok (.lstore 6, 2) := by decide +kernel
theorem dX11_commonDivisor_6 : decode cX11_commonDivisor 6 = .ok (.iconst 0, 1) := by decide +kernel
theorem dX11_commonDivisor_7 : decode cX11_commonDivisor 7 = .ok (.istore 8, 2) := by decide +kernel
theorem dX11_commonDivisor_9 : decode cX11_commonDivisor 9 = .ok (.iload 8, 2) := by decide +kernel
theorem dX11_commonDivisor_11 : decode cX11_commonDivisor 11 = .ok (.bipush 100, 2) := by decide +kernel
theorem dX11_commonDivisor_13 : decode cX11_commonDivisor 13 = .ok (.if_icmp .ge 31, 3) := by decide +kernel
theorem dX11_commonDivisor_16 : decode cX11_commonDivisor 16 = .ok (.lload 6, 2) := by decide +kernel
theorem dX11_commonDivisor_18 : decode cX11_commonDivisor 18 = .ok (.lconst 0, 1) := by decide +kernel
theorem dX11_commonDivisor_19 : decode cX11_commonDivisor 19 = .ok (.lcmp, 1) := by decide +kernel
theorem dX11_commonDivisor_20 : decode cX11_commonDivisor 20 = .ok (.ifCond .eq 24, 3) := by decide +kernel
theorem dX11_commonDivisor_23 : decode cX11_commonDivisor 23 = .ok (.lload 4, 2) := by decide +kernel
theorem dX11_commonDivisor_25 : decode cX11_commonDivisor 25 = .ok (.lload 6, 2) := by decide +kernel
theorem dX11_commonDivisor_27 : decode cX11_commonDivisor 27 = .ok (.lrem, 1) := by decide +kernel
theorem dX11_commonDivisor_28 : decode cX11_commonDivisor 28 = .ok (.lstore 9, 2) := by decide +kernel
theorem dX11_commonDivisor_30 : decode cX11_commonDivisor 30 = .ok (.lload 6, 2) := by decide +kernel
theorem dX11_commonDivisor_32 : decode cX11_commonDivisor 32 = .ok (.lstore 4, 2) := by decide +kernel
theorem dX11_commonDivisor_34 : decode cX11_commonDivisor 34 = .ok (.lload 9, 2) := by decide +kernel
theorem dX11_commonDivisor_36 : decode cX11_commonDivisor 36 = .ok (.lstore 6, 2) := by decide +kernel
theorem dX11_commonDivisor_38 : decode cX11_commonDivisor 38 = .ok (.iinc 8 1, 3) := by decide +kernel
theorem dX11_commonDivisor_41 : decode cX11_commonDivisor 41 = .ok (.goto (-32), 3) := by decide +kernel
theorem dX11_commonDivisor_44 : decode cX11_commonDivisor 44 = .ok (.lload 4, 2) := by decide +kernel
theorem dX11_commonDivisor_46 : decode cX11_commonDivisor 46 = .ok (.lreturn, 1) := by decide +kernel
theorem dX11_isTray_0 : decode cX11_isTray 0 = .ok (.iload_n 0, 1) := by decide +kernel
theorem dX11_isTray_1 : decode cX11_isTray 1 = .ok (.ifCond .lt 12, 3) := by decide +kernel
theorem dX11_isTray_4 : decode cX11_isTray 4 = .ok (.iload_n 0, 1) := by decide +kernel
theorem dX11_isTray_5 : decode cX11_isTray 5 = .ok (.iconst 4, 1) := by decide +kernel
theorem dX11_isTray_6 : decode cX11_isTray 6 = .ok (.if_icmp .ge 7, 3) := by decide +kernel
theorem dX11_isTray_9 : decode cX11_isTray 9 = .ok (.iconst 1, 1) := by decide +kernel
theorem dX11_isTray_10 : decode cX11_isTray 10 = .ok (.goto 4, 3) := by decide +kernel
theorem dX11_isTray_13 : decode cX11_isTray 13 = .ok (.iconst 0, 1) := by decide +kernel
theorem dX11_isTray_14 : decode cX11_isTray 14 = .ok (.ireturn, 1) := by decide +kernel
theorem dX11_isCell_0 : decode cX11_isCell 0 = .ok (.iload_n 1, 1) := by decide +kernel
theorem dX11_isCell_1 : decode cX11_isCell 1 = .ok (.ifCond .lt 21, 3) := by decide +kernel
theorem dX11_isCell_4 : decode cX11_isCell 4 = .ok (.iload_n 1, 1) := by decide +kernel
theorem dX11_isCell_5 : decode cX11_isCell 5 = .ok (.aload_n 0, 1) := by decide +kernel
theorem dX11_isCell_6 : decode cX11_isCell 6 = .ok (.getfield 18, 3) := by decide +kernel
theorem dX11_isCell_9 : decode cX11_isCell 9 = .ok (.getfield 58, 3) := by decide +kernel
theorem dX11_isCell_12 : decode cX11_isCell 12 = .ok (.invokevirtual 196, 3) := by decide +kernel
theorem dX11_isCell_15 : decode cX11_isCell 15 = .ok (.if_icmp .ge 7, 3) := by decide +kernel
theorem dX11_isCell_18 : decode cX11_isCell 18 = .ok (.iconst 1, 1) := by decide +kernel
theorem dX11_isCell_19 : decode cX11_isCell 19 = .ok (.goto 4, 3) := by decide +kernel
theorem dX11_isCell_22 : decode cX11_isCell 22 = .ok (.iconst 0, 1) := by decide +kernel
theorem dX11_isCell_23 : decode cX11_isCell 23 = .ok (.ireturn, 1) := by decide +kernel
theorem dX11_isBar_0 : decode cX11_isBar 0 = .ok (.iload_n 1, 1) := by decide +kernel
theorem dX11_isBar_1 : decode cX11_isBar 1 = .ok (.ifCond .lt 21, 3) := by decide +kernel
theorem dX11_isBar_4 : decode cX11_isBar 4 = .ok (.iload_n 1, 1) := by decide +kernel
theorem dX11_isBar_5 : decode cX11_isBar 5 = .ok (.aload_n 0, 1) := by decide +kernel
theorem dX11_isBar_6 : decode cX11_isBar 6 = .ok (.getfield 18, 3) := by decide +kernel
theorem dX11_isBar_9 : decode cX11_isBar 9 = .ok (.getfield 58, 3) := by decide +kernel
theorem dX11_isBar_12 : decode cX11_isBar 12 = .ok (.getfield 224, 3) := by decide +kernel
theorem dX11_isBar_15 : decode cX11_isBar 15 = .ok (.if_icmp .ge 7, 3) := by decide +kernel
theorem dX11_isBar_18 : decode cX11_isBar 18 = .ok (.iconst 1, 1) := by decide +kernel
theorem dX11_isBar_19 : decode cX11_isBar 19 = .ok (.goto 4, 3) := by decide +kernel
theorem dX11_isBar_22 : decode cX11_isBar 22 = .ok (.iconst 0, 1) := by decide +kernel
theorem dX11_isBar_23 : decode cX11_isBar 23 = .ok (.ireturn, 1) := by decide +kernel
theorem dX11_isSet_0 : decode cX11_isSet 0 = .ok (.iload_n 1, 1) := by decide +kernel
theorem dX11_isSet_1 : decode cX11_isSet 1 = .ok (.ifCond .lt 21, 3) := by decide +kernel
theorem dX11_isSet_4 : decode cX11_isSet 4 = .ok (.iload_n 1, 1) := by decide +kernel
theorem dX11_isSet_5 : decode cX11_isSet 5 = .ok (.aload_n 0, 1) := by decide +kernel
theorem dX11_isSet_6 : decode cX11_isSet 6 = .ok (.getfield 18, 3) := by decide +kernel
theorem dX11_isSet_9 : decode cX11_isSet 9 = .ok (.getfield 58, 3) := by decide +kernel
theorem dX11_isSet_12 : decode cX11_isSet 12 = .ok (.invokevirtual 337, 3) := by decide +kernel
theorem dX11_isSet_15 : decode cX11_isSet 15 = .ok (.if_icmp .ge 7, 3) := by decide +kernel
theorem dX11_isSet_18 : decode cX11_isSet 18 = .ok (.iconst 1, 1) := by decide +kernel
theorem dX11_isSet_19 : decode cX11_isSet 19 = .ok (.goto 4, 3) := by decide +kernel
theorem dX11_isSet_22 : decode cX11_isSet 22 = .ok (.iconst 0, 1) := by decide +kernel
theorem dX11_isSet_23 : decode cX11_isSet 23 = .ok (.ireturn, 1) := by decide +kernel
theorem dX11_placeStatus_0 : decode cX11_placeStatus 0 = .ok (.iload_n 1, 1) := by decide +kernel
theorem dX11_placeStatus_1 : decode cX11_placeStatus 1 = .ok (.invokestatic 136, 3) := by decide +kernel
theorem dX11_placeStatus_4 : decode cX11_placeStatus 4 = .ok (.ifCond .ne 5, 3) := by decide +kernel
theorem dX11_placeStatus_7 : decode cX11_placeStatus 7 = .ok (.iconst 1, 1) := by decide +kernel
theorem dX11_placeStatus_8 : decode cX11_placeStatus 8 = .ok (.ireturn, 1) := by decide +kernel
theorem dX11_placeStatus_9 : decode cX11_placeStatus 9 = .ok (.aload_n 0, 1) := by decide +kernel
theorem dX11_placeStatus_10 : decode cX11_placeStatus 10 = .ok (.getfield 11, 3) := by decide +kernel
theorem dX11_placeStatus_13 : decode cX11_placeStatus 13 = .ok (.iload_n 1, 1) := by decide +kernel
theorem dX11_placeStatus_14 : decode cX11_placeStatus 14 = .ok (.aaload, 1) := by decide +kernel
theorem dX11_placeStatus_15 : decode cX11_placeStatus 15 = .ok (.invokevirtual 166, 3) := by decide +kernel
theorem dX11_placeStatus_18 : decode cX11_placeStatus 18 = .ok (.ifCond .eq 5, 3) := by decide +kernel
theorem dX11_placeStatus_21 : decode cX11_placeStatus 21 = .ok (.iconst 2, 1) := by decide +kernel
theorem dX11_placeStatus_22 : decode cX11_placeStatus 22 = .ok (.ireturn, 1) := by decide +kernel
theorem dX11_placeStatus_23 : decode cX11_placeStatus 23 = .ok (.iload_n 2, 1) := by decide +kernel
theorem dX11_placeStatus_24 : decode cX11_placeStatus 24 = .ok (.ifCond .lt 20, 3) := by decide +kernel
theorem dX11_placeStatus_27 : decode cX11_placeStatus 27 = .ok (.iload_n 2, 1) := by decide +kernel
theorem dX11_placeStatus_28 : decode cX11_placeStatus 28 = .ok (.aload_n 0, 1) := by decide +kernel
theorem dX11_placeStatus_29 : decode cX11_placeStatus 29 = .ok (.getfield 11, 3) := by decide +kernel
theorem dX11_placeStatus_32 : decode cX11_placeStatus 32 = .ok (.iload_n 1, 1) := by decide +kernel
theorem dX11_placeStatus_33 : decode cX11_placeStatus 33 = .ok (.aaload, 1) := by decide +kernel
theorem dX11_placeStatus_34 : decode cX11_placeStatus 34 = .ok (.getfield 425, 3) := by decide +kernel
theorem dX11_placeStatus_37 : decode cX11_placeStatus 37 = .ok (.if_icmp .ge 7, 3) := by decide +kernel
theorem dX11_placeStatus_40 : decode cX11_placeStatus 40 = .ok (.iconst 0, 1) := by decide +kernel
theorem dX11_placeStatus_41 : decode cX11_placeStatus 41 = .ok (.goto 4, 3) := by decide +kernel
theorem dX11_placeStatus_44 : decode cX11_placeStatus 44 = .ok (.iconst 3, 1) := by decide +kernel
theorem dX11_placeStatus_45 : decode cX11_placeStatus 45 = .ok (.ireturn, 1) := by decide +kernel
theorem dX11_wayStatus_0 : decode cX11_wayStatus 0 = .ok (.iload_n 1, 1) := by decide +kernel
theorem dX11_wayStatus_1 : decode cX11_wayStatus 1 = .ok (.invokestatic 136, 3) := by decide +kernel
theorem dX11_wayStatus_4 : decode cX11_wayStatus 4 = .ok (.ifCond .eq 22, 3) := by decide +kernel
theorem dX11_wayStatus_7 : decode cX11_wayStatus 7 = .ok (.iload_n 2, 1) := by decide +kernel
theorem dX11_wayStatus_8 : decode cX11_wayStatus 8 = .ok (.iconst 1, 1) := by decide +kernel
theorem dX11_wayStatus_9 : decode cX11_wayStatus 9 = .ok (.if_icmp .lt 17, 3) := by decide +kernel
theorem dX11_wayStatus_12 : decode cX11_wayStatus 12 = .ok (.iload_n 2, 1) := by decide +kernel
theorem dX11_wayStatus_13 : decode cX11_wayStatus 13 = .ok (.bipush 40, 2) := by decide +kernel
theorem dX11_wayStatus_15 : decode cX11_wayStatus 15 = .ok (.if_icmp .gt 11, 3) := by decide +kernel
theorem dX11_wayStatus_18 : decode cX11_wayStatus 18 = .ok (.aload_n 0, 1) := by decide +kernel
theorem dX11_wayStatus_19 : decode cX11_wayStatus 19 = .ok (.iload_n 3, 1) := by decide +kernel
theorem dX11_wayStatus_20 : decode cX11_wayStatus 20 = .ok (.invokevirtual 287, 3) := by decide +kernel
theorem dX11_wayStatus_23 : decode cX11_wayStatus 23 = .ok (.ifCond .ne 5, 3) := by decide +kernel
theorem dX11_wayStatus_26 : decode cX11_wayStatus 26 = .ok (.iconst 1, 1) := by decide +kernel
theorem dX11_wayStatus_27 : decode cX11_wayStatus 27 = .ok (.ireturn, 1) := by decide +kernel
theorem dX11_wayStatus_28 : decode cX11_wayStatus 28 = .ok (.aload_n 0, 1) := by decide +kernel
theorem dX11_wayStatus_29 : decode cX11_wayStatus 29 = .ok (.getfield 11, 3) := by decide +kernel
theorem dX11_wayStatus_32 : decode cX11_wayStatus 32 = .ok (.iload_n 1, 1) := by decide +kernel
theorem dX11_wayStatus_33 : decode cX11_wayStatus 33 = .ok (.aaload, 1) := by decide +kernel
theorem dX11_wayStatus_34 : decode cX11_wayStatus 34 = .ok (.invokevirtual 166, 3) := by decide +kernel
theorem dX11_wayStatus_37 : decode cX11_wayStatus 37 = .ok (.ifCond .eq 5, 3) := by decide +kernel
theorem dX11_wayStatus_40 : decode cX11_wayStatus 40 = .ok (.iconst 2, 1) := by decide +kernel
theorem dX11_wayStatus_41 : decode cX11_wayStatus 41 = .ok (.ireturn, 1) := by decide +kernel
theorem dX11_wayStatus_42 : decode cX11_wayStatus 42 = .ok (.aload_n 0, 1) := by decide +kernel
theorem dX11_wayStatus_43 : decode cX11_wayStatus 43 = .ok (.getfield 11, 3) := by decide +kernel
theorem dX11_wayStatus_46 : decode cX11_wayStatus 46 = .ok (.iload_n 1, 1) := by decide +kernel
theorem dX11_wayStatus_47 : decode cX11_wayStatus 47 = .ok (.aaload, 1) := by decide +kernel
theorem dX11_wayStatus_48 : decode cX11_wayStatus 48 = .ok (.iconst 0, 1) := by decide +kernel
theorem dX11_wayStatus_49 : decode cX11_wayStatus 49 = .ok (.iload_n 2, 1) := by decide +kernel
theorem dX11_wayStatus_50 : decode cX11_wayStatus 50 = .ok (.invokevirtual 172, 3) := by decide +kernel
theorem dX11_wayStatus_53 : decode cX11_wayStatus 53 = .ok (.ifCond .ne 5, 3) := by decide +kernel
theorem dX11_wayStatus_56 : decode cX11_wayStatus 56 = .ok (.iconst 3, 1) := by decide +kernel
theorem dX11_wayStatus_57 : decode cX11_wayStatus 57 = .ok (.ireturn, 1) := by decide +kernel
theorem dX11_wayStatus_58 : decode cX11_wayStatus 58 = .ok (.aload_n 0, 1) := by decide +kernel
theorem dX11_wayStatus_59 : decode cX11_wayStatus 59 = .ok (.getfield 18, 3) := by decide +kernel
theorem dX11_wayStatus_62 : decode cX11_wayStatus 62 = .ok (.getfield 58, 3) := by decide +kernel
theorem dX11_wayStatus_65 : decode cX11_wayStatus 65 = .ok (.aload_n 0, 1) := by decide +kernel
theorem dX11_wayStatus_66 : decode cX11_wayStatus 66 = .ok (.getfield 11, 3) := by decide +kernel
theorem dX11_wayStatus_69 : decode cX11_wayStatus 69 = .ok (.iload_n 1, 1) := by decide +kernel
theorem dX11_wayStatus_70 : decode cX11_wayStatus 70 = .ok (.aaload, 1) := by decide +kernel
theorem dX11_wayStatus_71 : decode cX11_wayStatus 71 = .ok (.getfield 155, 3) := by decide +kernel
theorem dX11_wayStatus_74 : decode cX11_wayStatus 74 = .ok (.iload_n 2, 1) := by decide +kernel
theorem dX11_wayStatus_75 : decode cX11_wayStatus 75 = .ok (.invokevirtual 426, 3) := by decide +kernel
theorem dX11_wayStatus_78 : decode cX11_wayStatus 78 = .ok (.ifCond .eq 7, 3) := by decide +kernel
theorem dX11_wayStatus_81 : decode cX11_wayStatus 81 = .ok (.iconst 0, 1) := by decide +kernel
theorem dX11_wayStatus_82 : decode cX11_wayStatus 82 = .ok (.goto 4, 3) := by decide +kernel
theorem dX11_wayStatus_85 : decode cX11_wayStatus 85 = .ok (.iconst 5, 1) := by decide +kernel
theorem dX11_wayStatus_86 : decode cX11_wayStatus 86 = .ok (.ireturn, 1) := by decide +kernel
theorem dX11_choiceStatus_0 : decode cX11_choiceStatus 0 = .ok (.aload_n 0, 1) := by decide +kernel
theorem dX11_choiceStatus_1 : decode cX11_choiceStatus 1 = .ok (.iload_n 1, 1) := by decide +kernel
theorem dX11_choiceStatus_2 : decode cX11_choiceStatus 2 = .ok (.invokevirtual 278, 3) := by decide +kernel
theorem dX11_choiceStatus_5 : decode cX11_choiceStatus 5 = .ok (.ifCond .eq 11, 3) := by decide +kernel
theorem dX11_choiceStatus_8 : decode cX11_choiceStatus 8 = .ok (.aload_n 0, 1) := by decide +kernel
theorem dX11_choiceStatus_9 : decode cX11_choiceStatus 9 = .ok (.iload_n 2, 1) := by decide +kernel
theorem dX11_choiceStatus_10 : decode cX11_choiceStatus 10 = .ok (.invokevirtual 278, 3) := by decide +kernel
theorem dX11_choiceStatus_13 : decode cX11_choiceStatus 13 = .ok (.ifCond .ne 5, 3) := by decide +kernel
theorem dX11_choiceStatus_16 : decode cX11_choiceStatus 16 = .ok (.iconst 1, 1) := by decide +kernel
theorem dX11_choiceStatus_17 : decode cX11_choiceStatus 17 = .ok (.ireturn, 1) := by decide +kernel
theorem dX11_choiceStatus_18 : decode cX11_choiceStatus 18 = .ok (.aload_n 0, 1) := by decide +kernel
theorem dX11_choiceStatus_19 : decode cX11_choiceStatus 19 = .ok (.getfield 80, 3) := by decide +kernel
theorem dX11_choiceStatus_22 : decode cX11_choiceStatus 22 = .ok (.aload_n 0, 1) := by decide +kernel
theorem dX11_choiceStatus_23 : decode cX11_choiceStatus 23 = .ok (.getfield 18, 3) := by decide +kernel
theorem dX11_choiceStatus_26 : decode cX11_choiceStatus 26 = .ok (.getfield 58, 3) := by decide +kernel
theorem dX11_choiceStatus_29 : decode cX11_choiceStatus 29 = .ok (.aload_n 0, 1) := by decide +kernel
theorem dX11_choiceStatus_30 : decode cX11_choiceStatus 30 = .ok (.getfield 18, 3) := by decide +kernel
theorem dX11_choiceStatus_33 : decode cX11_choiceStatus 33 = .ok (.getfield 227, 3) := by decide +kernel
theorem dX11_choiceStatus_36 : decode cX11_choiceStatus 36 = .ok (.aload_n 0, 1) := by decide +kernel
theorem dX11_choiceStatus_37 : decode cX11_choiceStatus 37 = .ok (.getfield 18, 3) := by decide +kernel
theorem dX11_choiceStatus_40 : decode cX11_choiceStatus 40 = .ok (.getfield 230, 3) := by decide +kernel
theorem dX11_choiceStatus_43 : decode cX11_choiceStatus 43 = .ok (.invokevirtual 294, 3) := by decide +kernel
theorem dX11_choiceStatus_46 : decode cX11_choiceStatus 46 = .ok (.aload_n 0, 1) := by decide +kernel
theorem dX11_choiceStatus_47 : decode cX11_choiceStatus 47 = .ok (.getfield 80, 3) := by decide +kernel
theorem dX11_choiceStatus_50 : decode cX11_choiceStatus 50 = .ok (.iload_n 1, 1) := by decide +kernel
theorem dX11_choiceStatus_51 : decode cX11_choiceStatus 51 = .ok (.iload_n 2, 1) := by decide +kernel
theorem dX11_choiceStatus_52 : decode cX11_choiceStatus 52 = .ok (.invokevirtual 340, 3) := by decide +kernel
theorem dX11_choiceStatus_55 : decode cX11_choiceStatus 55 = .ok (.ifCond .eq 7, 3) := by decide +kernel
theorem dX11_choiceStatus_58 : decode cX11_choiceStatus 58 = .ok (.iconst 0, 1) := by decide +kernel
theorem dX11_choiceStatus_59 : decode cX11_choiceStatus 59 = .ok (.goto 5, 3) := by decide +kernel
theorem dX11_choiceStatus_62 : decode cX11_choiceStatus 62 = .ok (.bipush 6, 2) := by decide +kernel
theorem dX11_choiceStatus_64 : decode cX11_choiceStatus 64 = .ok (.ireturn, 1) := by decide +kernel
theorem dX11_startAfresh_0 : decode cX11_startAfresh 0 = .ok (.aload_n 0, 1) := by decide +kernel
theorem dX11_startAfresh_1 : decode cX11_startAfresh 1 = .ok (.getfield 18, 3) := by decide +kernel
theorem dX11_startAfresh_4 : decode cX11_startAfresh 4 = .ok (.iconst 0, 1) := by decide +kernel
theorem dX11_startAfresh_5 : decode cX11_startAfresh 5 = .ok (.putfield 227, 3) := by decide +kernel
theorem dX11_startAfresh_8 : decode cX11_startAfresh 8 = .ok (.aload_n 0, 1) := by decide +kernel
theorem dX11_startAfresh_9 : decode cX11_startAfresh 9 = .ok (.getfield 18, 3) := by decide +kernel
theorem dX11_startAfresh_12 : decode cX11_startAfresh 12 = .ok (.iconst 0, 1) := by decide +kernel
theorem dX11_startAfresh_13 : decode cX11_startAfresh 13 = .ok (.putfield 230, 3) := by decide +kernel
theorem dX11_startAfresh_16 : decode cX11_startAfresh 16 = .ok (.aload_n 0, 1) := by decide +kernel
theorem dX11_startAfresh_17 : decode cX11_startAfresh 17 = .ok (.getfield 71, 3) := by decide +kernel
theorem dX11_startAfresh_20 : decode cX11_startAfresh 20 = .ok (.aload_n 0, 1) := by decide +kernel
theorem dX11_startAfresh_21 : decode cX11_startAfresh 21 = .ok (.getfield 18, 3) := by decide +kernel
theorem dX11_startAfresh_24 : decode cX11_startAfresh 24 = .ok (.getfield 58, 3) := by decide +kernel
theorem dX11_startAfresh_27 : decode cX11_startAfresh 27 = .ok (.aload_n 0, 1) := by decide +kernel
theorem dX11_startAfresh_28 : decode cX11_startAfresh 28 = .ok (.getfield 18, 3) := by decide +kernel
theorem dX11_startAfresh_31 : decode cX11_startAfresh 31 = .ok (.getfield 129, 3) := by decide +kernel
theorem dX11_startAfresh_34 : decode cX11_startAfresh 34 = .ok (.invokevirtual 132, 3) := by decide +kernel
theorem dX11_startAfresh_37 : decode cX11_startAfresh 37 = .ok (.return_, 1) := by decide +kernel
theorem dX11_copyParts_0 : decode cX11_copyParts 0 = .ok (.aload_n 0, 1) := by decide +kernel
theorem dX11_copyParts_1 : decode cX11_copyParts 1 = .ok (.iconst 0, 1) := by decide +kernel
theorem dX11_copyParts_2 : decode cX11_copyParts 2 = .ok (.aload_n 1, 1) := by decide +kernel
theorem dX11_copyParts_3 : decode cX11_copyParts 3 = .ok (.iconst 0, 1) := by decide +kernel
theorem dX11_copyParts_4 : decode cX11_copyParts 4 = .ok (.bipush 32, 2) := by decide +kernel
theorem dX11_copyParts_6 : decode cX11_copyParts 6 = .ok (.invokestatic 176, 3) := by decide +kernel
theorem dX11_copyParts_9 : decode cX11_copyParts 9 = .ok (.return_, 1) := by decide +kernel
theorem dX11_partsMarked_0 : decode cX11_partsMarked 0 = .ok (.lconst 0, 1) := by decide +kernel
theorem dX11_partsMarked_1 : decode cX11_partsMarked 1 = .ok (.lstore_n 2, 1) := by decide +kernel
theorem dX11_partsMarked_2 : decode cX11_partsMarked 2 = .ok (.iconst 0, 1) := by decide +kernel
theorem dX11_partsMarked_3 : decode cX11_partsMarked 3 = .ok (.istore 4, 2) := by decide +kernel
theorem dX11_partsMarked_5 : decode cX11_partsMarked 5 = .ok (.iload 4, 2) := by decide +kernel
theorem dX11_partsMarked_7 : decode cX11_partsMarked 7 = .ok (.iload_n 1, 1) := by decide +kernel
theorem dX11_partsMarked_8 : decode cX11_partsMarked 8 = .ok (.if_icmp .gt 78, 3) := by decide +kernel
theorem dX11_partsMarked_11 : decode cX11_partsMarked 11 = .ok (.iload 4, 2) := by decide +kernel
theorem dX11_partsMarked_13 : decode cX11_partsMarked 13 = .ok (.iload_n 1, 1) := by decide +kernel
theorem dX11_partsMarked_14 : decode cX11_partsMarked 14 = .ok (.iconst (-1), 1) := by decide +kernel
theorem dX11_partsMarked_15 : decode cX11_partsMarked 15 = .ok (.ixor, 1) := by decide +kernel
theorem dX11_partsMarked_16 : decode cX11_partsMarked 16 = .ok (.iand, 1) := by decide +kernel
theorem dX11_partsMarked_17 : decode cX11_partsMarked 17 = .ok (.ifCond .ne 63, 3) := by decide +kernel
theorem dX11_partsMarked_20 : decode cX11_partsMarked 20 = .ok (.iconst 0, 1) := by decide +kernel
theorem dX11_partsMarked_21 : decode cX11_partsMarked 21 = .ok (.istore 5, 2) := by decide +kernel
theorem dX11_partsMarked_23 : decode cX11_partsMarked 23 = .ok (.iload 5, 2) := by decide +kernel
theorem dX11_partsMarked_25 : decode cX11_partsMarked 25 = .ok (.bipush 32, 2) := by decide +kernel
theorem dX11_partsMarked_27 : decode cX11_partsMarked 27 = .ok (.if_icmp .ge 39, 3) := by decide +kernel
theorem dX11_partsMarked_30 : decode cX11_partsMarked 30 = .ok (.aload_n 0, 1) := by decide +kernel
theorem dX11_partsMarked_31 : decode cX11_partsMarked 31 = .ok (.getfield 102, 3) := by decide +kernel
theorem dX11_partsMarked_34 : decode cX11_partsMarked 34 = .ok (.iload 5, 2) := by decide +kernel
theorem dX11_partsMarked_36 : decode cX11_partsMarked 36 = .ok (.iload 5, 2) := by decide +kernel
theorem dX11_partsMarked_38 : decode cX11_partsMarked 38 = .ok (.iload_n 1, 1) := by decide +kernel
theorem dX11_partsMarked_39 : decode cX11_partsMarked 39 = .ok (.iand, 1) := by decide +kernel
theorem dX11_partsMarked_40 : decode cX11_partsMarked 40 = .ok (.iload 4, 2) := by decide +kernel
theorem dX11_partsMarked_42 : decode cX11_partsMarked 42 = .ok (.if_icmp .ne 16, 3) := by decide +kernel
theorem dX11_partsMarked_45 : decode cX11_partsMarked 45 = .ok (.aload_n 0, 1) := by decide +kernel
theorem dX11_partsMarked_46 : decode cX11_partsMarked 46 = .ok (.getfield 18, 3) := by decide +kernel
theorem dX11_partsMarked_49 : decode cX11_partsMarked 49 = .ok (.getfield 129, 3) := by decide +kernel
theorem dX11_partsMarked_52 : decode cX11_partsMarked 52 = .ok (.iload 5, 2) := by decide +kernel
theorem dX11_partsMarked_54 : decode cX11_partsMarked 54 = .ok (.laload, 1) := by decide +kernel
theorem dX11_partsMarked_55 : decode cX11_partsMarked 55 = .ok (.goto 4, 3) := by decide +kernel
theorem dX11_partsMarked_58 : decode cX11_partsMarked 58 = .ok (.lconst 0, 1) := by decide +kernel
theorem dX11_partsMarked_59 : decode cX11_partsMarked 59 = .ok (.lastore, 1) := by decide +kernel
theorem dX11_partsMarked_60 : decode cX11_partsMarked 60 = .ok (.iinc 5 1, 3) := by decide +kernel
theorem dX11_partsMarked_63 : decode cX11_partsMarked 63 = .ok (.goto (-40), 3) := by decide +kernel
theorem dX11_partsMarked_66 : decode cX11_partsMarked 66 = .ok (.lload_n 2, 1) := by decide +kernel
theorem dX11_partsMarked_67 : decode cX11_partsMarked 67 = .ok (.aload_n 0, 1) := by decide +kernel
theorem dX11_partsMarked_68 : decode cX11_partsMarked 68 = .ok (.getfield 80, 3) := by decide +kernel
theorem dX11_partsMarked_71 : decode cX11_partsMarked 71 = .ok (.aload_n 0, 1) := by decide +kernel
theorem dX11_partsMarked_72 : decode cX11_partsMarked 72 = .ok (.getfield 102, 3) := by decide +kernel
theorem dX11_partsMarked_75 : decode cX11_partsMarked 75 = .ok (.invokevirtual 392, 3) := by decide +kernel
theorem dX11_partsMarked_78 : decode cX11_partsMarked 78 = .ok (.ladd, 1) := by decide +kernel
theorem dX11_partsMarked_79 : decode cX11_partsMarked 79 = .ok (.lstore_n 2, 1) := by decide +kernel
theorem dX11_partsMarked_80 : decode cX11_partsMarked 80 = .ok (.iinc 4 1, 3) := by decide +kernel
theorem dX11_partsMarked_83 : decode cX11_partsMarked 83 = .ok (.goto (-78), 3) := by decide +kernel
theorem dX11_partsMarked_86 : decode cX11_partsMarked 86 = .ok (.lload_n 2, 1) := by decide +kernel
theorem dX11_partsMarked_87 : decode cX11_partsMarked 87 = .ok (.lreturn, 1) := by decide +kernel
theorem dX11_partsDredged_0 : decode cX11_partsDredged 0 = .ok (.iconst 1, 1) := by decide +kernel
theorem dX11_partsDredged_1 : decode cX11_partsDredged 1 = .ok (.iload_n 1, 1) := by decide +kernel
theorem dX11_partsDredged_2 : decode cX11_partsDredged 2 = .ok (.ishl, 1) := by decide +kernel
theorem dX11_partsDredged_3 : decode cX11_partsDredged 3 = .ok (.istore_n 2, 1) := by decide +kernel
theorem dX11_partsDredged_4 : decode cX11_partsDredged 4 = .ok (.iconst 0, 1) := by decide +kernel
theorem dX11_partsDredged_5 : decode cX11_partsDredged 5 = .ok (.istore_n 3, 1) := by decide +kernel
theorem dX11_partsDredged_6 : decode cX11_partsDredged 6 = .ok (.iload_n 3, 1) := by decide +kernel
theorem dX11_partsDredged_7 : decode cX11_partsDredged 7 = .ok (.bipush 32, 2) := by decide +kernel
theorem dX11_partsDredged_9 : decode cX11_partsDredged 9 = .ok (.if_icmp .ge 46, 3) := by decide +kernel
theorem dX11_partsDredged_12 : decode cX11_partsDredged 12 = .ok (.aload_n 0, 1) := by decide +kernel
theorem dX11_partsDredged_13 : decode cX11_partsDredged 13 = .ok (.getfield 102, 3) := by decide +kernel
theorem dX11_partsDredged_16 : decode cX11_partsDredged 16 = .ok (.iload_n 3, 1) := by decide +kernel
theorem dX11_partsDredged_17 : decode cX11_partsDredged 17 = .ok (.iload_n 3, 1) := by decide +kernel
theorem dX11_partsDredged_18 : decode cX11_partsDredged 18 = .ok (.iload_n 2, 1) := by decide +kernel
theorem dX11_partsDredged_19 : decode cX11_partsDredged 19 = .ok (.iand, 1) := by decide +kernel
theorem dX11_partsDredged_20 : decode cX11_partsDredged 20 = .ok (.ifCond .ne 27, 3) := by decide +kernel
theorem dX11_partsDredged_23 : decode cX11_partsDredged 23 = .ok (.aload_n 0, 1) := by decide +kernel
theorem dX11_partsDredged_24 : decode cX11_partsDredged 24 = .ok (.getfield 18, 3) := by decide +kernel
theorem dX11_partsDredged_27 : decode cX11_partsDredged 27 = .ok (.getfield 129, 3) := by decide +kernel
theorem dX11_partsDredged_30 : decode cX11_partsDredged 30 = .ok (.iload_n 3, 1) := by decide +kernel
theorem dX11_partsDredged_31 : decode cX11_partsDredged 31 = .ok (.laload, 1) := by decide +kernel
theorem dX11_partsDredged_32 : decode cX11_partsDredged 32 = .ok (.aload_n 0, 1) := by decide +kernel
theorem dX11_partsDredged_33 : decode cX11_partsDredged 33 = .ok (.getfield 18, 3) := by decide +kernel
theorem dX11_partsDredged_36 : decode cX11_partsDredged 36 = .ok (.getfield 129, 3) := by decide +kernel
theorem dX11_partsDredged_39 : decode cX11_partsDredged 39 = .ok (.iload_n 3, 1) := by decide +kernel
theorem dX11_partsDredged_40 : decode cX11_partsDredged 40 = .ok (.iload_n 2, 1) := by decide +kernel
theorem dX11_partsDredged_41 : decode cX11_partsDredged 41 = .ok (.ior, 1) := by decide +kernel
theorem dX11_partsDredged_42 : decode cX11_partsDredged 42 = .ok (.laload, 1) := by decide +kernel
theorem dX11_partsDredged_43 : decode cX11_partsDredged 43 = .ok (.ladd, 1) := by decide +kernel
theorem dX11_partsDredged_44 : decode cX11_partsDredged 44 = .ok (.goto 4, 3) := by decide +kernel
theorem dX11_partsDredged_47 : decode cX11_partsDredged 47 = .ok (.lconst 0, 1) := by decide +kernel
theorem dX11_partsDredged_48 : decode cX11_partsDredged 48 = .ok (.lastore, 1) := by decide +kernel
theorem dX11_partsDredged_49 : decode cX11_partsDredged 49 = .ok (.iinc 3 1, 3) := by decide +kernel
theorem dX11_partsDredged_52 : decode cX11_partsDredged 52 = .ok (.goto (-46), 3) := by decide +kernel
theorem dX11_partsDredged_55 : decode cX11_partsDredged 55 = .ok (.aload_n 0, 1) := by decide +kernel
theorem dX11_partsDredged_56 : decode cX11_partsDredged 56 = .ok (.getfield 80, 3) := by decide +kernel
theorem dX11_partsDredged_59 : decode cX11_partsDredged 59 = .ok (.aload_n 0, 1) := by decide +kernel
theorem dX11_partsDredged_60 : decode cX11_partsDredged 60 = .ok (.getfield 102, 3) := by decide +kernel
theorem dX11_partsDredged_63 : decode cX11_partsDredged 63 = .ok (.invokevirtual 392, 3) := by decide +kernel
theorem dX11_partsDredged_66 : decode cX11_partsDredged 66 = .ok (.lreturn, 1) := by decide +kernel
theorem dX12_init_0 : decode cX12_init 0 = .ok (.aload_n 0, 1) := by decide +kernel
theorem dX12_init_1 : decode cX12_init 1 = .ok (.invokespecial 1, 3) := by decide +kernel
theorem dX12_init_4 : decode cX12_init 4 = .ok (.aload_n 0, 1) := by decide +kernel
theorem dX12_init_5 : decode cX12_init 5 = .ok (.sipush 2200, 3) := by decide +kernel
theorem dX12_init_8 : decode cX12_init 8 = .ok (.newarray .int, 2) := by decide +kernel
theorem dX12_init_10 : decode cX12_init 10 = .ok (.putfield 7, 3) := by decide +kernel
theorem dX12_init_13 : decode cX12_init 13 = .ok (.aload_n 0, 1) := by decide +kernel
theorem dX12_init_14 : decode cX12_init 14 = .ok (.bipush 25, 2) := by decide +kernel
theorem dX12_init_16 : decode cX12_init 16 = .ok (.newarray .long, 2) := by decide +kernel
theorem dX12_init_18 : decode cX12_init 18 = .ok (.putfield 13, 3) := by decide +kernel
theorem dX12_init_21 : decode cX12_init 21 = .ok (.aload_n 0, 1) := by decide +kernel
theorem dX12_init_22 : decode cX12_init 22 = .ok (.lconst 1, 1) := by decide +kernel
theorem dX12_init_23 : decode cX12_init 23 = .ok (.putfield 17, 3) := by decide +kernel
theorem dX12_init_26 : decode cX12_init 26 = .ok (.aload_n 0, 1) := by decide +kernel
theorem dX12_init_27 : decode cX12_init 27 = .ok (.iconst 4, 1) := by decide +kernel
theorem dX12_init_28 : decode cX12_init 28 = .ok (.newarray .int, 2) := by decide +kernel
theorem dX12_init_30 : decode cX12_init 30 = .ok (.putfield 21, 3) := by decide +kernel
theorem dX12_init_33 : decode cX12_init 33 = .ok (.aload_n 0, 1) := by decide +kernel
theorem dX12_init_34 : decode cX12_init 34 = .ok (.iconst 4, 1) := by decide +kernel
theorem dX12_init_35 : decode cX12_init 35 = .ok (.newarray .int, 2) := by decide +kernel
theorem dX12_init_37 : decode cX12_init 37 = .ok (.dup, 1) := by decide +kernel
theorem dX12_init_38 : decode cX12_init 38 = .ok (.iconst 0, 1) := by decide +kernel
theorem dX12_init_39 : decode cX12_init 39 = .ok (.iconst (-1), 1) := by decide +kernel
theorem dX12_init_40 : decode cX12_init 40 = .ok (.iastore, 1) := by decide +kernel
theorem dX12_init_41 : decode cX12_init 41 = .ok (.dup, 1) := by decide +kernel
theorem dX12_init_42 : decode cX12_init 42 = .ok (.iconst 1, 1) := by decide +kernel
theorem dX12_init_43 : decode cX12_init 43 = .ok (.iconst (-1), 1) := by decide +kernel
theorem dX12_init_44 : decode cX12_init 44 = .ok (.iastore, 1) := by decide +kernel
theorem dX12_init_45 : decode cX12_init 45 = .ok (.dup, 1) := by decide +kernel
theorem dX12_init_46 : decode cX12_init 46 = .ok (.iconst 2, 1) := by decide +kernel
theorem dX12_init_47 : decode cX12_init 47 = .ok (.iconst (-1), 1) := by decide +kernel
theorem dX12_init_48 : decode cX12_init 48 = .ok (.iastore, 1) := by decide +kernel
theorem dX12_init_49 : decode cX12_init 49 = .ok (.dup, 1) := by decide +kernel
theorem dX12_init_50 : decode cX12_init 50 = .ok (.iconst 3, 1) := by decide +kernel
theorem dX12_init_51 : decode cX12_init 51 = .ok (.iconst (-1), 1) := by decide +kernel
theorem dX12_init_52 : decode cX12_init 52 = .ok (.iastore, 1) := by decide +kernel
theorem dX12_init_53 : decode cX12_init 53 = .ok (.putfield 24, 3) := by decide +kernel
theorem dX12_init_56 : decode cX12_init 56 = .ok (.aload_n 0, 1) := by decide +kernel
theorem dX12_init_57 : decode cX12_init 57 = .ok (.sipush 240, 3) := by decide +kernel
theorem dX12_init_60 : decode cX12_init 60 = .ok (.newarray .long, 2) := by decide +kernel
theorem dX12_init_62 : decode cX12_init 62 = .ok (.putfield 27, 3) := by decide +kernel
theorem dX12_init_65 : decode cX12_init 65 = .ok (.aload_n 0, 1) := by decide +kernel
theorem dX12_init_66 : decode cX12_init 66 = .ok (.sipush 900, 3) := by decide +kernel
theorem dX12_init_69 : decode cX12_init 69 = .ok (.newarray .byte, 2) := by decide +kernel
theorem dX12_init_71 : decode cX12_init 71 = .ok (.putfield 30, 3) := by decide +kernel
theorem dX12_init_74 : decode cX12_init 74 = .ok (.aload_n 0, 1) := by decide +kernel
theorem dX12_init_75 : decode cX12_init 75 = .ok (.sipush 900, 3) := by decide +kernel
theorem dX12_init_78 : decode cX12_init 78 = .ok (.newarray .byte, 2) := by decide +kernel
theorem dX12_init_80 : decode cX12_init 80 = .ok (.putfield 34, 3) := by decide +kernel
theorem dX12_init_83 : decode cX12_init 83 = .ok (.aload_n 0, 1) := by decide +kernel
theorem dX12_init_84 : decode cX12_init 84 = .ok (.iconst (-1), 1) := by decide +kernel
theorem dX12_init_85 : decode cX12_init 85 = .ok (.putfield 37, 3) := by decide +kernel
theorem dX12_init_88 : decode cX12_init 88 = .ok (.aload_n 0, 1) := by decide +kernel
theorem dX12_init_89 : decode cX12_init 89 = .ok (.iconst (-1), 1) := by decide +kernel
theorem dX12_init_90 : decode cX12_init 90 = .ok (.putfield 41, 3) := by decide +kernel
theorem dX12_init_93 : decode cX12_init 93 = .ok (.aload_n 0, 1) := by decide +kernel
theorem dX12_init_94 : decode cX12_init 94 = .ok (.iconst 4, 1) := by decide +kernel
theorem dX12_init_95 : decode cX12_init 95 = .ok (.newarray .int, 2) := by decide +kernel
theorem dX12_init_97 : decode cX12_init 97 = .ok (.putfield 44, 3) := by decide +kernel
theorem dX12_init_100 : decode cX12_init 100 = .ok (.aload_n 0, 1) := by decide +kernel
theorem dX12_init_101 : decode cX12_init 101 = .ok (.iconst 3, 1) := by decide +kernel
theorem dX12_init_102 : decode cX12_init 102 = .ok (.newarray .int, 2) := by decide +kernel
theorem dX12_init_104 : decode cX12_init 104 = .ok (.putfield 47, 3) := by decide +kernel
theorem dX12_init_107 : decode cX12_init 107 = .ok (.aload_n 0, 1) := by decide +kernel
theorem dX12_init_108 : decode cX12_init 108 = .ok (.bipush 32, 2) := by decide +kernel
theorem dX12_init_110 : decode cX12_init 110 = .ok (.newarray .long, 2) := by decide +kernel
theorem dX12_init_112 : decode cX12_init 112 = .ok (.putfield 50, 3) := by decide +kernel
theorem dX12_init_115 : decode cX12_init 115 = .ok (.aload_n 0, 1) := by decide +kernel
theorem dX12_init_116 : decode cX12_init 116 = .ok (.bipush 32, 2) := by decide +kernel
theorem dX12_init_118 : decode cX12_init 118 = .ok (.newarray .long, 2) := by decide +kernel
theorem dX12_init_120 : decode cX12_init 120 = .ok (.putfield 53, 3) := by decide +kernel
theorem dX12_init_123 : decode cX12_init 123 = .ok (.aload_n 0, 1) := by decide +kernel
theorem dX12_init_124 : decode cX12_init 124 = .ok (.sipush 540, 3) := by decide +kernel
theorem dX12_init_127 : decode cX12_init 127 = .ok (.newarray .int, 2) := by decide +kernel
theorem dX12_init_129 : decode cX12_init 129 = .ok (.putfield 56, 3) := by decide +kernel
theorem dX12_init_132 : decode cX12_init 132 = .ok (.aload_n 0, 1) := by decide +kernel
theorem dX12_init_133 : decode cX12_init 133 = .ok (.bipush 60, 2) := by decide +kernel
theorem dX12_init_135 : decode cX12_init 135 = .ok (.newarray .boolean, 2) := by decide +kernel
theorem dX12_init_137 : decode cX12_init 137 = .ok (.putfield 59, 3) := by decide +kernel
theorem dX12_init_140 : decode cX12_init 140 = .ok (.aload_n 0, 1) := by decide +kernel
theorem dX12_init_141 : decode cX12_init 141 = .ok (.bipush 32, 2) := by decide +kernel
theorem dX12_init_143 : decode cX12_init 143 = .ok (.newarray .int, 2) := by decide +kernel
theorem dX12_init_145 : decode cX12_init 145 = .ok (.putfield 63, 3) := by decide +kernel
theorem dX12_init_148 : decode cX12_init 148 = .ok (.aload_n 0, 1) := by decide +kernel
theorem dX12_init_149 : decode cX12_init 149 = .ok (.iconst (-1), 1) := by decide +kernel
theorem dX12_init_150 : decode cX12_init 150 = .ok (.putfield 66, 3) := by decide +kernel
theorem dX12_init_153 : decode cX12_init 153 = .ok (.aload_n 0, 1) := by decide +kernel
theorem dX12_init_154 : decode cX12_init 154 = .ok (.sipush 2000, 3) := by decide +kernel
theorem dX12_init_157 : decode cX12_init 157 = .ok (.newarray .int, 2) := by decide +kernel
theorem dX12_init_159 : decode cX12_init 159 = .ok (.putfield 69, 3) := by decide +kernel
theorem dX12_init_162 : decode cX12_init 162 = .ok (.aload_n 0, 1) := by decide +kernel
theorem dX12_init_163 : decode cX12_init 163 = .ok (.sipush 128, 3) := by decide +kernel
theorem dX12_init_166 : decode cX12_init 166 = .ok (.newarray .long, 2) := by decide +kernel
theorem dX12_init_168 : decode cX12_init 168 = .ok (.putfield 72, 3) := by decide +kernel
theorem dX12_init_171 : decode cX12_init 171 = .ok (.aload_n 0, 1) := by decide +kernel
theorem dX12_init_172 : decode cX12_init 172 = .ok (.bipush 32, 2) := by decide +kernel
theorem dX12_init_174 : decode cX12_init 174 = .ok (.newarray .int, 2) := by decide +kernel
theorem dX12_init_176 : decode cX12_init 176 = .ok (.putfield 75, 3) := by decide +kernel
theorem dX12_init_179 : decode cX12_init 179 = .ok (.aload_n 0, 1) := by decide +kernel
theorem dX12_init_180 : decode cX12_init 180 = .ok (.iconst (-1), 1) := by decide +kernel
theorem dX12_init_181 : decode cX12_init 181 = .ok (.putfield 78, 3) := by decide +kernel
theorem dX12_init_184 : decode cX12_init 184 = .ok (.aload_n 0, 1) := by decide +kernel
theorem dX12_init_185 : decode cX12_init 185 = .ok (.bipush 64, 2) := by decide +kernel
theorem dX12_init_187 : decode cX12_init 187 = .ok (.newarray .int, 2) := by decide +kernel
theorem dX12_init_189 : decode cX12_init 189 = .ok (.putfield 81, 3) := by decide +kernel
theorem dX12_init_192 : decode cX12_init 192 = .ok (.aload_n 0, 1) := by decide +kernel
theorem dX12_init_193 : decode cX12_init 193 = .ok (.bipush 7, 2) := by decide +kernel
theorem dX12_init_195 : decode cX12_init 195 = .ok (.newarray .int, 2) := by decide +kernel
theorem dX12_init_197 : decode cX12_init 197 = .ok (.putfield 84, 3) := by decide +kernel
theorem dX12_init_200 : decode cX12_init 200 = .ok (.aload_n 0, 1) := by decide +kernel
theorem dX12_init_201 : decode cX12_init 201 = .ok (.iconst 0, 1) := by decide +kernel
theorem dX12_init_202 : decode cX12_init 202 = .ok (.invokevirtual 87, 3) := by decide +kernel
theorem dX12_init_205 : decode cX12_init 205 = .ok (.return_, 1) := by decide +kernel
theorem dX12_plain_0 : decode cX12_plain 0 = .ok (.iconst 0, 1) := by decide +kernel
theorem dX12_plain_1 : decode cX12_plain 1 = .ok (.istore_n 2, 1) := by decide +kernel
theorem dX12_plain_2 : decode cX12_plain 2 = .ok (.iload_n 2, 1) := by decide +kernel
theorem dX12_plain_3 : decode cX12_plain 3 = .ok (.sipush 200, 3) := by decide +kernel
theorem dX12_plain_6 : decode cX12_plain 6 = .ok (.if_icmp .ge 18, 3) := by decide +kernel
theorem dX12_plain_9 : decode cX12_plain 9 = .ok (.aload_n 0, 1) := by decide +kernel
theorem dX12_plain_10 : decode cX12_plain 10 = .ok (.getfield 7, 3) := by decide +kernel
theorem dX12_plain_13 : decode cX12_plain 13 = .ok (.iload_n 1, 1) := by decide +kernel
theorem dX12_plain_14 : decode cX12_plain 14 = .ok (.iload_n 2, 1) := by decide +kernel
theorem dX12_plain_15 : decode cX12_plain 15 = .ok (.iadd, 1) := by decide +kernel
theorem dX12_plain_16 : decode cX12_plain 16 = .ok (.iconst 0, 1) := by decide +kernel
theorem dX12_plain_17 : decode cX12_plain 17 = .ok (.iastore, 1) := by decide +kernel
theorem dX12_plain_18 : decode cX12_plain 18 = .ok (.iinc 2 1, 3) := by decide +kernel
theorem dX12_plain_21 : decode cX12_plain 21 = .ok (.goto (-19), 3) := by decide +kernel
theorem dX12_plain_24 : decode cX12_plain 24 = .ok (.iconst 0, 1) := by decide +kernel
theorem dX12_plain_25 : decode cX12_plain 25 = .ok (.istore_n 2, 1) := by decide +kernel
theorem dX12_plain_26 : decode cX12_plain 26 = .ok (.iload_n 2, 1) := by decide +kernel
theorem dX12_plain_27 : decode cX12_plain 27 = .ok (.bipush 60, 2) := by decide +kernel
theorem dX12_plain_29 : decode cX12_plain 29 = .ok (.if_icmp .ge 21, 3) := by decide +kernel
theorem dX12_plain_32 : decode cX12_plain 32 = .ok (.aload_n 0, 1) := by decide +kernel
theorem dX12_plain_33 : decode cX12_plain 33 = .ok (.getfield 7, 3) := by decide +kernel
theorem dX12_plain_36 : decode cX12_plain 36 = .ok (.iload_n 1, 1) := by decide +kernel
theorem dX12_plain_37 : decode cX12_plain 37 = .ok (.bipush 108, 2) := by decide +kernel
theorem dX12_plain_39 : decode cX12_plain 39 = .ok (.iadd, 1) := by decide +kernel
theorem dX12_plain_40 : decode cX12_plain 40 = .ok (.iload_n 2, 1) := by decide +kernel
theorem dX12_plain_41 : decode cX12_plain 41 = .ok (.iadd, 1) := by decide +kernel
theorem dX12_plain_42 : decode cX12_plain 42 = .ok (.iconst (-1), 1) := by decide +kernel
theorem dX12_plain_43 : decode cX12_plain 43 = .ok (.iastore, 1) := by decide +kernel
theorem dX12_plain_44 : decode cX12_plain 44 = .ok (.iinc 2 1, 3) := by decide +kernel
theorem dX12_plain_47 : decode cX12_plain 47 = .ok (.goto (-21), 3) := by decide +kernel
theorem dX12_plain_50 : decode cX12_plain 50 = .ok (.aload_n 0, 1) := by decide +kernel
theorem dX12_plain_51 : decode cX12_plain 51 = .ok (.getfield 7, 3) := by decide +kernel
theorem dX12_plain_54 : decode cX12_plain 54 = .ok (.iload_n 1, 1) := by decide +kernel
theorem dX12_plain_55 : decode cX12_plain 55 = .ok (.iconst 5, 1) := by decide +kernel
theorem dX12_plain_56 : decode cX12_plain 56 = .ok (.iadd, 1) := by decide +kernel
theorem dX12_plain_57 : decode cX12_plain 57 = .ok (.iconst 4, 1) := by decide +kernel
theorem dX12_plain_58 : decode cX12_plain 58 = .ok (.iastore, 1) := by decide +kernel
theorem dX12_plain_59 : decode cX12_plain 59 = .ok (.aload_n 0, 1) := by decide +kernel
theorem dX12_plain_60 : decode cX12_plain 60 = .ok (.getfield 7, 3) := by decide +kernel
theorem dX12_plain_63 : decode cX12_plain 63 = .ok (.iload_n 1, 1) := by decide +kernel
theorem dX12_plain_64 : decode cX12_plain 64 = .ok (.bipush 7, 2) := by decide +kernel
theorem dX12_plain_66 : decode cX12_plain 66 = .ok (.iadd, 1) := by decide +kernel
theorem dX12_plain_67 : decode cX12_plain 67 = .ok (.bipush 10, 2) := by decide +kernel
theorem dX12_plain_69 : decode cX12_plain 69 = .ok (.iastore, 1) := by decide +kernel
theorem dX12_plain_70 : decode cX12_plain 70 = .ok (.aload_n 0, 1) := by decide +kernel
theorem dX12_plain_71 : decode cX12_plain 71 = .ok (.getfield 7, 3) := by decide +kernel
theorem dX12_plain_74 : decode cX12_plain 74 = .ok (.iload_n 1, 1) := by decide +kernel
theorem dX12_plain_75 : decode cX12_plain 75 = .ok (.bipush 8, 2) := by decide +kernel
theorem dX12_plain_77 : decode cX12_plain 77 = .ok (.iadd, 1) := by decide +kernel
theorem dX12_plain_78 : decode cX12_plain 78 = .ok (.bipush 14, 2) := by decide +kernel
theorem dX12_plain_80 : decode cX12_plain 80 = .ok (.iastore, 1) := by decide +kernel
theorem dX12_plain_81 : decode cX12_plain 81 = .ok (.aload_n 0, 1) := by decide +kernel
theorem dX12_plain_82 : decode cX12_plain 82 = .ok (.getfield 7, 3) := by decide +kernel
theorem dX12_plain_85 : decode cX12_plain 85 = .ok (.iload_n 1, 1) := by decide +kernel
theorem dX12_plain_86 : decode cX12_plain 86 = .ok (.bipush 9, 2) := by decide +kernel
theorem dX12_plain_88 : decode cX12_plain 88 = .ok (.iadd, 1) := by decide +kernel
theorem dX12_plain_89 : decode cX12_plain 89 = .ok (.iconst 1, 1) := by decide +kernel
theorem dX12_plain_90 : decode cX12_plain 90 = .ok (.iastore, 1) := by decide +kernel
theorem dX12_plain_91 : decode cX12_plain 91 = .ok (.aload_n 0, 1) := by decide +kernel
theorem dX12_plain_92 : decode cX12_plain 92 = .ok (.getfield 7, 3) := by decide +kernel
theorem dX12_plain_95 : decode cX12_plain 95 = .ok (.iload_n 1, 1) := by decide +kernel
theorem dX12_plain_96 : decode cX12_plain 96 = .ok (.bipush 10, 2) := by decide +kernel
theorem dX12_plain_98 : decode cX12_plain 98 = .ok (.iadd, 1) := by decide +kernel
theorem dX12_plain_99 : decode cX12_plain 99 = .ok (.bipush 120, 2) := by decide +kernel
theorem dX12_plain_101 : decode cX12_plain 101 = .ok (.iastore, 1) := by decide +kernel
theorem dX12_plain_102 : decode cX12_plain 102 = .ok (.aload_n 0, 1) := by decide +kernel
theorem dX12_plain_103 : decode cX12_plain 103 = .ok (.getfield 7, 3) := by decide +kernel
theorem dX12_plain_106 : decode cX12_plain 106 = .ok (.iload_n 1, 1) := by decide +kernel
theorem dX12_plain_107 : decode cX12_plain 107 = .ok (.bipush 11, 2) := by decide +kernel
theorem dX12_plain_109 : decode cX12_plain 109 = .ok (.iadd, 1) := by decide +kernel
theorem dX12_plain_110 : decode cX12_plain 110 = .ok (.bipush 12, 2) := by decide +kernel
theorem dX12_plain_112 : decode cX12_plain 112 = .ok (.iastore, 1) := by decide +kernel
theorem dX12_plain_113 : decode cX12_plain 113 = .ok (.aload_n 0, 1) := by decide +kernel
theorem dX12_plain_114 : decode cX12_plain 114 = .ok (.getfield 7, 3) := by decide +kernel
theorem dX12_plain_117 : decode cX12_plain 117 = .ok (.iload_n 1, 1) := by decide +kernel
theorem dX12_plain_118 : decode cX12_plain 118 = .ok (.bipush 12, 2) := by decide +kernel
theorem dX12_plain_120 : decode cX12_plain 120 = .ok (.iadd, 1) := by decide +kernel
theorem dX12_plain_121 : decode cX12_plain 121 = .ok (.bipush 11, 2) := by decide +kernel
theorem dX12_plain_123 : decode cX12_plain 123 = .ok (.iastore, 1) := by decide +kernel
theorem dX12_plain_124 : decode cX12_plain 124 = .ok (.aload_n 0, 1) := by decide +kernel
theorem dX12_plain_125 : decode cX12_plain 125 = .ok (.getfield 7, 3) := by decide +kernel
theorem dX12_plain_128 : decode cX12_plain 128 = .ok (.iload_n 1, 1) := by decide +kernel
theorem dX12_plain_129 : decode cX12_plain 129 = .ok (.sipush 168, 3) := by decide +kernel
theorem dX12_plain_132 : decode cX12_plain 132 = .ok (.iadd, 1) := by decide +kernel
theorem dX12_plain_133 : decode cX12_plain 133 = .ok (.ldc 91, 2) := by decide +kernel
theorem dX12_plain_135 : decode cX12_plain 135 = .ok (.iastore, 1) := by decide +kernel
theorem dX12_plain_136 : decode cX12_plain 136 = .ok (.return_, 1) := by decide +kernel
theorem dX12_status_0 : decode cX12_status 0 = .ok (.aload_n 0, 1) := by decide +kernel
theorem dX12_status_1 : decode cX12_status 1 = .ok (.getfield 92, 3) := by decide +kernel
theorem dX12_status_4 : decode cX12_status 4 = .ok (.ireturn, 1) := by decide +kernel
theorem dX12_top_0 : decode cX12_top 0 = .ok (.aload_n 0, 1) := by decide +kernel
theorem dX12_top_1 : decode cX12_top 1 = .ok (.getfield 95, 3) := by decide +kernel
theorem dX12_top_4 : decode cX12_top 4 = .ok (.lreturn, 1) := by decide +kernel
theorem dX12_bottom_0 : decode cX12_bottom 0 = .ok (.aload_n 0, 1) := by decide +kernel
theorem dX12_bottom_1 : decode cX12_bottom 1 = .ok (.getfield 17, 3) := by decide +kernel
theorem dX12_bottom_4 : decode cX12_bottom 4 = .ok (.lreturn, 1) := by decide +kernel
theorem dX12_is_0 : decode cX12_is 0 = .ok (.aload_n 0, 1) := by decide +kernel
theorem dX12_is_1 : decode cX12_is 1 = .ok (.iload_n 1, 1) := by decide +kernel
theorem dX12_is_2 : decode cX12_is 2 = .ok (.putfield 92, 3) := by decide +kernel
theorem dX12_is_5 : decode cX12_is 5 = .ok (.iload_n 1, 1) := by decide +kernel
theorem dX12_is_6 : decode cX12_is 6 = .ok (.ifCond .ne 7, 3) := by decide +kernel
theorem dX12_is_9 : decode cX12_is 9 = .ok (.iconst 1, 1) := by decide +kernel
theorem dX12_is_10 : decode cX12_is 10 = .ok (.goto 4, 3) := by decide +kernel
theorem dX12_is_13 : decode cX12_is 13 = .ok (.iconst 0, 1) := by decide +kernel
theorem dX12_is_14 : decode cX12_is 14 = .ok (.ireturn, 1) := by decide +kernel
theorem dX12_refuse_0 : decode cX12_refuse 0 = .ok (.aload_n 0, 1) := by decide +kernel
theorem dX12_refuse_1 : decode cX12_refuse 1 = .ok (.iload_n 1, 1) := by decide +kernel
theorem dX12_refuse_2 : decode cX12_refuse 2 = .ok (.putfield 92, 3) := by decide +kernel
theorem dX12_refuse_5 : decode cX12_refuse 5 = .ok (.iconst (-1), 1) := by decide +kernel
theorem dX12_refuse_6 : decode cX12_refuse 6 = .ok (.ireturn, 1) := by decide +kernel
theorem dX12_gives_0 : decode cX12_gives 0 = .ok (.aload_n 0, 1) := by decide +kernel
theorem dX12_gives_1 : decode cX12_gives 1 = .ok (.iconst 0, 1) := by decide +kernel
theorem dX12_gives_2 : decode cX12_gives 2 = .ok (.putfield 92, 3) := by decide +kernel
theorem dX12_gives_5 : decode cX12_gives 5 = .ok (.iload_n 1, 1) := by decide +kernel
theorem dX12_gives_6 : decode cX12_gives 6 = .ok (.ireturn, 1) := by decide +kernel
theorem dX12_tellsBy_0 : decode cX12_tellsBy 0 = .ok (.lload_n 1, 1) := by decide +kernel
theorem dX12_tellsBy_1 : decode cX12_tellsBy 1 = .ok (.lstore 5, 2) := by decide +kernel
theorem dX12_tellsBy_3 : decode cX12_tellsBy 3 = .ok (.lload_n 3, 1) := by decide +kernel
theorem dX12_tellsBy_4 : decode cX12_tellsBy 4 = .ok (.lstore 7, 2) := by decide +kernel
theorem dX12_tellsBy_6 : decode cX12_tellsBy 6 = .ok (.lload 7, 2) := by decide +kernel
theorem dX12_tellsBy_8 : decode cX12_tellsBy 8 = .ok (.lconst 0, 1) := by decide +kernel
theorem dX12_tellsBy_9 : decode cX12_tellsBy 9 = .ok (.lcmp, 1) := by decide +kernel
theorem dX12_tellsBy_10 : decode cX12_tellsBy 10 = .ok (.ifCond .eq 21, 3) := by decide +kernel
theorem dX12_tellsBy_13 : decode cX12_tellsBy 13 = .ok (.lload 5, 2) := by decide +kernel
theorem dX12_tellsBy_15 : decode cX12_tellsBy 15 = .ok (.lload 7, 2) := by decide +kernel
theorem dX12_tellsBy_17 : decode cX12_tellsBy 17 = .ok (.lrem, 1) := by decide +kernel
theorem dX12_tellsBy_18 : decode cX12_tellsBy 18 = .ok (.lstore 9, 2) := by decide +kernel
theorem dX12_tellsBy_20 : decode cX12_tellsBy 20 = .ok (.lload 7, 2) := by decide +kernel
theorem dX12_tellsBy_22 : decode cX12_tellsBy 22 = .ok (.lstore 5, 2) := by decide +kernel
theorem dX12_tellsBy_24 : decode cX12_tellsBy 24 = .ok (.lload 9, 2) := by decide +kernel
theorem dX12_tellsBy_26 : decode cX12_tellsBy 26 = .ok (.lstore 7, 2) := by decide +kernel
theorem dX12_tellsBy_28 : decode cX12_tellsBy 28 = .ok (.goto (-22), 3) := by decide +kernel
theorem dX12_tellsBy_31 : decode cX12_tellsBy 31 = .ok (.aload_n 0, 1) := by decide +kernel
theorem dX12_tellsBy_32 : decode cX12_tellsBy 32 = .ok (.lload_n 1, 1) := by decide +kernel
theorem dX12_tellsBy_33 : decode cX12_tellsBy 33 = .ok (.lload 5, 2) := by decide +kernel
theorem dX12_tellsBy_35 : decode cX12_tellsBy 35 = .ok (.ldiv, 1) := by decide +kernel
theorem dX12_tellsBy_36 : decode cX12_tellsBy 36 = .ok (.putfield 95, 3) := by decide +kernel
theorem dX12_tellsBy_39 : decode cX12_tellsBy 39 = .ok (.aload_n 0, 1) := by decide +kernel
theorem dX12_tellsBy_40 : decode cX12_tellsBy 40 = .ok (.lload_n 3, 1) := by decide +kernel
theorem dX12_tellsBy_41 : decode cX12_tellsBy 41 = .ok (.lload 5, 2) := by decide +kernel
theorem dX12_tellsBy_43 : decode cX12_tellsBy 43 = .ok (.ldiv, 1) := by decide +kernel
theorem dX12_tellsBy_44 : decode cX12_tellsBy 44 = .ok (.putfield 17, 3) := by decide +kernel
theorem dX12_tellsBy_47 : decode cX12_tellsBy 47 = .ok (.aload_n 0, 1) := by decide +kernel
theorem dX12_tellsBy_48 : decode cX12_tellsBy 48 = .ok (.iconst 0, 1) := by decide +kernel
theorem dX12_tellsBy_49 : decode cX12_tellsBy 49 = .ok (.invokevirtual 98, 3) := by decide +kernel
theorem dX12_tellsBy_52 : decode cX12_tellsBy 52 = .ok (.ireturn, 1) := by decide +kernel
theorem dX12_isTray_0 : decode cX12_isTray 0 = .ok (.iload_n 0, 1) := by decide +kernel
theorem dX12_isTray_1 : decode cX12_isTray 1 = .ok (.ifCond .lt 12, 3) := by decide +kernel
theorem dX12_isTray_4 : decode cX12_isTray 4 = .ok (.iload_n 0, 1) := by decide +kernel
theorem dX12_isTray_5 : decode cX12_isTray 5 = .ok (.iconst 4, 1) := by decide +kernel
theorem dX12_isTray_6 : decode cX12_isTray 6 = .ok (.if_icmp .ge 7, 3) := by decide +kernel
theorem dX12_isTray_9 : decode cX12_isTray 9 = .ok (.iconst 1, 1) := by decide +kernel
theorem dX12_isTray_10 : decode cX12_isTray 10 = .ok (.goto 4, 3) := by decide +kernel
theorem dX12_isTray_13 : decode cX12_isTray 13 = .ok (.iconst 0, 1) := by decide +kernel
theorem dX12_isTray_14 : decode cX12_isTray 14 = .ok (.ireturn, 1) := by decide +kernel
theorem dX12_cut_0 : decode cX12_cut 0 = .ok (.iload_n 2, 1) := by decide +kernel
theorem dX12_cut_1 : decode cX12_cut 1 = .ok (.ifCond .ne 10, 3) := by decide +kernel
theorem dX12_cut_4 : decode cX12_cut 4 = .ok (.lload_n 0, 1) := by decide +kernel
theorem dX12_cut_5 : decode cX12_cut 5 = .ok (.l2i, 1) := by decide +kernel
theorem dX12_cut_6 : decode cX12_cut 6 = .ok (.i2b, 1) := by decide +kernel
theorem dX12_cut_7 : decode cX12_cut 7 = .ok (.i2l, 1) := by decide +kernel
theorem dX12_cut_8 : decode cX12_cut 8 = .ok (.goto 27, 3) := by decide +kernel
theorem dX12_cut_11 : decode cX12_cut 11 = .ok (.iload_n 2, 1) := by decide +kernel
theorem dX12_cut_12 : decode cX12_cut 12 = .ok (.iconst 1, 1) := by decide +kernel
theorem dX12_cut_13 : decode cX12_cut 13 = .ok (.if_icmp .ne 10, 3) := by decide +kernel
theorem dX12_cut_16 : decode cX12_cut 16 = .ok (.lload_n 0, 1) := by decide +kernel
theorem dX12_cut_17 : decode cX12_cut 17 = .ok (.l2i, 1) := by decide +kernel
theorem dX12_cut_18 : decode cX12_cut 18 = .ok (.i2s, 1) := by decide +kernel
theorem dX12_cut_19 : decode cX12_cut 19 = .ok (.i2l, 1) := by decide +kernel
theorem dX12_cut_20 : decode cX12_cut 20 = .ok (.goto 15, 3) := by decide +kernel
theorem dX12_cut_23 : decode cX12_cut 23 = .ok (.iload_n 2, 1) := by decide +kernel
theorem dX12_cut_24 : decode cX12_cut 24 = .ok (.iconst 2, 1) := by decide +kernel
theorem dX12_cut_25 : decode cX12_cut 25 = .ok (.if_icmp .ne 9, 3) := by decide +kernel
theorem dX12_cut_28 : decode cX12_cut 28 = .ok (.lload_n 0, 1) := by decide +kernel
theorem dX12_cut_29 : decode cX12_cut 29 = .ok (.l2i, 1) := by decide +kernel
theorem dX12_cut_30 : decode cX12_cut 30 = .ok (.i2l, 1) := by decide +kernel
theorem dX12_cut_31 : decode cX12_cut 31 = .ok (.goto 4, 3) := by decide +kernel
theorem dX12_cut_34 : decode cX12_cut 34 = .ok (.lload_n 0, 1) := by decide +kernel
theorem dX12_cut_35 : decode cX12_cut 35 = .ok (.lreturn, 1) := by decide +kernel
theorem dX12_tray_0 : decode cX12_tray 0 = .ok (.iload_n 1, 1) := by decide +kernel
theorem dX12_tray_1 : decode cX12_tray 1 = .ok (.invokestatic 102, 3) := by decide +kernel
theorem dX12_tray_4 : decode cX12_tray 4 = .ok (.ifCond .eq 22, 3) := by decide +kernel
theorem dX12_tray_7 : decode cX12_tray 7 = .ok (.iload_n 2, 1) := by decide +kernel
theorem dX12_tray_8 : decode cX12_tray 8 = .ok (.ifCond .lt 18, 3) := by decide +kernel
theorem dX12_tray_11 : decode cX12_tray 11 = .ok (.iload_n 2, 1) := by decide +kernel
theorem dX12_tray_12 : decode cX12_tray 12 = .ok (.iconst 3, 1) := by decide +kernel
theorem dX12_tray_13 : decode cX12_tray 13 = .ok (.if_icmp .gt 13, 3) := by decide +kernel
theorem dX12_tray_16 : decode cX12_tray 16 = .ok (.iload_n 3, 1) := by decide +kernel
theorem dX12_tray_17 : decode cX12_tray 17 = .ok (.ifCond .lt 9, 3) := by decide +kernel
theorem dX12_tray_20 : decode cX12_tray 20 = .ok (.iload_n 3, 1) := by decide +kernel
theorem dX12_tray_21 : decode cX12_tray 21 = .ok (.bipush 60, 2) := by decide +kernel
theorem dX12_tray_23 : decode cX12_tray 23 = .ok (.if_icmp .le 9, 3) := by decide +kernel
theorem dX12_tray_26 : decode cX12_tray 26 = .ok (.aload_n 0, 1) := by decide +kernel
theorem dX12_tray_27 : decode cX12_tray 27 = .ok (.iconst 1, 1) := by decide +kernel
theorem dX12_tray_28 : decode cX12_tray 28 = .ok (.invokevirtual 98, 3) := by decide +kernel
theorem dX12_tray_31 : decode cX12_tray 31 = .ok (.ireturn, 1) := by decide +kernel
theorem dX12_tray_32 : decode cX12_tray 32 = .ok (.aload_n 0, 1) := by decide +kernel
theorem dX12_tray_33 : decode cX12_tray 33 = .ok (.getfield 21, 3) := by decide +kernel
theorem dX12_tray_36 : decode cX12_tray 36 = .ok (.iload_n 1, 1) := by decide +kernel
theorem dX12_tray_37 : decode cX12_tray 37 = .ok (.iload_n 2, 1) := by decide +kernel
theorem dX12_tray_38 : decode cX12_tray 38 = .ok (.iastore, 1) := by decide +kernel
theorem dX12_tray_39 : decode cX12_tray 39 = .ok (.aload_n 0, 1) := by decide +kernel
theorem dX12_tray_40 : decode cX12_tray 40 = .ok (.getfield 24, 3) := by decide +kernel
theorem dX12_tray_43 : decode cX12_tray 43 = .ok (.iload_n 1, 1) := by decide +kernel
theorem dX12_tray_44 : decode cX12_tray 44 = .ok (.iload_n 3, 1) := by decide +kernel
theorem dX12_tray_45 : decode cX12_tray 45 = .ok (.iastore, 1) := by decide +kernel
theorem dX12_tray_46 : decode cX12_tray 46 = .ok (.iconst 0, 1) := by decide +kernel
theorem dX12_tray_47 : decode cX12_tray 47 = .ok (.istore 4, 2) := by decide +kernel
theorem dX12_tray_49 : decode cX12_tray 49 = .ok (.iload 4, 2) := by decide +kernel
theorem dX12_tray_51 : decode cX12_tray 51 = .ok (.iload_n 3, 1) := by decide +kernel
theorem dX12_tray_52 : decode cX12_tray 52 = .ok (.if_icmp .ge 22, 3) := by decide +kernel
theorem dX12_tray_55 : decode cX12_tray 55 = .ok (.aload_n 0, 1) := by decide +kernel
theorem dX12_tray_56 : decode cX12_tray 56 = .ok (.getfield 27, 3) := by decide +kernel
theorem dX12_tray_59 : decode cX12_tray 59 = .ok (.bipush 60, 2) := by decide +kernel
theorem dX12_tray_61 : decode cX12_tray 61 = .ok (.iload_n 1, 1) := by decide +kernel
theorem dX12_tray_62 : decode cX12_tray 62 = .ok (.imul, 1) := by decide +kernel
theorem dX12_tray_63 : decode cX12_tray 63 = .ok (.iload 4, 2) := by decide +kernel
theorem dX12_tray_65 : decode cX12_tray 65 = .ok (.iadd, 1) := by decide +kernel
theorem dX12_tray_66 : decode cX12_tray 66 = .ok (.lconst 0, 1) := by decide +kernel
theorem dX12_tray_67 : decode cX12_tray 67 = .ok (.lastore, 1) := by decide +kernel
theorem dX12_tray_68 : decode cX12_tray 68 = .ok (.iinc 4 1, 3) := by decide +kernel
theorem dX12_tray_71 : decode cX12_tray 71 = .ok (.goto (-22), 3) := by decide +kernel
theorem dX12_tray_74 : decode cX12_tray 74 = .ok (.aload_n 0, 1) := by decide +kernel
theorem dX12_tray_75 : decode cX12_tray 75 = .ok (.iconst 0, 1) := by decide +kernel
theorem dX12_tray_76 : decode cX12_tray 76 = .ok (.invokevirtual 98, 3) := by decide +kernel
theorem dX12_tray_79 : decode cX12_tray 79 = .ok (.ireturn, 1) := by decide +kernel
theorem dX12_wrongPlace_0 : decode cX12_wrongPlace 0 = .ok (.iload_n 1, 1) := by decide +kernel
theorem dX12_wrongPlace_1 : decode cX12_wrongPlace 1 = .ok (.invokestatic 102, 3) := by decide +kernel
theorem dX12_wrongPlace_4 : decode cX12_wrongPlace 4 = .ok (.ifCond .ne 7, 3) := by decide +kernel
theorem dX12_wrongPlace_7 : decode cX12_wrongPlace 7 = .ok (.iconst 1, 1) := by decide +kernel
theorem dX12_wrongPlace_8 : decode cX12_wrongPlace 8 = .ok (.goto 36, 3) := by decide +kernel
theorem dX12_wrongPlace_11 : decode cX12_wrongPlace 11 = .ok (.aload_n 0, 1) := by decide +kernel
theorem dX12_wrongPlace_12 : decode cX12_wrongPlace 12 = .ok (.getfield 24, 3) := by decide +kernel
theorem dX12_wrongPlace_15 : decode cX12_wrongPlace 15 = .ok (.iload_n 1, 1) := by decide +kernel
theorem dX12_wrongPlace_16 : decode cX12_wrongPlace 16 = .ok (.iaload, 1) := by decide +kernel
theorem dX12_wrongPlace_17 : decode cX12_wrongPlace 17 = .ok (.iconst (-1), 1) := by decide +kernel
theorem dX12_wrongPlace_18 : decode cX12_wrongPlace 18 = .ok (.if_icmp .ne 7, 3) := by decide +kernel
theorem dX12_wrongPlace_21 : decode cX12_wrongPlace 21 = .ok (.iconst 2, 1) := by decide +kernel
theorem dX12_wrongPlace_22 : decode cX12_wrongPlace 22 = .ok (.goto 22, 3) := by decide +kernel
theorem dX12_wrongPlace_25 : decode cX12_wrongPlace 25 = .ok (.iload_n 2, 1) := by decide +kernel
theorem dX12_wrongPlace_26 : decode cX12_wrongPlace 26 = .ok (.ifCond .lt 13, 3) := by decide +kernel
theorem dX12_wrongPlace_29 : decode cX12_wrongPlace 29 = .ok (.iload_n 2, 1) := by decide +kernel
theorem dX12_wrongPlace_30 : decode cX12_wrongPlace 30 = .ok (.aload_n 0, 1) := by decide +kernel
theorem dX12_wrongPlace_31 : decode cX12_wrongPlace 31 = .ok (.getfield 24, 3) := by decide +kernel
theorem dX12_wrongPlace_34 : decode cX12_wrongPlace 34 = .ok (.iload_n 1, 1) := by decide +kernel
theorem dX12_wrongPlace_35 : decode cX12_wrongPlace 35 = .ok (.iaload, 1) := by decide +kernel
theorem dX12_wrongPlace_36 : decode cX12_wrongPlace 36 = .ok (.if_icmp .lt 7, 3) := by decide +kernel
theorem dX12_wrongPlace_39 : decode cX12_wrongPlace 39 = .ok (.iconst 3, 1) := by decide +kernel
theorem dX12_wrongPlace_40 : decode cX12_wrongPlace 40 = .ok (.goto 4, 3) := by decide +kernel
theorem dX12_wrongPlace_43 : decode cX12_wrongPlace 43 = .ok (.iconst 0, 1) := by decide +kernel
theorem dX12_wrongPlace_44 : decode cX12_wrongPlace 44 = .ok (.ireturn, 1) := by decide +kernel
theorem dX12_write_0 : decode cX12_write 0 = .ok (.aload_n 0, 1) := by decide +kernel
theorem dX12_write_1 : decode cX12_write 1 = .ok (.iload_n 1, 1) := by decide +kernel
theorem dX12_write_2 : decode cX12_write 2 = .ok (.iload_n 2, 1) := by decide +kernel
theorem dX12_write_3 : decode cX12_write 3 = .ok (.invokevirtual 105, 3) := by decide +kernel
theorem dX12_write_6 : decode cX12_write 6 = .ok (.istore 5, 2) := by decide +kernel
theorem dX12_write_8 : decode cX12_write 8 = .ok (.iload 5, 2) := by decide +kernel
theorem dX12_write_10 : decode cX12_write 10 = .ok (.ifCond .ne 24, 3) := by decide +kernel
theorem dX12_write_13 : decode cX12_write 13 = .ok (.aload_n 0, 1) := by decide +kernel
theorem dX12_write_14 : decode cX12_write 14 = .ok (.getfield 27, 3) := by decide +kernel
theorem dX12_write_17 : decode cX12_write 17 = .ok (.bipush 60, 2) := by decide +kernel
theorem dX12_write_19 : decode cX12_write 19 = .ok (.iload_n 1, 1) := by decide +kernel
theorem dX12_write_20 : decode cX12_write 20 = .ok (.imul, 1) := by decide +kernel
theorem dX12_write_21 : decode cX12_write 21 = .ok (.iload_n 2, 1) := by decide +kernel
theorem dX12_write_22 : decode cX12_write 22 = .ok (.iadd, 1) := by decide +kernel
theorem dX12_write_23 : decode cX12_write 23 = .ok (.lload_n 3, 1) := by decide +kernel
theorem dX12_write_24 : decode cX12_write 24 = .ok (.aload_n 0, 1) := by decide +kernel
theorem dX12_write_25 : decode cX12_write 25 = .ok (.getfield 21, 3) := by decide +kernel
theorem dX12_write_28 : decode cX12_write 28 = .ok (.iload_n 1, 1) := by decide +kernel
theorem dX12_write_29 : decode cX12_write 29 = .ok (.iaload, 1) := by decide +kernel
theorem dX12_write_30 : decode cX12_write 30 = .ok (.invokestatic 109, 3) := by decide +kernel
theorem dX12_write_33 : decode cX12_write 33 = .ok (.lastore, 1) := by decide +kernel
theorem dX12_write_34 : decode cX12_write 34 = .ok (.aload_n 0, 1) := by decide +kernel
theorem dX12_write_35 : decode cX12_write 35 = .ok (.iload 5, 2) := by decide +kernel
theorem dX12_write_37 : decode cX12_write 37 = .ok (.invokevirtual 98, 3) := by decide +kernel
theorem dX12_write_40 : decode cX12_write 40 = .ok (.ireturn, 1) := by decide +kernel
theorem dX12_read_0 : decode cX12_read 0 = .ok (.aload_n 0, 1) := by decide +kernel
theorem dX12_read_1 : decode cX12_read 1 = .ok (.aload_n 0, 1) := by decide +kernel
theorem dX12_read_2 : decode cX12_read 2 = .ok (.iload_n 1, 1) := by decide +kernel
theorem dX12_read_3 : decode cX12_read 3 = .ok (.iload_n 2, 1) := by decide +kernel
theorem dX12_read_4 : decode cX12_read 4 = .ok (.invokevirtual 105, 3) := by decide +kernel
theorem dX12_read_7 : decode cX12_read 7 = .ok (.putfield 92, 3) := by decide +kernel
theorem dX12_read_10 : decode cX12_read 10 = .ok (.aload_n 0, 1) := by decide +kernel
theorem dX12_read_11 : decode cX12_read 11 = .ok (.getfield 92, 3) := by decide +kernel
theorem dX12_read_14 : decode cX12_read 14 = .ok (.ifCond .le 9, 3) := by decide +kernel
theorem dX12_read_17 : decode cX12_read 17 = .ok (.ldc2_w 113, 3) := by decide +kernel
theorem dX12_read_20 : decode cX12_read 20 = .ok (.goto 14, 3) := by decide +kernel
theorem dX12_read_23 : decode cX12_read 23 = .ok (.aload_n 0, 1) := by decide +kernel
theorem dX12_read_24 : decode cX12_read 24 = .ok (.getfield 27, 3) := by decide +kernel
theorem dX12_read_27 : decode cX12_read 27 = .ok (.bipush 60, 2) := by decide +kernel
theorem dX12_read_29 : decode cX12_read 29 = .ok (.iload_n 1, 1) := by decide +kernel
theorem dX12_read_30 : decode cX12_read 30 = .ok (.imul, 1) := by decide +kernel
theorem dX12_read_31 : decode cX12_read 31 = .ok (.iload_n 2, 1) := by decide +kernel
theorem dX12_read_32 : decode cX12_read 32 = .ok (.iadd, 1) := by decide +kernel
theorem dX12_read_33 : decode cX12_read 33 = .ok (.laload, 1) := by decide +kernel
theorem dX12_read_34 : decode cX12_read 34 = .ok (.lreturn, 1) := by decide +kernel
theorem dX12_pour_0 : decode cX12_pour 0 = .ok (.iload_n 1, 1) := by decide +kernel
theorem dX12_pour_1 : decode cX12_pour 1 = .ok (.invokestatic 102, 3) := by decide +kernel
theorem dX12_pour_4 : decode cX12_pour 4 = .ok (.ifCond .eq 24, 3) := by decide +kernel
theorem dX12_pour_7 : decode cX12_pour 7 = .ok (.iload_n 3, 1) := by decide +kernel
theorem dX12_pour_8 : decode cX12_pour 8 = .ok (.invokestatic 102, 3) := by decide +kernel
theorem dX12_pour_11 : decode cX12_pour 11 = .ok (.ifCond .eq 17, 3) := by decide +kernel
theorem dX12_pour_14 : decode cX12_pour 14 = .ok (.iload_n 2, 1) := by decide +kernel
theorem dX12_pour_15 : decode cX12_pour 15 = .ok (.ifCond .lt 13, 3) := by decide +kernel
theorem dX12_pour_18 : decode cX12_pour 18 = .ok (.iload 4, 2) := by decide +kernel
theorem dX12_pour_20 : decode cX12_pour 20 = .ok (.ifCond .lt 8, 3) := by decide +kernel
theorem dX12_pour_23 : decode cX12_pour 23 = .ok (.iload 5, 2) := by decide +kernel
theorem dX12_pour_25 : decode cX12_pour 25 = .ok (.ifCond .ge 9, 3) := by decide +kernel
theorem dX12_pour_28 : decode cX12_pour 28 = .ok (.aload_n 0, 1) := by decide +kernel
theorem dX12_pour_29 : decode cX12_pour 29 = .ok (.iconst 1, 1) := by decide +kernel
theorem dX12_pour_30 : decode cX12_pour 30 = .ok (.invokevirtual 98, 3) := by decide +kernel
theorem dX12_pour_33 : decode cX12_pour 33 = .ok (.ireturn, 1) := by decide +kernel
theorem dX12_pour_34 : decode cX12_pour 34 = .ok (.aload_n 0, 1) := by decide +kernel
theorem dX12_pour_35 : decode cX12_pour 35 = .ok (.getfield 24, 3) := by decide +kernel
theorem dX12_pour_38 : decode cX12_pour 38 = .ok (.iload_n 1, 1) := by decide +kernel
theorem dX12_pour_39 : decode cX12_pour 39 = .ok (.iaload, 1) := by decide +kernel
theorem dX12_pour_40 : decode cX12_pour 40 = .ok (.iconst (-1), 1) := by decide +kernel
theorem dX12_pour_41 : decode cX12_pour 41 = .ok (.if_icmp .eq 13, 3) := by decide +kernel
theorem dX12_pour_44 : decode cX12_pour 44 = .ok (.aload_n 0, 1) := by decide +kernel
theorem dX12_pour_45 : decode cX12_pour 45 = .ok (.getfield 24, 3) := by decide +kernel
theorem dX12_pour_48 : decode cX12_pour 48 = .ok (.iload_n 3, 1) := by decide +kernel
theorem dX12_pour_49 : decode cX12_pour 49 = .ok (.iaload, 1) := by decide +kernel
theorem dX12_pour_50 : decode cX12_pour 50 = .ok (.iconst (-1), 1) := by decide +kernel
theorem dX12_pour_51 : decode cX12_pour 51 = .ok (.if_icmp .ne 9, 3) := by decide +kernel
theorem dX12_pour_54 : decode cX12_pour 54 = .ok (.aload_n 0, 1) := by decide +kernel
theorem dX12_pour_55 : decode cX12_pour 55 = .ok (.iconst 2, 1) := by decide +kernel
theorem dX12_pour_56 : decode cX12_pour 56 = .ok (.invokevirtual 98, 3) := by decide +kernel
theorem dX12_pour_59 : decode cX12_pour 59 = .ok (.ireturn, 1) := by decide +kernel
theorem dX12_pour_60 : decode cX12_pour 60 = .ok (.aload_n 0, 1) := by decide +kernel
theorem dX12_pour_61 : decode cX12_pour 61 = .ok (.getfield 21, 3) := by decide +kernel
theorem dX12_pour_64 : decode cX12_pour 64 = .ok (.iload_n 1, 1) := by decide +kernel
theorem dX12_pour_65 : decode cX12_pour 65 = .ok (.iaload, 1) := by decide +kernel
theorem dX12_pour_66 : decode cX12_pour 66 = .ok (.aload_n 0, 1) := by decide +kernel
theorem dX12_pour_67 : decode cX12_pour 67 = .ok (.getfield 21, 3) := by decide +kernel
theorem dX12_pour_70 : decode cX12_pour 70 = .ok (.iload_n 3, 1) := by decide +kernel
theorem dX12_pour_71 : decode cX12_pour 71 = .ok (.iaload, 1) := by decide +kernel
theorem dX12_pour_72 : decode cX12_pour 72 = .ok (.if_icmp .eq 10, 3) := by decide +kernel
theorem dX12_pour_75 : decode cX12_pour 75 = .ok (.aload_n 0, 1) := by decide +kernel
theorem dX12_pour_76 : decode cX12_pour 76 = .ok (.bipush 8, 2) := by decide +kernel
theorem dX12_pour_78 : decode cX12_pour 78 = .ok (.invokevirtual 98, 3) := by decide +kernel
theorem dX12_pour_81 : decode cX12_pour 81 = .ok (.ireturn, 1) := by decide +kernel
theorem dX12_pour_82 : decode cX12_pour 82 = .ok (.iload 5, 2) := by decide +kernel
theorem dX12_pour_84 : decode cX12_pour 84 = .ok (.aload_n 0, 1) := by decide +kernel
theorem dX12_pour_85 : decode cX12_pour 85 = .ok (.getfield 24, 3) := by decide +kernel
theorem dX12_pour_88 : decode cX12_pour 88 = .ok (.iload_n 1, 1) := by decide +kernel
theorem dX12_pour_89 : decode cX12_pour 89 = .ok (.iaload, 1) := by decide +kernel
theorem dX12_pour_90 : decode cX12_pour 90 = .ok (.iload_n 2, 1) := by decide +kernel
theorem dX12_pour_91 : decode cX12_pour 91 = .ok (.isub, 1) := by decide +kernel
theorem dX12_pour_92 : decode cX12_pour 92 = .ok (.if_icmp .gt 17, 3) := by decide +kernel
theorem dX12_pour_95 : decode cX12_pour 95 = .ok (.iload 5, 2) := by decide +kernel
theorem dX12_pour_97 : decode cX12_pour 97 = .ok (.aload_n 0, 1) := by decide +kernel
theorem dX12_pour_98 : decode cX12_pour 98 = .ok (.getfield 24, 3) := by decide +kernel
theorem dX12_pour_101 : decode cX12_pour 101 = .ok (.iload_n 3, 1) := by decide +kernel
theorem dX12_pour_102 : decode cX12_pour 102 = .ok (.iaload, 1) := by decide +kernel
theorem dX12_pour_103 : decode cX12_pour 103 = .ok (.iload 4, 2) := by decide +kernel
theorem dX12_pour_105 : decode cX12_pour 105 = .ok (.isub, 1) := by decide +kernel
theorem dX12_pour_106 : decode cX12_pour 106 = .ok (.if_icmp .le 9, 3) := by decide +kernel
theorem dX12_pour_109 : decode cX12_pour 109 = .ok (.aload_n 0, 1) := by decide +kernel
theorem dX12_pour_110 : decode cX12_pour 110 = .ok (.iconst 3, 1) := by decide +kernel
theorem dX12_pour_111 : decode cX12_pour 111 = .ok (.invokevirtual 98, 3) := by decide +kernel
theorem dX12_pour_114 : decode cX12_pour 114 = .ok (.ireturn, 1) := by decide +kernel
theorem dX12_pour_115 : decode cX12_pour 115 = .ok (.iconst 0, 1) := by decide +kernel
theorem dX12_pour_116 : decode cX12_pour 116 = .ok (.istore 6, 2) := by decide +kernel
theorem dX12_pour_118 : decode cX12_pour 118 = .ok (.iload 6, 2) := by decide +kernel
theorem dX12_pour_120 : decode cX12_pour 120 = .ok (.iload 5, 2) := by decide +kernel
theorem dX12_pour_122 : decode cX12_pour 122 = .ok (.if_icmp .ge 58, 3) := by decide +kernel
theorem dX12_pour_125 : decode cX12_pour 125 = .ok (.iload_n 2, 1) := by decide +kernel
theorem dX12_pour_126 : decode cX12_pour 126 = .ok (.iload 4, 2) := by decide +kernel
theorem dX12_pour_128 : decode cX12_pour 128 = .ok (.if_icmp .ge 13, 3) := by decide +kernel
theorem dX12_pour_131 : decode cX12_pour 131 = .ok (.iload 5, 2) := by decide +kernel
theorem dX12_pour_133 : decode cX12_pour 133 = .ok (.iconst 1, 1) := by decide +kernel
theorem dX12_pour_134 : decode cX12_pour 134 = .ok (.isub, 1) := by decide +kernel
theorem dX12_pour_135 : decode cX12_pour 135 = .ok (.iload 6, 2) := by decide +kernel
theorem dX12_pour_137 : decode cX12_pour 137 = .ok (.isub, 1) := by decide +kernel
theorem dX12_pour_138 : decode cX12_pour 138 = .ok (.goto 5, 3) := by decide +kernel
theorem dX12_pour_141 : decode cX12_pour 141 = .ok (.iload 6, 2) := by decide +kernel
theorem dX12_pour_143 : decode cX12_pour 143 = .ok (.istore 7, 2) := by decide +kernel
theorem dX12_pour_145 : decode cX12_pour 145 = .ok (.aload_n 0, 1) := by decide +kernel
theorem dX12_pour_146 : decode cX12_pour 146 = .ok (.getfield 27, 3) := by decide +kernel
theorem dX12_pour_149 : decode cX12_pour 149 = .ok (.bipush 60, 2) := by decide +kernel
theorem dX12_pour_151 : decode cX12_pour 151 = .ok (.iload_n 3, 1) := by decide +kernel
theorem dX12_pour_152 : decode cX12_pour 152 = .ok (.imul, 1) := by decide +kernel
theorem dX12_pour_153 : decode cX12_pour 153 = .ok (.iload 4, 2) := by decide +kernel
theorem dX12_pour_155 : decode cX12_pour 155 = .ok (.iadd, 1) := by decide +kernel
theorem dX12_pour_156 : decode cX12_pour 156 = .ok (.iload 7, 2) := by decide +kernel
theorem dX12_pour_158 : decode cX12_pour 158 = .ok (.iadd, 1) := by decide +kernel
theorem dX12_pour_159 : decode cX12_pour 159 = .ok (.aload_n 0, 1) := by decide +kernel
theorem dX12_pour_160 : decode cX12_pour 160 = .ok (.getfield 27, 3) := by decide +kernel
theorem dX12_pour_163 : decode cX12_pour 163 = .ok (.bipush 60, 2) := by decide +kernel
theorem dX12_pour_165 : decode cX12_pour 165 = .ok (.iload_n 1, 1) := by decide +kernel
theorem dX12_pour_166 : decode cX12_pour 166 = .ok (.imul, 1) := by decide +kernel
theorem dX12_pour_167 : decode cX12_pour 167 = .ok (.iload_n 2, 1) := by decide +kernel
theorem dX12_pour_168 : decode cX12_pour 168 = .ok (.iadd, 1) := by decide +kernel
theorem dX12_pour_169 : decode cX12_pour 169 = .ok (.iload 7, 2) := by decide +kernel
theorem dX12_pour_171 : decode cX12_pour 171 = .ok (.iadd, 1) := by decide +kernel
theorem dX12_pour_172 : decode cX12_pour 172 = .ok (.laload, 1) := by decide +kernel
theorem dX12_pour_173 : decode cX12_pour 173 = .ok (.lastore, 1) := by decide +kernel
theorem dX12_pour_174 : decode cX12_pour 174 = .ok (.iinc 6 1, 3) := by decide +kernel
theorem dX12_pour_177 : decode cX12_pour 177 = .ok (.goto (-59), 3) := by decide +kernel
theorem dX12_pour_180 : decode cX12_pour 180 = .ok (.aload_n 0, 1) := by decide +kernel
theorem dX12_pour_181 : decode cX12_pour 181 = .ok (.iconst 0, 1) := by decide +kernel
theorem dX12_pour_182 : decode cX12_pour 182 = .ok (.invokevirtual 98, 3) := by decide +kernel
theorem dX12_pour_185 : decode cX12_pour 185 = .ok (.ireturn, 1) := by decide +kernel
theorem dX12_isFrom_0 : decode cX12_isFrom 0 = .ok (.lload_n 0, 1) := by decide +kernel
theorem dX12_isFrom_1 : decode cX12_isFrom 1 = .ok (.lload_n 2, 1) := by decide +kernel
theorem dX12_isFrom_2 : decode cX12_isFrom 2 = .ok (.lcmp, 1) := by decide +kernel
theorem dX12_isFrom_3 : decode cX12_isFrom 3 = .ok (.ifCond .lt 14, 3) := by decide +kernel
theorem dX12_isFrom_6 : decode cX12_isFrom 6 = .ok (.lload_n 0, 1) := by decide +kernel
theorem dX12_isFrom_7 : decode cX12_isFrom 7 = .ok (.lload 4, 2) := by decide +kernel
theorem dX12_isFrom_9 : decode cX12_isFrom 9 = .ok (.lcmp, 1) := by decide +kernel
theorem dX12_isFrom_10 : decode cX12_isFrom 10 = .ok (.ifCond .gt 7, 3) := by decide +kernel
theorem dX12_isFrom_13 : decode cX12_isFrom 13 = .ok (.iconst 1, 1) := by decide +kernel
theorem dX12_isFrom_14 : decode cX12_isFrom 14 = .ok (.goto 4, 3) := by decide +kernel
theorem dX12_isFrom_17 : decode cX12_isFrom 17 = .ok (.iconst 0, 1) := by decide +kernel
theorem dX12_isFrom_18 : decode cX12_isFrom 18 = .ok (.ireturn, 1) := by decide +kernel
theorem dX12_feed_0 : decode cX12_feed 0 = .ok (.aload_n 0, 1) := by decide +kernel
theorem dX12_feed_1 : decode cX12_feed 1 = .ok (.getfield 115, 3) := by decide +kernel
theorem dX12_feed_4 : decode cX12_feed 4 = .ok (.bipush 20, 2) := by decide +kernel
theorem dX12_feed_6 : decode cX12_feed 6 = .ok (.iadd, 1) := by decide +kernel
theorem dX12_feed_7 : decode cX12_feed 7 = .ok (.sipush 900, 3) := by decide +kernel
theorem dX12_feed_10 : decode cX12_feed 10 = .ok (.if_icmp .le 5, 3) := by decide +kernel
theorem dX12_feed_13 : decode cX12_feed 13 = .ok (.iconst (-1), 1) := by decide +kernel
theorem dX12_feed_14 : decode cX12_feed 14 = .ok (.ireturn, 1) := by decide +kernel
theorem dX12_feed_15 : decode cX12_feed 15 = .ok (.aload_n 0, 1) := by decide +kernel
theorem dX12_feed_16 : decode cX12_feed 16 = .ok (.iload_n 1, 1) := by decide +kernel
theorem dX12_feed_17 : decode cX12_feed 17 = .ok (.invokevirtual 118, 3) := by decide +kernel
theorem dX12_feed_20 : decode cX12_feed 20 = .ok (.aload_n 0, 1) := by decide +kernel
theorem dX12_feed_21 : decode cX12_feed 21 = .ok (.iload_n 2, 1) := by decide +kernel
theorem dX12_feed_22 : decode cX12_feed 22 = .ok (.invokevirtual 118, 3) := by decide +kernel
theorem dX12_feed_25 : decode cX12_feed 25 = .ok (.aload_n 0, 1) := by decide +kernel
theorem dX12_feed_26 : decode cX12_feed 26 = .ok (.iload_n 3, 1) := by decide +kernel
theorem dX12_feed_27 : decode cX12_feed 27 = .ok (.invokevirtual 118, 3) := by decide +kernel
theorem dX12_feed_30 : decode cX12_feed 30 = .ok (.aload_n 0, 1) := by decide +kernel
theorem dX12_feed_31 : decode cX12_feed 31 = .ok (.iload 4, 2) := by decide +kernel
theorem dX12_feed_33 : decode cX12_feed 33 = .ok (.invokevirtual 118, 3) := by decide +kernel
theorem dX12_feed_36 : decode cX12_feed 36 = .ok (.aload_n 0, 1) := by decide +kernel
theorem dX12_feed_37 : decode cX12_feed 37 = .ok (.iload 5, 2) := by decide +kernel
theorem dX12_feed_39 : decode cX12_feed 39 = .ok (.invokevirtual 118, 3) := by decide +kernel
theorem dX12_feed_42 : decode cX12_feed 42 = .ok (.aload_n 0, 1) := by decide +kernel
theorem dX12_feed_43 : decode cX12_feed 43 = .ok (.getfield 115, 3) := by decide +kernel
theorem dX12_feed_46 : decode cX12_feed 46 = .ok (.ireturn, 1) := by decide +kernel
theorem dX12_four_0 : decode cX12_four 0 = .ok (.bipush 24, 2) := by decide +kernel
theorem dX12_four_2 : decode cX12_four 2 = .ok (.istore_n 2, 1) := by decide +kernel
theorem dX12_four_3 : decode cX12_four 3 = .ok (.iload_n 2, 1) := by decide +kernel
theorem dX12_four_4 : decode cX12_four 4 = .ok (.ifCond .lt 32, 3) := by decide +kernel
theorem dX12_four_7 : decode cX12_four 7 = .ok (.aload_n 0, 1) := by decide +kernel
theorem dX12_four_8 : decode cX12_four 8 = .ok (.getfield 30, 3) := by decide +kernel
theorem dX12_four_11 : decode cX12_four 11 = .ok (.aload_n 0, 1) := by decide +kernel
theorem dX12_four_12 : decode cX12_four 12 = .ok (.getfield 115, 3) := by decide +kernel
theorem dX12_four_15 : decode cX12_four 15 = .ok (.iload_n 1, 1) := by decide +kernel
theorem dX12_four_16 : decode cX12_four 16 = .ok (.iload_n 2, 1) := by decide +kernel
theorem dX12_four_17 : decode cX12_four 17 = .ok (.ishr, 1) := by decide +kernel
theorem dX12_four_18 : decode cX12_four 18 = .ok (.i2b, 1) := by decide +kernel
theorem dX12_four_19 : decode cX12_four 19 = .ok (.bastore, 1) := by decide +kernel
theorem dX12_four_20 : decode cX12_four 20 = .ok (.aload_n 0, 1) := by decide +kernel
theorem dX12_four_21 : decode cX12_four 21 = .ok (.dup, 1) := by decide +kernel
theorem dX12_four_22 : decode cX12_four 22 = .ok (.getfield 115, 3) := by decide +kernel
theorem dX12_four_25 : decode cX12_four 25 = .ok (.iconst 1, 1) := by decide +kernel
theorem dX12_four_26 : decode cX12_four 26 = .ok (.iadd, 1) := by decide +kernel
theorem dX12_four_27 : decode cX12_four 27 = .ok (.putfield 115, 3) := by decide +kernel
theorem dX12_four_30 : decode cX12_four 30 = .ok (.iinc 2 (-8), 3) := by decide +kernel
theorem dX12_four_33 : decode cX12_four 33 = .ok (.goto (-30), 3) := by decide +kernel
theorem dX12_four_36 : decode cX12_four 36 = .ok (.return_, 1) := by decide +kernel
theorem dX12_byteAt_0 : decode cX12_byteAt 0 = .ok (.iload_n 1, 1) := by decide +kernel
theorem dX12_byteAt_1 : decode cX12_byteAt 1 = .ok (.aload_n 0, 1) := by decide +kernel
theorem dX12_byteAt_2 : decode cX12_byteAt 2 = .ok (.getfield 121, 3) := by decide +kernel
theorem dX12_byteAt_5 : decode cX12_byteAt 5 = .ok (.if_icmp .ge 16, 3) := by decide +kernel
theorem dX12_byteAt_8 : decode cX12_byteAt 8 = .ok (.aload_n 0, 1) := by decide +kernel
theorem dX12_byteAt_9 : decode cX12_byteAt 9 = .ok (.getfield 34, 3) := by decide +kernel
theorem dX12_byteAt_12 : decode cX12_byteAt 12 = .ok (.iload_n 1, 1) := by decide +kernel
theorem dX12_byteAt_13 : decode cX12_byteAt 13 = .ok (.baload, 1) := by decide +kernel
theorem dX12_byteAt_14 : decode cX12_byteAt 14 = .ok (.sipush 255, 3) := by decide +kernel
theorem dX12_byteAt_17 : decode cX12_byteAt 17 = .ok (.iand, 1) := by decide +kernel
theorem dX12_byteAt_18 : decode cX12_byteAt 18 = .ok (.goto 4, 3) := by decide +kernel
theorem dX12_byteAt_21 : decode cX12_byteAt 21 = .ok (.iconst (-1), 1) := by decide +kernel
theorem dX12_byteAt_22 : decode cX12_byteAt 22 = .ok (.ireturn, 1) := by decide +kernel
theorem dX12_isSmall_0 : decode cX12_isSmall 0 = .ok (.iload_n 0, 1) := by decide +kernel
theorem dX12_isSmall_1 : decode cX12_isSmall 1 = .ok (.bipush 97, 2) := by decide +kernel
theorem dX12_isSmall_3 : decode cX12_isSmall 3 = .ok (.if_icmp .lt 13, 3) := by decide +kernel
theorem dX12_isSmall_6 : decode cX12_isSmall 6 = .ok (.iload_n 0, 1) := by decide +kernel
theorem dX12_isSmall_7 : decode cX12_isSmall 7 = .ok (.bipush 122, 2) := by decide +kernel
theorem dX12_isSmall_9 : decode cX12_isSmall 9 = .ok (.if_icmp .gt 7, 3) := by decide +kernel
theorem dX12_isSmall_12 : decode cX12_isSmall 12 = .ok (.iconst 1, 1) := by decide +kernel
theorem dX12_isSmall_13 : decode cX12_isSmall 13 = .ok (.goto 4, 3) := by decide +kernel
theorem dX12_isSmall_16 : decode cX12_isSmall 16 = .ok (.iconst 0, 1) := by decide +kernel
theorem dX12_isSmall_17 : decode cX12_isSmall 17 = .ok (.ireturn, 1) := by decide +kernel
theorem dX12_isDigit_0 : decode cX12_isDigit 0 = .ok (.iload_n 0, 1) := by decide +kernel
theorem dX12_isDigit_1 : decode cX12_isDigit 1 = .ok (.bipush 48, 2) := by decide +kernel
theorem dX12_isDigit_3 : decode cX12_isDigit 3 = .ok (.if_icmp .lt 13, 3) := by decide +kernel
theorem dX12_isDigit_6 : decode cX12_isDigit 6 = .ok (.iload_n 0, 1) := by decide +kernel
theorem dX12_isDigit_7 : decode cX12_isDigit 7 = .ok (.bipush 57, 2) := by decide +kernel
theorem dX12_isDigit_9 : decode cX12_isDigit 9 = .ok (.if_icmp .gt 7, 3) := by decide +kernel
theorem dX12_isDigit_12 : decode cX12_isDigit 12 = .ok (.iconst 1, 1) := by decide +kernel
theorem dX12_isDigit_13 : decode cX12_isDigit 13 = .ok (.goto 4, 3) := by decide +kernel
theorem dX12_isDigit_16 : decode cX12_isDigit 16 = .ok (.iconst 0, 1) := by decide +kernel
theorem dX12_isDigit_17 : decode cX12_isDigit 17 = .ok (.ireturn, 1) := by decide +kernel
theorem dX12_ahead_0 : decode cX12_ahead 0 = .ok (.aload_n 0, 1) := by decide +kernel
theorem dX12_ahead_1 : decode cX12_ahead 1 = .ok (.aload_n 0, 1) := by decide +kernel
theorem dX12_ahead_2 : decode cX12_ahead 2 = .ok (.getfield 124, 3) := by decide +kernel
theorem dX12_ahead_5 : decode cX12_ahead 5 = .ok (.invokevirtual 127, 3) := by decide +kernel
theorem dX12_ahead_8 : decode cX12_ahead 8 = .ok (.bipush 32, 2) := by decide +kernel
theorem dX12_ahead_10 : decode cX12_ahead 10 = .ok (.if_icmp .eq 16, 3) := by decide +kernel
theorem dX12_ahead_13 : decode cX12_ahead 13 = .ok (.aload_n 0, 1) := by decide +kernel
theorem dX12_ahead_14 : decode cX12_ahead 14 = .ok (.aload_n 0, 1) := by decide +kernel
theorem dX12_ahead_15 : decode cX12_ahead 15 = .ok (.getfield 124, 3) := by decide +kernel
theorem dX12_ahead_18 : decode cX12_ahead 18 = .ok (.invokevirtual 127, 3) := by decide +kernel
theorem dX12_ahead_21 : decode cX12_ahead 21 = .ok (.bipush 10, 2) := by decide +kernel
theorem dX12_ahead_23 : decode cX12_ahead 23 = .ok (.if_icmp .ne 16, 3) := by decide +kernel
theorem dX12_ahead_26 : decode cX12_ahead 26 = .ok (.aload_n 0, 1) := by decide +kernel
theorem dX12_ahead_27 : decode cX12_ahead 27 = .ok (.dup, 1) := by decide +kernel
theorem dX12_ahead_28 : decode cX12_ahead 28 = .ok (.getfield 124, 3) := by decide +kernel
theorem dX12_ahead_31 : decode cX12_ahead 31 = .ok (.iconst 1, 1) := by decide +kernel
theorem dX12_ahead_32 : decode cX12_ahead 32 = .ok (.iadd, 1) := by decide +kernel
theorem dX12_ahead_33 : decode cX12_ahead 33 = .ok (.putfield 124, 3) := by decide +kernel
theorem dX12_ahead_36 : decode cX12_ahead 36 = .ok (.goto (-36), 3) := by decide +kernel
theorem dX12_ahead_39 : decode cX12_ahead 39 = .ok (.aload_n 0, 1) := by decide +kernel
theorem dX12_ahead_40 : decode cX12_ahead 40 = .ok (.aload_n 0, 1) := by decide +kernel
theorem dX12_ahead_41 : decode cX12_ahead 41 = .ok (.getfield 124, 3) := by decide +kernel
theorem dX12_ahead_44 : decode cX12_ahead 44 = .ok (.putfield 131, 3) := by decide +kernel
theorem dX12_ahead_47 : decode cX12_ahead 47 = .ok (.aload_n 0, 1) := by decide +kernel
theorem dX12_ahead_48 : decode cX12_ahead 48 = .ok (.aload_n 0, 1) := by decide +kernel
theorem dX12_ahead_49 : decode cX12_ahead 49 = .ok (.getfield 124, 3) := by decide +kernel
theorem dX12_ahead_52 : decode cX12_ahead 52 = .ok (.invokevirtual 127, 3) := by decide +kernel
theorem dX12_ahead_55 : decode cX12_ahead 55 = .ok (.istore_n 1, 1) := by decide +kernel
theorem dX12_ahead_56 : decode cX12_ahead 56 = .ok (.aload_n 0, 1) := by decide +kernel
theorem dX12_ahead_57 : decode cX12_ahead 57 = .ok (.iload_n 1, 1) := by decide +kernel
theorem dX12_ahead_58 : decode cX12_ahead 58 = .ok (.putfield 134, 3) := by decide +kernel
theorem dX12_ahead_61 : decode cX12_ahead 61 = .ok (.iload_n 1, 1) := by decide +kernel
theorem dX12_ahead_62 : decode cX12_ahead 62 = .ok (.iconst (-1), 1) := by decide +kernel
theorem dX12_ahead_63 : decode cX12_ahead 63 = .ok (.if_icmp .ne 11, 3) := by decide +kernel
theorem dX12_ahead_66 : decode cX12_ahead 66 = .ok (.aload_n 0, 1) := by decide +kernel
theorem dX12_ahead_67 : decode cX12_ahead 67 = .ok (.iconst 0, 1) := by decide +kernel
theorem dX12_ahead_68 : decode cX12_ahead 68 = .ok (.putfield 137, 3) := by decide +kernel
theorem dX12_ahead_71 : decode cX12_ahead 71 = .ok (.goto 162, 3) := by decide +kernel
theorem dX12_ahead_74 : decode cX12_ahead 74 = .ok (.iload_n 1, 1) := by decide +kernel
theorem dX12_ahead_75 : decode cX12_ahead 75 = .ok (.invokestatic 140, 3) := by decide +kernel
theorem dX12_ahead_78 : decode cX12_ahead 78 = .ok (.ifCond .eq 38, 3) := by decide +kernel
theorem dX12_ahead_81 : decode cX12_ahead 81 = .ok (.aload_n 0, 1) := by decide +kernel
theorem dX12_ahead_82 : decode cX12_ahead 82 = .ok (.aload_n 0, 1) := by decide +kernel
theorem dX12_ahead_83 : decode cX12_ahead 83 = .ok (.getfield 124, 3) := by decide +kernel
theorem dX12_ahead_86 : decode cX12_ahead 86 = .ok (.invokevirtual 127, 3) := by decide +kernel
theorem dX12_ahead_89 : decode cX12_ahead 89 = .ok (.invokestatic 140, 3) := by decide +kernel
theorem dX12_ahead_92 : decode cX12_ahead 92 = .ok (.ifCond .eq 16, 3) := by decide +kernel
theorem dX12_ahead_95 : decode cX12_ahead 95 = .ok (.aload_n 0, 1) := by decide +kernel
theorem dX12_ahead_96 : decode cX12_ahead 96 = .ok (.dup, 1) := by decide +kernel
theorem dX12_ahead_97 : decode cX12_ahead 97 = .ok (.getfield 124, 3) := by decide +kernel
theorem dX12_ahead_100 : decode cX12_ahead 100 = .ok (.iconst 1, 1) := by decide +kernel
theorem dX12_ahead_101 : decode cX12_ahead 101 = .ok (.iadd, 1) := by decide +kernel
theorem dX12_ahead_102 : decode cX12_ahead 102 = .ok (.putfield 124, 3) := by decide +kernel
theorem dX12_ahead_105 : decode cX12_ahead 105 = .ok (.goto (-24), 3) := by decide +kernel
theorem dX12_ahead_108 : decode cX12_ahead 108 = .ok (.aload_n 0, 1) := by decide +kernel
theorem dX12_ahead_109 : decode cX12_ahead 109 = .ok (.iconst 2, 1) := by decide +kernel
theorem dX12_ahead_110 : decode cX12_ahead 110 = .ok (.putfield 137, 3) := by decide +kernel
theorem dX12_ahead_113 : decode cX12_ahead 113 = .ok (.goto 120, 3) := by decide +kernel
theorem dX12_ahead_116 : decode cX12_ahead 116 = .ok (.iload_n 1, 1) := by decide +kernel
theorem dX12_ahead_117 : decode cX12_ahead 117 = .ok (.invokestatic 143, 3) := by decide +kernel
theorem dX12_ahead_120 : decode cX12_ahead 120 = .ok (.ifCond .eq 88, 3) := by decide +kernel
theorem dX12_ahead_123 : decode cX12_ahead 123 = .ok (.aload_n 0, 1) := by decide +kernel
theorem dX12_ahead_124 : decode cX12_ahead 124 = .ok (.iconst 0, 1) := by decide +kernel
theorem dX12_ahead_125 : decode cX12_ahead 125 = .ok (.putfield 134, 3) := by decide +kernel
theorem dX12_ahead_128 : decode cX12_ahead 128 = .ok (.aload_n 0, 1) := by decide +kernel
theorem dX12_ahead_129 : decode cX12_ahead 129 = .ok (.aload_n 0, 1) := by decide +kernel
theorem dX12_ahead_130 : decode cX12_ahead 130 = .ok (.getfield 124, 3) := by decide +kernel
theorem dX12_ahead_133 : decode cX12_ahead 133 = .ok (.invokevirtual 127, 3) := by decide +kernel
theorem dX12_ahead_136 : decode cX12_ahead 136 = .ok (.invokestatic 143, 3) := by decide +kernel
theorem dX12_ahead_139 : decode cX12_ahead 139 = .ok (.ifCond .eq 44, 3) := by decide +kernel
theorem dX12_ahead_142 : decode cX12_ahead 142 = .ok (.aload_n 0, 1) := by decide +kernel
theorem dX12_ahead_143 : decode cX12_ahead 143 = .ok (.ldc 146, 2) := by decide +kernel
theorem dX12_ahead_145 : decode cX12_ahead 145 = .ok (.bipush 10, 2) := by decide +kernel
theorem dX12_ahead_147 : decode cX12_ahead 147 = .ok (.aload_n 0, 1) := by decide +kernel
theorem dX12_ahead_148 : decode cX12_ahead 148 = .ok (.getfield 134, 3) := by decide +kernel
theorem dX12_ahead_151 : decode cX12_ahead 151 = .ok (.imul, 1) := by decide +kernel
theorem dX12_ahead_152 : decode cX12_ahead 152 = .ok (.aload_n 0, 1) := by decide +kernel
theorem dX12_ahead_153 : decode cX12_ahead 153 = .ok (.aload_n 0, 1) := by decide +kernel
theorem dX12_ahead_154 : decode cX12_ahead 154 = .ok (.getfield 124, 3) := by decide +kernel
theorem dX12_ahead_157 : decode cX12_ahead 157 = .ok (.invokevirtual 127, 3) := by decide +kernel
theorem dX12_ahead_160 : decode cX12_ahead 160 = .ok (.iadd, 1) := by decide +kernel
theorem dX12_ahead_161 : decode cX12_ahead 161 = .ok (.bipush 48, 2) := by decide +kernel
theorem dX12_ahead_163 : decode cX12_ahead 163 = .ok (.isub, 1) := by decide +kernel
theorem dX12_ahead_164 : decode cX12_ahead 164 = .ok (.invokestatic 147, 3) := by decide +kernel
theorem dX12_ahead_167 : decode cX12_ahead 167 = .ok (.putfield 134, 3) := by decide +kernel
theorem dX12_ahead_170 : decode cX12_ahead 170 = .ok (.aload_n 0, 1) := by decide +kernel
theorem dX12_ahead_171 : decode cX12_ahead 171 = .ok (.dup, 1) := by decide +kernel
theorem dX12_ahead_172 : decode cX12_ahead 172 = .ok (.getfield 124, 3) := by decide +kernel
theorem dX12_ahead_175 : decode cX12_ahead 175 = .ok (.iconst 1, 1) := by decide +kernel
theorem dX12_ahead_176 : decode cX12_ahead 176 = .ok (.iadd, 1) := by decide +kernel
theorem dX12_ahead_177 : decode cX12_ahead 177 = .ok (.putfield 124, 3) := by decide +kernel
theorem dX12_ahead_180 : decode cX12_ahead 180 = .ok (.goto (-52), 3) := by decide +kernel
theorem dX12_ahead_183 : decode cX12_ahead 183 = .ok (.aload_n 0, 1) := by decide +kernel
theorem dX12_ahead_184 : decode cX12_ahead 184 = .ok (.aload_n 0, 1) := by decide +kernel
theorem dX12_ahead_185 : decode cX12_ahead 185 = .ok (.getfield 124, 3) := by decide +kernel
theorem dX12_ahead_188 : decode cX12_ahead 188 = .ok (.aload_n 0, 1) := by decide +kernel
theorem dX12_ahead_189 : decode cX12_ahead 189 = .ok (.getfield 131, 3) := by decide +kernel
theorem dX12_ahead_192 : decode cX12_ahead 192 = .ok (.isub, 1) := by decide +kernel
theorem dX12_ahead_193 : decode cX12_ahead 193 = .ok (.iconst 4, 1) := by decide +kernel
theorem dX12_ahead_194 : decode cX12_ahead 194 = .ok (.if_icmp .le 7, 3) := by decide +kernel
theorem dX12_ahead_197 : decode cX12_ahead 197 = .ok (.iconst 1, 1) := by decide +kernel
theorem dX12_ahead_198 : decode cX12_ahead 198 = .ok (.goto 4, 3) := by decide +kernel
theorem dX12_ahead_201 : decode cX12_ahead 201 = .ok (.iconst 3, 1) := by decide +kernel
theorem dX12_ahead_202 : decode cX12_ahead 202 = .ok (.putfield 137, 3) := by decide +kernel
theorem dX12_ahead_205 : decode cX12_ahead 205 = .ok (.goto 28, 3) := by decide +kernel
theorem dX12_ahead_208 : decode cX12_ahead 208 = .ok (.aload_n 0, 1) := by decide +kernel
theorem dX12_ahead_209 : decode cX12_ahead 209 = .ok (.dup, 1) := by decide +kernel
theorem dX12_ahead_210 : decode cX12_ahead 210 = .ok (.getfield 124, 3) := by decide +kernel
theorem dX12_ahead_213 : decode cX12_ahead 213 = .ok (.iconst 1, 1) := by decide +kernel
theorem dX12_ahead_214 : decode cX12_ahead 214 = .ok (.iadd, 1) := by decide +kernel
theorem dX12_ahead_215 : decode cX12_ahead 215 = .ok (.putfield 124, 3) := by decide +kernel
theorem dX12_ahead_218 : decode cX12_ahead 218 = .ok (.aload_n 0, 1) := by decide +kernel
theorem dX12_ahead_219 : decode cX12_ahead 219 = .ok (.iload_n 1, 1) := by decide +kernel
theorem dX12_ahead_220 : decode cX12_ahead 220 = .ok (.bipush 59, 2) := by decide +kernel
theorem dX12_ahead_222 : decode cX12_ahead 222 = .ok (.if_icmp .ne 7, 3) := by decide +kernel
theorem dX12_ahead_225 : decode cX12_ahead 225 = .ok (.iconst 4, 1) := by decide +kernel
theorem dX12_ahead_226 : decode cX12_ahead 226 = .ok (.goto 4, 3) := by decide +kernel
theorem dX12_ahead_229 : decode cX12_ahead 229 = .ok (.iconst 1, 1) := by decide +kernel
theorem dX12_ahead_230 : decode cX12_ahead 230 = .ok (.putfield 137, 3) := by decide +kernel
theorem dX12_ahead_233 : decode cX12_ahead 233 = .ok (.return_, 1) := by decide +kernel
theorem dX12_isSign_0 : decode cX12_isSign 0 = .ok (.aload_n 0, 1) := by decide +kernel
theorem dX12_isSign_1 : decode cX12_isSign 1 = .ok (.getfield 137, 3) := by decide +kernel
theorem dX12_isSign_4 : decode cX12_isSign 4 = .ok (.iconst 4, 1) := by decide +kernel
theorem dX12_isSign_5 : decode cX12_isSign 5 = .ok (.if_icmp .ne 15, 3) := by decide +kernel
theorem dX12_isSign_8 : decode cX12_isSign 8 = .ok (.aload_n 0, 1) := by decide +kernel
theorem dX12_isSign_9 : decode cX12_isSign 9 = .ok (.getfield 134, 3) := by decide +kernel
theorem dX12_isSign_12 : decode cX12_isSign 12 = .ok (.iload_n 1, 1) := by decide +kernel
theorem dX12_isSign_13 : decode cX12_isSign 13 = .ok (.if_icmp .ne 7, 3) := by decide +kernel
theorem dX12_isSign_16 : decode cX12_isSign 16 = .ok (.iconst 1, 1) := by decide +kernel
theorem dX12_isSign_17 : decode cX12_isSign 17 = .ok (.goto 4, 3) := by decide +kernel
theorem dX12_isSign_20 : decode cX12_isSign 20 = .ok (.iconst 0, 1) := by decide +kernel
theorem dX12_isSign_21 : decode cX12_isSign 21 = .ok (.ireturn, 1) := by decide +kernel
theorem dX12_inWords_0 : decode cX12_inWords 0 = .ok (.aload_n 0, 1) := by decide +kernel
theorem dX12_inWords_1 : decode cX12_inWords 1 = .ok (.getfield 137, 3) := by decide +kernel
theorem dX12_inWords_4 : decode cX12_inWords 4 = .ok (.iconst 2, 1) := by decide +kernel
theorem dX12_inWords_5 : decode cX12_inWords 5 = .ok (.if_icmp .eq 5, 3) := by decide +kernel
theorem dX12_inWords_8 : decode cX12_inWords 8 = .ok (.iconst (-1), 1) := by decide +kernel
theorem dX12_inWords_9 : decode cX12_inWords 9 = .ok (.ireturn, 1) := by decide +kernel
theorem dX12_inWords_10 : decode cX12_inWords 10 = .ok (.iconst 0, 1) := by decide +kernel
theorem dX12_inWords_11 : decode cX12_inWords 11 = .ok (.istore_n 2, 1) := by decide +kernel
theorem dX12_inWords_12 : decode cX12_inWords 12 = .ok (.iconst 1, 1) := by decide +kernel
theorem dX12_inWords_13 : decode cX12_inWords 13 = .ok (.istore_n 3, 1) := by decide +kernel
theorem dX12_inWords_14 : decode cX12_inWords 14 = .ok (.iload_n 3, 1) := by decide +kernel
theorem dX12_inWords_15 : decode cX12_inWords 15 = .ok (.aload_n 1, 1) := by decide +kernel
theorem dX12_inWords_16 : decode cX12_inWords 16 = .ok (.invokevirtual 152, 3) := by decide +kernel
theorem dX12_inWords_19 : decode cX12_inWords 19 = .ok (.if_icmp .ge 114, 3) := by decide +kernel
theorem dX12_inWords_22 : decode cX12_inWords 22 = .ok (.iload_n 3, 1) := by decide +kernel
theorem dX12_inWords_23 : decode cX12_inWords 23 = .ok (.istore 4, 2) := by decide +kernel
theorem dX12_inWords_25 : decode cX12_inWords 25 = .ok (.aload_n 1, 1) := by decide +kernel
theorem dX12_inWords_26 : decode cX12_inWords 26 = .ok (.iload 4, 2) := by decide +kernel
theorem dX12_inWords_28 : decode cX12_inWords 28 = .ok (.invokevirtual 158, 3) := by decide +kernel
theorem dX12_inWords_31 : decode cX12_inWords 31 = .ok (.bipush 32, 2) := by decide +kernel
theorem dX12_inWords_33 : decode cX12_inWords 33 = .ok (.if_icmp .eq 9, 3) := by decide +kernel
theorem dX12_inWords_36 : decode cX12_inWords 36 = .ok (.iinc 4 1, 3) := by decide +kernel
theorem dX12_inWords_39 : decode cX12_inWords 39 = .ok (.goto (-14), 3) := by decide +kernel
theorem dX12_inWords_42 : decode cX12_inWords 42 = .ok (.iload 4, 2) := by decide +kernel
theorem dX12_inWords_44 : decode cX12_inWords 44 = .ok (.iload_n 3, 1) := by decide +kernel
theorem dX12_inWords_45 : decode cX12_inWords 45 = .ok (.isub, 1) := by decide +kernel
theorem dX12_inWords_46 : decode cX12_inWords 46 = .ok (.aload_n 0, 1) := by decide +kernel
theorem dX12_inWords_47 : decode cX12_inWords 47 = .ok (.getfield 124, 3) := by decide +kernel
theorem dX12_inWords_50 : decode cX12_inWords 50 = .ok (.aload_n 0, 1) := by decide +kernel
theorem dX12_inWords_51 : decode cX12_inWords 51 = .ok (.getfield 131, 3) := by decide +kernel
theorem dX12_inWords_54 : decode cX12_inWords 54 = .ok (.isub, 1) := by decide +kernel
theorem dX12_inWords_55 : decode cX12_inWords 55 = .ok (.if_icmp .ne 7, 3) := by decide +kernel
theorem dX12_inWords_58 : decode cX12_inWords 58 = .ok (.iconst 1, 1) := by decide +kernel
theorem dX12_inWords_59 : decode cX12_inWords 59 = .ok (.goto 4, 3) := by decide +kernel
theorem dX12_inWords_62 : decode cX12_inWords 62 = .ok (.iconst 0, 1) := by decide +kernel
theorem dX12_inWords_63 : decode cX12_inWords 63 = .ok (.istore 5, 2) := by decide +kernel
theorem dX12_inWords_65 : decode cX12_inWords 65 = .ok (.iload_n 3, 1) := by decide +kernel
theorem dX12_inWords_66 : decode cX12_inWords 66 = .ok (.istore 6, 2) := by decide +kernel
theorem dX12_inWords_68 : decode cX12_inWords 68 = .ok (.iload 6, 2) := by decide +kernel
theorem dX12_inWords_70 : decode cX12_inWords 70 = .ok (.iload 4, 2) := by decide +kernel
theorem dX12_inWords_72 : decode cX12_inWords 72 = .ok (.if_icmp .ge 43, 3) := by decide +kernel
theorem dX12_inWords_75 : decode cX12_inWords 75 = .ok (.iload 5, 2) := by decide +kernel
theorem dX12_inWords_77 : decode cX12_inWords 77 = .ok (.ifCond .eq 38, 3) := by decide +kernel
theorem dX12_inWords_80 : decode cX12_inWords 80 = .ok (.aload_n 1, 1) := by decide +kernel
theorem dX12_inWords_81 : decode cX12_inWords 81 = .ok (.iload 6, 2) := by decide +kernel
theorem dX12_inWords_83 : decode cX12_inWords 83 = .ok (.invokevirtual 158, 3) := by decide +kernel
theorem dX12_inWords_86 : decode cX12_inWords 86 = .ok (.aload_n 0, 1) := by decide +kernel
theorem dX12_inWords_87 : decode cX12_inWords 87 = .ok (.aload_n 0, 1) := by decide +kernel
theorem dX12_inWords_88 : decode cX12_inWords 88 = .ok (.getfield 131, 3) := by decide +kernel
theorem dX12_inWords_91 : decode cX12_inWords 91 = .ok (.iload 6, 2) := by decide +kernel
theorem dX12_inWords_93 : decode cX12_inWords 93 = .ok (.iadd, 1) := by decide +kernel
theorem dX12_inWords_94 : decode cX12_inWords 94 = .ok (.iload_n 3, 1) := by decide +kernel
theorem dX12_inWords_95 : decode cX12_inWords 95 = .ok (.isub, 1) := by decide +kernel
theorem dX12_inWords_96 : decode cX12_inWords 96 = .ok (.invokevirtual 127, 3) := by decide +kernel
theorem dX12_inWords_99 : decode cX12_inWords 99 = .ok (.if_icmp .ne 7, 3) := by decide +kernel
theorem dX12_inWords_102 : decode cX12_inWords 102 = .ok (.iconst 1, 1) := by decide +kernel
theorem dX12_inWords_103 : decode cX12_inWords 103 = .ok (.goto 4, 3) := by decide +kernel
theorem dX12_inWords_106 : decode cX12_inWords 106 = .ok (.iconst 0, 1) := by decide +kernel
theorem dX12_inWords_107 : decode cX12_inWords 107 = .ok (.istore 5, 2) := by decide +kernel
theorem dX12_inWords_109 : decode cX12_inWords 109 = .ok (.iinc 6 1, 3) := by decide +kernel
theorem dX12_inWords_112 : decode cX12_inWords 112 = .ok (.goto (-44), 3) := by decide +kernel
theorem dX12_inWords_115 : decode cX12_inWords 115 = .ok (.iload 5, 2) := by decide +kernel
theorem dX12_inWords_117 : decode cX12_inWords 117 = .ok (.ifCond .eq 5, 3) := by decide +kernel
theorem dX12_inWords_120 : decode cX12_inWords 120 = .ok (.iload_n 2, 1) := by decide +kernel
theorem dX12_inWords_121 : decode cX12_inWords 121 = .ok (.ireturn, 1) := by decide +kernel
theorem dX12_inWords_122 : decode cX12_inWords 122 = .ok (.iinc 2 1, 3) := by decide +kernel
theorem dX12_inWords_125 : decode cX12_inWords 125 = .ok (.iload 4, 2) := by decide +kernel
theorem dX12_inWords_127 : decode cX12_inWords 127 = .ok (.iconst 1, 1) := by decide +kernel
theorem dX12_inWords_128 : decode cX12_inWords 128 = .ok (.iadd, 1) := by decide +kernel
theorem dX12_inWords_129 : decode cX12_inWords 129 = .ok (.istore_n 3, 1) := by decide +kernel
theorem dX12_inWords_130 : decode cX12_inWords 130 = .ok (.goto (-116), 3) := by decide +kernel
theorem dX12_inWords_133 : decode cX12_inWords 133 = .ok (.iconst (-1), 1) := by decide +kernel
theorem dX12_inWords_134 : decode cX12_inWords 134 = .ok (.ireturn, 1) := by decide +kernel
theorem dX12_fails_0 : decode cX12_fails 0 = .ok (.aload_n 0, 1) := by decide +kernel
theorem dX12_fails_1 : decode cX12_fails 1 = .ok (.getfield 162, 3) := by decide +kernel
theorem dX12_fails_4 : decode cX12_fails 4 = .ok (.ifCond .ne 28, 3) := by decide +kernel
theorem dX12_fails_7 : decode cX12_fails 7 = .ok (.aload_n 0, 1) := by decide +kernel
theorem dX12_fails_8 : decode cX12_fails 8 = .ok (.aload_n 0, 1) := by decide +kernel
theorem dX12_fails_9 : decode cX12_fails 9 = .ok (.getfield 137, 3) := by decide +kernel
theorem dX12_fails_12 : decode cX12_fails 12 = .ok (.iconst 1, 1) := by decide +kernel
theorem dX12_fails_13 : decode cX12_fails 13 = .ok (.if_icmp .ne 7, 3) := by decide +kernel
theorem dX12_fails_16 : decode cX12_fails 16 = .ok (.iconst 1, 1) := by decide +kernel
theorem dX12_fails_17 : decode cX12_fails 17 = .ok (.goto 4, 3) := by decide +kernel
theorem dX12_fails_20 : decode cX12_fails 20 = .ok (.iload_n 1, 1) := by decide +kernel
theorem dX12_fails_21 : decode cX12_fails 21 = .ok (.putfield 162, 3) := by decide +kernel
theorem dX12_fails_24 : decode cX12_fails 24 = .ok (.aload_n 0, 1) := by decide +kernel
theorem dX12_fails_25 : decode cX12_fails 25 = .ok (.aload_n 0, 1) := by decide +kernel
theorem dX12_fails_26 : decode cX12_fails 26 = .ok (.getfield 131, 3) := by decide +kernel
theorem dX12_fails_29 : decode cX12_fails 29 = .ok (.putfield 41, 3) := by decide +kernel
theorem dX12_fails_32 : decode cX12_fails 32 = .ok (.iconst 0, 1) := by decide +kernel
theorem dX12_fails_33 : decode cX12_fails 33 = .ok (.ireturn, 1) := by decide +kernel
theorem dX12_begins_0 : decode cX12_begins 0 = .ok (.iload_n 1, 1) := by decide +kernel
theorem dX12_begins_1 : decode cX12_begins 1 = .ok (.ifCond .lt 16, 3) := by decide +kernel
theorem dX12_begins_4 : decode cX12_begins 4 = .ok (.iload_n 1, 1) := by decide +kernel
theorem dX12_begins_5 : decode cX12_begins 5 = .ok (.aload_n 0, 1) := by decide +kernel
theorem dX12_begins_6 : decode cX12_begins 6 = .ok (.getfield 115, 3) := by decide +kernel
theorem dX12_begins_9 : decode cX12_begins 9 = .ok (.if_icmp .gt 8, 3) := by decide +kernel
theorem dX12_begins_12 : decode cX12_begins 12 = .ok (.iload_n 1, 1) := by decide +kernel
theorem dX12_begins_13 : decode cX12_begins 13 = .ok (.iload_n 2, 1) := by decide +kernel
theorem dX12_begins_14 : decode cX12_begins 14 = .ok (.if_icmp .le 5, 3) := by decide +kernel
theorem dX12_begins_17 : decode cX12_begins 17 = .ok (.iconst 0, 1) := by decide +kernel
theorem dX12_begins_18 : decode cX12_begins 18 = .ok (.ireturn, 1) := by decide +kernel
theorem dX12_begins_19 : decode cX12_begins 19 = .ok (.aload_n 0, 1) := by decide +kernel
theorem dX12_begins_20 : decode cX12_begins 20 = .ok (.iload_n 1, 1) := by decide +kernel
theorem dX12_begins_21 : decode cX12_begins 21 = .ok (.putfield 121, 3) := by decide +kernel
theorem dX12_begins_24 : decode cX12_begins 24 = .ok (.iconst 0, 1) := by decide +kernel
theorem dX12_begins_25 : decode cX12_begins 25 = .ok (.istore_n 3, 1) := by decide +kernel
theorem dX12_begins_26 : decode cX12_begins 26 = .ok (.iload_n 3, 1) := by decide +kernel
theorem dX12_begins_27 : decode cX12_begins 27 = .ok (.iload_n 1, 1) := by decide +kernel
theorem dX12_begins_28 : decode cX12_begins 28 = .ok (.if_icmp .ge 21, 3) := by decide +kernel
theorem dX12_begins_31 : decode cX12_begins 31 = .ok (.aload_n 0, 1) := by decide +kernel
theorem dX12_begins_32 : decode cX12_begins 32 = .ok (.getfield 34, 3) := by decide +kernel
theorem dX12_begins_35 : decode cX12_begins 35 = .ok (.iload_n 3, 1) := by decide +kernel
theorem dX12_begins_36 : decode cX12_begins 36 = .ok (.aload_n 0, 1) := by decide +kernel
theorem dX12_begins_37 : decode cX12_begins 37 = .ok (.getfield 30, 3) := by decide +kernel
theorem dX12_begins_40 : decode cX12_begins 40 = .ok (.iload_n 3, 1) := by decide +kernel
theorem dX12_begins_41 : decode cX12_begins 41 = .ok (.baload, 1) := by decide +kernel
theorem dX12_begins_42 : decode cX12_begins 42 = .ok (.bastore, 1) := by decide +kernel
theorem dX12_begins_43 : decode cX12_begins 43 = .ok (.iinc 3 1, 3) := by decide +kernel
theorem dX12_begins_46 : decode cX12_begins 46 = .ok (.goto (-20), 3) := by decide +kernel
theorem dX12_begins_49 : decode cX12_begins 49 = .ok (.aload_n 0, 1) := by decide +kernel
theorem dX12_begins_50 : decode cX12_begins 50 = .ok (.iconst 0, 1) := by decide +kernel
theorem dX12_begins_51 : decode cX12_begins 51 = .ok (.putfield 115, 3) := by decide +kernel
theorem dX12_begins_54 : decode cX12_begins 54 = .ok (.aload_n 0, 1) := by decide +kernel
theorem dX12_begins_55 : decode cX12_begins 55 = .ok (.iconst 0, 1) := by decide +kernel
theorem dX12_begins_56 : decode cX12_begins 56 = .ok (.putfield 162, 3) := by decide +kernel
theorem dX12_begins_59 : decode cX12_begins 59 = .ok (.aload_n 0, 1) := by decide +kernel
theorem dX12_begins_60 : decode cX12_begins 60 = .ok (.iconst (-1), 1) := by decide +kernel
theorem dX12_begins_61 : decode cX12_begins 61 = .ok (.putfield 41, 3) := by decide +kernel
theorem dX12_begins_64 : decode cX12_begins 64 = .ok (.aload_n 0, 1) := by decide +kernel
theorem dX12_begins_65 : decode cX12_begins 65 = .ok (.iconst 0, 1) := by decide +kernel
theorem dX12_begins_66 : decode cX12_begins 66 = .ok (.putfield 124, 3) := by decide +kernel
theorem dX12_begins_69 : decode cX12_begins 69 = .ok (.aload_n 0, 1) := by decide +kernel
theorem dX12_begins_70 : decode cX12_begins 70 = .ok (.iconst 0, 1) := by decide +kernel
theorem dX12_begins_71 : decode cX12_begins 71 = .ok (.putfield 165, 3) := by decide +kernel
theorem dX12_begins_74 : decode cX12_begins 74 = .ok (.aload_n 0, 1) := by decide +kernel
theorem dX12_begins_75 : decode cX12_begins 75 = .ok (.invokevirtual 168, 3) := by decide +kernel
theorem dX12_begins_78 : decode cX12_begins 78 = .ok (.iconst 1, 1) := by decide +kernel
theorem dX12_begins_79 : decode cX12_begins 79 = .ok (.ireturn, 1) := by decide +kernel
theorem dX12_wantSign_0 : decode cX12_wantSign 0 = .ok (.aload_n 0, 1) := by decide +kernel
theorem dX12_wantSign_1 : decode cX12_wantSign 1 = .ok (.iload_n 1, 1) := by decide +kernel
theorem dX12_wantSign_2 : decode cX12_wantSign 2 = .ok (.invokevirtual 171, 3) := by decide +kernel
theorem dX12_wantSign_5 : decode cX12_wantSign 5 = .ok (.ifCond .ne 9, 3) := by decide +kernel
theorem dX12_wantSign_8 : decode cX12_wantSign 8 = .ok (.aload_n 0, 1) := by decide +kernel
theorem dX12_wantSign_9 : decode cX12_wantSign 9 = .ok (.iconst 2, 1) := by decide +kernel
theorem dX12_wantSign_10 : decode cX12_wantSign 10 = .ok (.invokevirtual 174, 3) := by decide +kernel
theorem dX12_wantSign_13 : decode cX12_wantSign 13 = .ok (.ireturn, 1) := by decide +kernel
theorem dX12_wantSign_14 : decode cX12_wantSign 14 = .ok (.aload_n 0, 1) := by decide +kernel
theorem dX12_wantSign_15 : decode cX12_wantSign 15 = .ok (.invokevirtual 168, 3) := by decide +kernel
theorem dX12_wantSign_18 : decode cX12_wantSign 18 = .ok (.iconst 1, 1) := by decide +kernel
theorem dX12_wantSign_19 : decode cX12_wantSign 19 = .ok (.ireturn, 1) := by decide +kernel
theorem dX12_wantWord_0 : decode cX12_wantWord 0 = .ok (.aload_n 0, 1) := by decide +kernel
theorem dX12_wantWord_1 : decode cX12_wantWord 1 = .ok (.aload_n 1, 1) := by decide +kernel
theorem dX12_wantWord_2 : decode cX12_wantWord 2 = .ok (.invokevirtual 177, 3) := by decide +kernel
theorem dX12_wantWord_5 : decode cX12_wantWord 5 = .ok (.iload_n 2, 1) := by decide +kernel
theorem dX12_wantWord_6 : decode cX12_wantWord 6 = .ok (.if_icmp .eq 9, 3) := by decide +kernel
theorem dX12_wantWord_9 : decode cX12_wantWord 9 = .ok (.aload_n 0, 1) := by decide +kernel
theorem dX12_wantWord_10 : decode cX12_wantWord 10 = .ok (.iconst 2, 1) := by decide +kernel
theorem dX12_wantWord_11 : decode cX12_wantWord 11 = .ok (.invokevirtual 174, 3) := by decide +kernel
theorem dX12_wantWord_14 : decode cX12_wantWord 14 = .ok (.ireturn, 1) := by decide +kernel
theorem dX12_wantWord_15 : decode cX12_wantWord 15 = .ok (.aload_n 0, 1) := by decide +kernel
theorem dX12_wantWord_16 : decode cX12_wantWord 16 = .ok (.invokevirtual 168, 3) := by decide +kernel
theorem dX12_wantWord_19 : decode cX12_wantWord 19 = .ok (.iconst 1, 1) := by decide +kernel
theorem dX12_wantWord_20 : decode cX12_wantWord 20 = .ok (.ireturn, 1) := by decide +kernel
theorem dX12_number_0 : decode cX12_number 0 = .ok (.aload_n 0, 1) := by decide +kernel
theorem dX12_number_1 : decode cX12_number 1 = .ok (.getfield 137, 3) := by decide +kernel
theorem dX12_number_4 : decode cX12_number 4 = .ok (.iconst 3, 1) := by decide +kernel
theorem dX12_number_5 : decode cX12_number 5 = .ok (.if_icmp .eq 9, 3) := by decide +kernel
theorem dX12_number_8 : decode cX12_number 8 = .ok (.aload_n 0, 1) := by decide +kernel
theorem dX12_number_9 : decode cX12_number 9 = .ok (.iconst 2, 1) := by decide +kernel
theorem dX12_number_10 : decode cX12_number 10 = .ok (.invokevirtual 174, 3) := by decide +kernel
theorem dX12_number_13 : decode cX12_number 13 = .ok (.ireturn, 1) := by decide +kernel
theorem dX12_number_14 : decode cX12_number 14 = .ok (.aload_n 0, 1) := by decide +kernel
theorem dX12_number_15 : decode cX12_number 15 = .ok (.getfield 134, 3) := by decide +kernel
theorem dX12_number_18 : decode cX12_number 18 = .ok (.iload_n 2, 1) := by decide +kernel
theorem dX12_number_19 : decode cX12_number 19 = .ok (.if_icmp .lt 11, 3) := by decide +kernel
theorem dX12_number_22 : decode cX12_number 22 = .ok (.aload_n 0, 1) := by decide +kernel
theorem dX12_number_23 : decode cX12_number 23 = .ok (.getfield 134, 3) := by decide +kernel
theorem dX12_number_26 : decode cX12_number 26 = .ok (.iload_n 3, 1) := by decide +kernel
theorem dX12_number_27 : decode cX12_number 27 = .ok (.if_icmp .le 9, 3) := by decide +kernel
theorem dX12_number_30 : decode cX12_number 30 = .ok (.aload_n 0, 1) := by decide +kernel
theorem dX12_number_31 : decode cX12_number 31 = .ok (.iconst 4, 1) := by decide +kernel
theorem dX12_number_32 : decode cX12_number 32 = .ok (.invokevirtual 174, 3) := by decide +kernel
theorem dX12_number_35 : decode cX12_number 35 = .ok (.ireturn, 1) := by decide +kernel
theorem dX12_number_36 : decode cX12_number 36 = .ok (.aload_n 0, 1) := by decide +kernel
theorem dX12_number_37 : decode cX12_number 37 = .ok (.getfield 7, 3) := by decide +kernel
theorem dX12_number_40 : decode cX12_number 40 = .ok (.iload_n 1, 1) := by decide +kernel
theorem dX12_number_41 : decode cX12_number 41 = .ok (.aload_n 0, 1) := by decide +kernel
theorem dX12_number_42 : decode cX12_number 42 = .ok (.getfield 134, 3) := by decide +kernel
theorem dX12_number_45 : decode cX12_number 45 = .ok (.iastore, 1) := by decide +kernel
theorem dX12_number_46 : decode cX12_number 46 = .ok (.aload_n 0, 1) := by decide +kernel
theorem dX12_number_47 : decode cX12_number 47 = .ok (.invokevirtual 168, 3) := by decide +kernel
theorem dX12_number_50 : decode cX12_number 50 = .ok (.iconst 1, 1) := by decide +kernel
theorem dX12_number_51 : decode cX12_number 51 = .ok (.ireturn, 1) := by decide +kernel
theorem dX12_isName_0 : decode cX12_isName 0 = .ok (.aload_n 0, 1) := by decide +kernel
theorem dX12_isName_1 : decode cX12_isName 1 = .ok (.getfield 137, 3) := by decide +kernel
theorem dX12_isName_4 : decode cX12_isName 4 = .ok (.iconst 2, 1) := by decide +kernel
theorem dX12_isName_5 : decode cX12_isName 5 = .ok (.if_icmp .ne 30, 3) := by decide +kernel
theorem dX12_isName_8 : decode cX12_isName 8 = .ok (.aload_n 0, 1) := by decide +kernel
theorem dX12_isName_9 : decode cX12_isName 9 = .ok (.getfield 124, 3) := by decide +kernel
theorem dX12_isName_12 : decode cX12_isName 12 = .ok (.aload_n 0, 1) := by decide +kernel
theorem dX12_isName_13 : decode cX12_isName 13 = .ok (.getfield 131, 3) := by decide +kernel
theorem dX12_isName_16 : decode cX12_isName 16 = .ok (.isub, 1) := by decide +kernel
theorem dX12_isName_17 : decode cX12_isName 17 = .ok (.bipush 8, 2) := by decide +kernel
theorem dX12_isName_19 : decode cX12_isName 19 = .ok (.if_icmp .gt 16, 3) := by decide +kernel
theorem dX12_isName_22 : decode cX12_isName 22 = .ok (.aload_n 0, 1) := by decide +kernel
theorem dX12_isName_23 : decode cX12_isName 23 = .ok (.aload_n 1, 1) := by decide +kernel
theorem dX12_isName_24 : decode cX12_isName 24 = .ok (.invokevirtual 177, 3) := by decide +kernel
theorem dX12_isName_27 : decode cX12_isName 27 = .ok (.iconst (-1), 1) := by decide +kernel
theorem dX12_isName_28 : decode cX12_isName 28 = .ok (.if_icmp .ne 7, 3) := by decide +kernel
theorem dX12_isName_31 : decode cX12_isName 31 = .ok (.iconst 1, 1) := by decide +kernel
theorem dX12_isName_32 : decode cX12_isName 32 = .ok (.goto 4, 3) := by decide +kernel
theorem dX12_isName_35 : decode cX12_isName 35 = .ok (.iconst 0, 1) := by decide +kernel
theorem dX12_isName_36 : decode cX12_isName 36 = .ok (.ireturn, 1) := by decide +kernel
theorem dX12_nameHere_0 : decode cX12_nameHere 0 = .ok (.lconst 0, 1) := by decide +kernel
theorem dX12_nameHere_1 : decode cX12_nameHere 1 = .ok (.lstore_n 1, 1) := by decide +kernel
theorem dX12_nameHere_2 : decode cX12_nameHere 2 = .ok (.aload_n 0, 1) := by decide +kernel
theorem dX12_nameHere_3 : decode cX12_nameHere 3 = .ok (.getfield 131, 3) := by decide +kernel
theorem dX12_nameHere_6 : decode cX12_nameHere 6 = .ok (.istore_n 3, 1) := by decide +kernel
theorem dX12_nameHere_7 : decode cX12_nameHere 7 = .ok (.iload_n 3, 1) := by decide +kernel
theorem dX12_nameHere_8 : decode cX12_nameHere 8 = .ok (.aload_n 0, 1) := by decide +kernel
theorem dX12_nameHere_9 : decode cX12_nameHere 9 = .ok (.getfield 124, 3) := by decide +kernel
theorem dX12_nameHere_12 : decode cX12_nameHere 12 = .ok (.if_icmp .ge 21, 3) := by decide +kernel
theorem dX12_nameHere_15 : decode cX12_nameHere 15 = .ok (.lload_n 1, 1) := by decide +kernel
theorem dX12_nameHere_16 : decode cX12_nameHere 16 = .ok (.bipush 8, 2) := by decide +kernel
theorem dX12_nameHere_18 : decode cX12_nameHere 18 = .ok (.lshl, 1) := by decide +kernel
theorem dX12_nameHere_19 : decode cX12_nameHere 19 = .ok (.aload_n 0, 1) := by decide +kernel
theorem dX12_nameHere_20 : decode cX12_nameHere 20 = .ok (.iload_n 3, 1) := by decide +kernel
theorem dX12_nameHere_21 : decode cX12_nameHere 21 = .ok (.invokevirtual 127, 3) := by decide +kernel
theorem dX12_nameHere_24 : decode cX12_nameHere 24 = .ok (.i2l, 1) := by decide +kernel
theorem dX12_nameHere_25 : decode cX12_nameHere 25 = .ok (.lor, 1) := by decide +kernel
theorem dX12_nameHere_26 : decode cX12_nameHere 26 = .ok (.lstore_n 1, 1) := by decide +kernel
theorem dX12_nameHere_27 : decode cX12_nameHere 27 = .ok (.iinc 3 1, 3) := by decide +kernel
theorem dX12_nameHere_30 : decode cX12_nameHere 30 = .ok (.goto (-23), 3) := by decide +kernel
theorem dX12_nameHere_33 : decode cX12_nameHere 33 = .ok (.lload_n 1, 1) := by decide +kernel
theorem dX12_nameHere_34 : decode cX12_nameHere 34 = .ok (.lreturn, 1) := by decide +kernel
theorem dX12_findHere_0 : decode cX12_findHere 0 = .ok (.iconst 0, 1) := by decide +kernel
theorem dX12_findHere_1 : decode cX12_findHere 1 = .ok (.istore_n 3, 1) := by decide +kernel
theorem dX12_findHere_2 : decode cX12_findHere 2 = .ok (.iload_n 3, 1) := by decide +kernel
theorem dX12_findHere_3 : decode cX12_findHere 3 = .ok (.iload_n 2, 1) := by decide +kernel
theorem dX12_findHere_4 : decode cX12_findHere 4 = .ok (.if_icmp .ge 27, 3) := by decide +kernel
theorem dX12_findHere_7 : decode cX12_findHere 7 = .ok (.aload_n 0, 1) := by decide +kernel
theorem dX12_findHere_8 : decode cX12_findHere 8 = .ok (.getfield 13, 3) := by decide +kernel
theorem dX12_findHere_11 : decode cX12_findHere 11 = .ok (.iload_n 1, 1) := by decide +kernel
theorem dX12_findHere_12 : decode cX12_findHere 12 = .ok (.iload_n 3, 1) := by decide +kernel
theorem dX12_findHere_13 : decode cX12_findHere 13 = .ok (.iadd, 1) := by decide +kernel
theorem dX12_findHere_14 : decode cX12_findHere 14 = .ok (.laload, 1) := by decide +kernel
theorem dX12_findHere_15 : decode cX12_findHere 15 = .ok (.aload_n 0, 1) := by decide +kernel
theorem dX12_findHere_16 : decode cX12_findHere 16 = .ok (.invokevirtual 181, 3) := by decide +kernel
theorem dX12_findHere_19 : decode cX12_findHere 19 = .ok (.lcmp, 1) := by decide +kernel
theorem dX12_findHere_20 : decode cX12_findHere 20 = .ok (.ifCond .ne 5, 3) := by decide +kernel
theorem dX12_findHere_23 : decode cX12_findHere 23 = .ok (.iload_n 3, 1) := by decide +kernel
theorem dX12_findHere_24 : decode cX12_findHere 24 = .ok (.ireturn, 1) := by decide +kernel
theorem dX12_findHere_25 : decode cX12_findHere 25 = .ok (.iinc 3 1, 3) := by decide +kernel
theorem dX12_findHere_28 : decode cX12_findHere 28 = .ok (.goto (-26), 3) := by decide +kernel
theorem dX12_findHere_31 : decode cX12_findHere 31 = .ok (.iconst (-1), 1) := by decide +kernel
theorem dX12_findHere_32 : decode cX12_findHere 32 = .ok (.ireturn, 1) := by decide +kernel
theorem dX12_fault_0 : decode cX12_fault 0 = .ok (.iload_n 1, 1) := by decide +kernel
theorem dX12_fault_1 : decode cX12_fault 1 = .ok (.ifCond .ne 10, 3) := by decide +kernel
theorem dX12_fault_4 : decode cX12_fault 4 = .ok (.aload_n 0, 1) := by decide +kernel
theorem dX12_fault_5 : decode cX12_fault 5 = .ok (.getfield 37, 3) := by decide +kernel
theorem dX12_fault_8 : decode cX12_fault 8 = .ok (.goto 16, 3) := by decide +kernel
theorem dX12_fault_11 : decode cX12_fault 11 = .ok (.iload_n 1, 1) := by decide +kernel
theorem dX12_fault_12 : decode cX12_fault 12 = .ok (.iconst 1, 1) := by decide +kernel
theorem dX12_fault_13 : decode cX12_fault 13 = .ok (.if_icmp .ne 10, 3) := by decide +kernel
theorem dX12_fault_16 : decode cX12_fault 16 = .ok (.aload_n 0, 1) := by decide +kernel
theorem dX12_fault_17 : decode cX12_fault 17 = .ok (.getfield 41, 3) := by decide +kernel
theorem dX12_fault_20 : decode cX12_fault 20 = .ok (.goto 4, 3) := by decide +kernel
theorem dX12_fault_23 : decode cX12_fault 23 = .ok (.iconst (-1), 1) := by decide +kernel
theorem dX12_fault_24 : decode cX12_fault 24 = .ok (.ireturn, 1) := by decide +kernel
theorem dX12_taken_0 : decode cX12_taken 0 = .ok (.aload_n 0, 1) := by decide +kernel
theorem dX12_taken_1 : decode cX12_taken 1 = .ok (.aload_n 0, 1) := by decide +kernel
theorem dX12_taken_2 : decode cX12_taken 2 = .ok (.getfield 162, 3) := by decide +kernel
theorem dX12_taken_5 : decode cX12_taken 5 = .ok (.putfield 37, 3) := by decide +kernel
theorem dX12_taken_8 : decode cX12_taken 8 = .ok (.aload_n 0, 1) := by decide +kernel
theorem dX12_taken_9 : decode cX12_taken 9 = .ok (.getfield 162, 3) := by decide +kernel
theorem dX12_taken_12 : decode cX12_taken 12 = .ok (.ifCond .le 12, 3) := by decide +kernel
theorem dX12_taken_15 : decode cX12_taken 15 = .ok (.aload_n 0, 1) := by decide +kernel
theorem dX12_taken_16 : decode cX12_taken 16 = .ok (.bipush 9, 2) := by decide +kernel
theorem dX12_taken_18 : decode cX12_taken 18 = .ok (.invokevirtual 185, 3) := by decide +kernel
theorem dX12_taken_21 : decode cX12_taken 21 = .ok (.goto 8, 3) := by decide +kernel
theorem dX12_taken_24 : decode cX12_taken 24 = .ok (.aload_n 0, 1) := by decide +kernel
theorem dX12_taken_25 : decode cX12_taken 25 = .ok (.iload_n 1, 1) := by decide +kernel
theorem dX12_taken_26 : decode cX12_taken 26 = .ok (.invokevirtual 188, 3) := by decide +kernel
theorem dX12_taken_29 : decode cX12_taken 29 = .ok (.ireturn, 1) := by decide +kernel
theorem dX12_aRow_0 : decode cX12_aRow 0 = .ok (.aload_n 0, 1) := by decide +kernel
theorem dX12_aRow_1 : decode cX12_aRow 1 = .ok (.getfield 191, 3) := by decide +kernel
theorem dX12_aRow_4 : decode cX12_aRow 4 = .ok (.aload_n 0, 1) := by decide +kernel
theorem dX12_aRow_5 : decode cX12_aRow 5 = .ok (.getfield 7, 3) := by decide +kernel
theorem dX12_aRow_8 : decode cX12_aRow 8 = .ok (.sipush 1761, 3) := by decide +kernel
theorem dX12_aRow_11 : decode cX12_aRow 11 = .ok (.iaload, 1) := by decide +kernel
theorem dX12_aRow_12 : decode cX12_aRow 12 = .ok (.if_icmp .ne 10, 3) := by decide +kernel
theorem dX12_aRow_15 : decode cX12_aRow 15 = .ok (.aload_n 0, 1) := by decide +kernel
theorem dX12_aRow_16 : decode cX12_aRow 16 = .ok (.bipush 6, 2) := by decide +kernel
theorem dX12_aRow_18 : decode cX12_aRow 18 = .ok (.invokevirtual 174, 3) := by decide +kernel
theorem dX12_aRow_21 : decode cX12_aRow 21 = .ok (.ireturn, 1) := by decide +kernel
theorem dX12_aRow_22 : decode cX12_aRow 22 = .ok (.aload_n 0, 1) := by decide +kernel
theorem dX12_aRow_23 : decode cX12_aRow 23 = .ok (.invokevirtual 168, 3) := by decide +kernel
theorem dX12_aRow_26 : decode cX12_aRow 26 = .ok (.aload_n 0, 1) := by decide +kernel
theorem dX12_aRow_27 : decode cX12_aRow 27 = .ok (.getfield 137, 3) := by decide +kernel
theorem dX12_aRow_30 : decode cX12_aRow 30 = .ok (.iconst 3, 1) := by decide +kernel
theorem dX12_aRow_31 : decode cX12_aRow 31 = .ok (.if_icmp .eq 9, 3) := by decide +kernel
theorem dX12_aRow_34 : decode cX12_aRow 34 = .ok (.aload_n 0, 1) := by decide +kernel
theorem dX12_aRow_35 : decode cX12_aRow 35 = .ok (.iconst 2, 1) := by decide +kernel
theorem dX12_aRow_36 : decode cX12_aRow 36 = .ok (.invokevirtual 174, 3) := by decide +kernel
theorem dX12_aRow_39 : decode cX12_aRow 39 = .ok (.ireturn, 1) := by decide +kernel
theorem dX12_aRow_40 : decode cX12_aRow 40 = .ok (.iconst 0, 1) := by decide +kernel
theorem dX12_aRow_41 : decode cX12_aRow 41 = .ok (.istore_n 1, 1) := by decide +kernel
theorem dX12_aRow_42 : decode cX12_aRow 42 = .ok (.aload_n 0, 1) := by decide +kernel
theorem dX12_aRow_43 : decode cX12_aRow 43 = .ok (.getfield 137, 3) := by decide +kernel
theorem dX12_aRow_46 : decode cX12_aRow 46 = .ok (.iconst 3, 1) := by decide +kernel
theorem dX12_aRow_47 : decode cX12_aRow 47 = .ok (.if_icmp .ne 75, 3) := by decide +kernel
theorem dX12_aRow_50 : decode cX12_aRow 50 = .ok (.aload_n 0, 1) := by decide +kernel
theorem dX12_aRow_51 : decode cX12_aRow 51 = .ok (.getfield 134, 3) := by decide +kernel
theorem dX12_aRow_54 : decode cX12_aRow 54 = .ok (.bipush 20, 2) := by decide +kernel
theorem dX12_aRow_56 : decode cX12_aRow 56 = .ok (.if_icmp .le 9, 3) := by decide +kernel
theorem dX12_aRow_59 : decode cX12_aRow 59 = .ok (.aload_n 0, 1) := by decide +kernel
theorem dX12_aRow_60 : decode cX12_aRow 60 = .ok (.iconst 4, 1) := by decide +kernel
theorem dX12_aRow_61 : decode cX12_aRow 61 = .ok (.invokevirtual 174, 3) := by decide +kernel
theorem dX12_aRow_64 : decode cX12_aRow 64 = .ok (.ireturn, 1) := by decide +kernel
theorem dX12_aRow_65 : decode cX12_aRow 65 = .ok (.iload_n 1, 1) := by decide +kernel
theorem dX12_aRow_66 : decode cX12_aRow 66 = .ok (.aload_n 0, 1) := by decide +kernel
theorem dX12_aRow_67 : decode cX12_aRow 67 = .ok (.getfield 7, 3) := by decide +kernel
theorem dX12_aRow_70 : decode cX12_aRow 70 = .ok (.sipush 1760, 3) := by decide +kernel
theorem dX12_aRow_73 : decode cX12_aRow 73 = .ok (.iaload, 1) := by decide +kernel
theorem dX12_aRow_74 : decode cX12_aRow 74 = .ok (.if_icmp .ne 10, 3) := by decide +kernel
theorem dX12_aRow_77 : decode cX12_aRow 77 = .ok (.aload_n 0, 1) := by decide +kernel
theorem dX12_aRow_78 : decode cX12_aRow 78 = .ok (.bipush 6, 2) := by decide +kernel
theorem dX12_aRow_80 : decode cX12_aRow 80 = .ok (.invokevirtual 174, 3) := by decide +kernel
theorem dX12_aRow_83 : decode cX12_aRow 83 = .ok (.ireturn, 1) := by decide +kernel
theorem dX12_aRow_84 : decode cX12_aRow 84 = .ok (.aload_n 0, 1) := by decide +kernel
theorem dX12_aRow_85 : decode cX12_aRow 85 = .ok (.getfield 7, 3) := by decide +kernel
theorem dX12_aRow_88 : decode cX12_aRow 88 = .ok (.sipush 1808, 3) := by decide +kernel
theorem dX12_aRow_91 : decode cX12_aRow 91 = .ok (.aload_n 0, 1) := by decide +kernel
theorem dX12_aRow_92 : decode cX12_aRow 92 = .ok (.getfield 7, 3) := by decide +kernel
theorem dX12_aRow_95 : decode cX12_aRow 95 = .ok (.sipush 1760, 3) := by decide +kernel
theorem dX12_aRow_98 : decode cX12_aRow 98 = .ok (.iaload, 1) := by decide +kernel
theorem dX12_aRow_99 : decode cX12_aRow 99 = .ok (.aload_n 0, 1) := by decide +kernel
theorem dX12_aRow_100 : decode cX12_aRow 100 = .ok (.getfield 191, 3) := by decide +kernel
theorem dX12_aRow_103 : decode cX12_aRow 103 = .ok (.imul, 1) := by decide +kernel
theorem dX12_aRow_104 : decode cX12_aRow 104 = .ok (.iadd, 1) := by decide +kernel
theorem dX12_aRow_105 : decode cX12_aRow 105 = .ok (.iload_n 1, 1) := by decide +kernel
theorem dX12_aRow_106 : decode cX12_aRow 106 = .ok (.iadd, 1) := by decide +kernel
theorem dX12_aRow_107 : decode cX12_aRow 107 = .ok (.aload_n 0, 1) := by decide +kernel
theorem dX12_aRow_108 : decode cX12_aRow 108 = .ok (.getfield 134, 3) := by decide +kernel
theorem dX12_aRow_111 : decode cX12_aRow 111 = .ok (.iastore, 1) := by decide +kernel
theorem dX12_aRow_112 : decode cX12_aRow 112 = .ok (.iinc 1 1, 3) := by decide +kernel
theorem dX12_aRow_115 : decode cX12_aRow 115 = .ok (.aload_n 0, 1) := by decide +kernel
theorem dX12_aRow_116 : decode cX12_aRow 116 = .ok (.invokevirtual 168, 3) := by decide +kernel
theorem dX12_aRow_119 : decode cX12_aRow 119 = .ok (.goto (-77), 3) := by decide +kernel
theorem dX12_aRow_122 : decode cX12_aRow 122 = .ok (.aload_n 0, 1) := by decide +kernel
theorem dX12_aRow_123 : decode cX12_aRow 123 = .ok (.bipush 59, 2) := by decide +kernel
theorem dX12_aRow_125 : decode cX12_aRow 125 = .ok (.invokevirtual 171, 3) := by decide +kernel
theorem dX12_aRow_128 : decode cX12_aRow 128 = .ok (.ifCond .eq 22, 3) := by decide +kernel
theorem dX12_aRow_131 : decode cX12_aRow 131 = .ok (.iload_n 1, 1) := by decide +kernel
theorem dX12_aRow_132 : decode cX12_aRow 132 = .ok (.aload_n 0, 1) := by decide +kernel
theorem dX12_aRow_133 : decode cX12_aRow 133 = .ok (.getfield 7, 3) := by decide +kernel
theorem dX12_aRow_136 : decode cX12_aRow 136 = .ok (.sipush 1760, 3) := by decide +kernel
theorem dX12_aRow_139 : decode cX12_aRow 139 = .ok (.iaload, 1) := by decide +kernel
theorem dX12_aRow_140 : decode cX12_aRow 140 = .ok (.if_icmp .ge 10, 3) := by decide +kernel
theorem dX12_aRow_143 : decode cX12_aRow 143 = .ok (.aload_n 0, 1) := by decide +kernel
theorem dX12_aRow_144 : decode cX12_aRow 144 = .ok (.bipush 7, 2) := by decide +kernel
theorem dX12_aRow_146 : decode cX12_aRow 146 = .ok (.invokevirtual 174, 3) := by decide +kernel
theorem dX12_aRow_149 : decode cX12_aRow 149 = .ok (.ireturn, 1) := by decide +kernel
theorem dX12_aRow_150 : decode cX12_aRow 150 = .ok (.aload_n 0, 1) := by decide +kernel
theorem dX12_aRow_151 : decode cX12_aRow 151 = .ok (.dup, 1) := by decide +kernel
theorem dX12_aRow_152 : decode cX12_aRow 152 = .ok (.getfield 191, 3) := by decide +kernel
theorem dX12_aRow_155 : decode cX12_aRow 155 = .ok (.iconst 1, 1) := by decide +kernel
theorem dX12_aRow_156 : decode cX12_aRow 156 = .ok (.iadd, 1) := by decide +kernel
theorem dX12_aRow_157 : decode cX12_aRow 157 = .ok (.putfield 191, 3) := by decide +kernel
theorem dX12_aRow_160 : decode cX12_aRow 160 = .ok (.iconst 1, 1) := by decide +kernel
theorem dX12_aRow_161 : decode cX12_aRow 161 = .ok (.ireturn, 1) := by decide +kernel
theorem dX12_aBar_0 : decode cX12_aBar 0 = .ok (.aload_n 0, 1) := by decide +kernel
theorem dX12_aBar_1 : decode cX12_aBar 1 = .ok (.getfield 7, 3) := by decide +kernel
theorem dX12_aBar_4 : decode cX12_aBar 4 = .ok (.sipush 1762, 3) := by decide +kernel
theorem dX12_aBar_7 : decode cX12_aBar 7 = .ok (.iaload, 1) := by decide +kernel
theorem dX12_aBar_8 : decode cX12_aBar 8 = .ok (.istore_n 1, 1) := by decide +kernel
theorem dX12_aBar_9 : decode cX12_aBar 9 = .ok (.sipush 1788, 3) := by decide +kernel
theorem dX12_aBar_12 : decode cX12_aBar 12 = .ok (.iconst 4, 1) := by decide +kernel
theorem dX12_aBar_13 : decode cX12_aBar 13 = .ok (.iload_n 1, 1) := by decide +kernel
theorem dX12_aBar_14 : decode cX12_aBar 14 = .ok (.imul, 1) := by decide +kernel
theorem dX12_aBar_15 : decode cX12_aBar 15 = .ok (.iadd, 1) := by decide +kernel
theorem dX12_aBar_16 : decode cX12_aBar 16 = .ok (.istore_n 2, 1) := by decide +kernel
theorem dX12_aBar_17 : decode cX12_aBar 17 = .ok (.iload_n 1, 1) := by decide +kernel
theorem dX12_aBar_18 : decode cX12_aBar 18 = .ok (.iconst 5, 1) := by decide +kernel
theorem dX12_aBar_19 : decode cX12_aBar 19 = .ok (.if_icmp .ne 10, 3) := by decide +kernel
theorem dX12_aBar_22 : decode cX12_aBar 22 = .ok (.aload_n 0, 1) := by decide +kernel
theorem dX12_aBar_23 : decode cX12_aBar 23 = .ok (.bipush 6, 2) := by decide +kernel
theorem dX12_aBar_25 : decode cX12_aBar 25 = .ok (.invokevirtual 174, 3) := by decide +kernel
theorem dX12_aBar_28 : decode cX12_aBar 28 = .ok (.ireturn, 1) := by decide +kernel
theorem dX12_aBar_29 : decode cX12_aBar 29 = .ok (.aload_n 0, 1) := by decide +kernel
theorem dX12_aBar_30 : decode cX12_aBar 30 = .ok (.invokevirtual 168, 3) := by decide +kernel
theorem dX12_aBar_33 : decode cX12_aBar 33 = .ok (.aload_n 0, 1) := by decide +kernel
theorem dX12_aBar_34 : decode cX12_aBar 34 = .ok (.ldc 194, 2) := by decide +kernel
theorem dX12_aBar_36 : decode cX12_aBar 36 = .ok (.invokevirtual 196, 3) := by decide +kernel
theorem dX12_aBar_39 : decode cX12_aBar 39 = .ok (.ifCond .ne 9, 3) := by decide +kernel
theorem dX12_aBar_42 : decode cX12_aBar 42 = .ok (.aload_n 0, 1) := by decide +kernel
theorem dX12_aBar_43 : decode cX12_aBar 43 = .ok (.iconst 2, 1) := by decide +kernel
theorem dX12_aBar_44 : decode cX12_aBar 44 = .ok (.invokevirtual 174, 3) := by decide +kernel
theorem dX12_aBar_47 : decode cX12_aBar 47 = .ok (.ireturn, 1) := by decide +kernel
theorem dX12_aBar_48 : decode cX12_aBar 48 = .ok (.aload_n 0, 1) := by decide +kernel
theorem dX12_aBar_49 : decode cX12_aBar 49 = .ok (.bipush 20, 2) := by decide +kernel
theorem dX12_aBar_51 : decode cX12_aBar 51 = .ok (.iload_n 1, 1) := by decide +kernel
theorem dX12_aBar_52 : decode cX12_aBar 52 = .ok (.invokevirtual 200, 3) := by decide +kernel
theorem dX12_aBar_55 : decode cX12_aBar 55 = .ok (.iconst (-1), 1) := by decide +kernel
theorem dX12_aBar_56 : decode cX12_aBar 56 = .ok (.if_icmp .eq 9, 3) := by decide +kernel
theorem dX12_aBar_59 : decode cX12_aBar 59 = .ok (.aload_n 0, 1) := by decide +kernel
theorem dX12_aBar_60 : decode cX12_aBar 60 = .ok (.iconst 3, 1) := by decide +kernel
theorem dX12_aBar_61 : decode cX12_aBar 61 = .ok (.invokevirtual 174, 3) := by decide +kernel
theorem dX12_aBar_64 : decode cX12_aBar 64 = .ok (.ireturn, 1) := by decide +kernel
theorem dX12_aBar_65 : decode cX12_aBar 65 = .ok (.aload_n 0, 1) := by decide +kernel
theorem dX12_aBar_66 : decode cX12_aBar 66 = .ok (.getfield 13, 3) := by decide +kernel
theorem dX12_aBar_69 : decode cX12_aBar 69 = .ok (.bipush 20, 2) := by decide +kernel
theorem dX12_aBar_71 : decode cX12_aBar 71 = .ok (.iload_n 1, 1) := by decide +kernel
theorem dX12_aBar_72 : decode cX12_aBar 72 = .ok (.iadd, 1) := by decide +kernel
theorem dX12_aBar_73 : decode cX12_aBar 73 = .ok (.aload_n 0, 1) := by decide +kernel
theorem dX12_aBar_74 : decode cX12_aBar 74 = .ok (.invokevirtual 181, 3) := by decide +kernel
theorem dX12_aBar_77 : decode cX12_aBar 77 = .ok (.lastore, 1) := by decide +kernel
theorem dX12_aBar_78 : decode cX12_aBar 78 = .ok (.aload_n 0, 1) := by decide +kernel
theorem dX12_aBar_79 : decode cX12_aBar 79 = .ok (.invokevirtual 168, 3) := by decide +kernel
theorem dX12_aBar_82 : decode cX12_aBar 82 = .ok (.iconst 0, 1) := by decide +kernel
theorem dX12_aBar_83 : decode cX12_aBar 83 = .ok (.istore_n 3, 1) := by decide +kernel
theorem dX12_aBar_84 : decode cX12_aBar 84 = .ok (.iload_n 3, 1) := by decide +kernel
theorem dX12_aBar_85 : decode cX12_aBar 85 = .ok (.iconst 4, 1) := by decide +kernel
theorem dX12_aBar_86 : decode cX12_aBar 86 = .ok (.if_icmp .ge 53, 3) := by decide +kernel
theorem dX12_aBar_89 : decode cX12_aBar 89 = .ok (.aload_n 0, 1) := by decide +kernel
theorem dX12_aBar_90 : decode cX12_aBar 90 = .ok (.ldc 194, 2) := by decide +kernel
theorem dX12_aBar_92 : decode cX12_aBar 92 = .ok (.iconst 3, 1) := by decide +kernel
theorem dX12_aBar_93 : decode cX12_aBar 93 = .ok (.iload_n 3, 1) := by decide +kernel
theorem dX12_aBar_94 : decode cX12_aBar 94 = .ok (.iadd, 1) := by decide +kernel
theorem dX12_aBar_95 : decode cX12_aBar 95 = .ok (.invokevirtual 203, 3) := by decide +kernel
theorem dX12_aBar_98 : decode cX12_aBar 98 = .ok (.ifCond .eq 33, 3) := by decide +kernel
theorem dX12_aBar_101 : decode cX12_aBar 101 = .ok (.aload_n 0, 1) := by decide +kernel
theorem dX12_aBar_102 : decode cX12_aBar 102 = .ok (.iload_n 2, 1) := by decide +kernel
theorem dX12_aBar_103 : decode cX12_aBar 103 = .ok (.iload_n 3, 1) := by decide +kernel
theorem dX12_aBar_104 : decode cX12_aBar 104 = .ok (.iadd, 1) := by decide +kernel
theorem dX12_aBar_105 : decode cX12_aBar 105 = .ok (.iload_n 3, 1) := by decide +kernel
theorem dX12_aBar_106 : decode cX12_aBar 106 = .ok (.ifCond .ne 7, 3) := by decide +kernel
theorem dX12_aBar_109 : decode cX12_aBar 109 = .ok (.iconst 1, 1) := by decide +kernel
theorem dX12_aBar_110 : decode cX12_aBar 110 = .ok (.goto 4, 3) := by decide +kernel
theorem dX12_aBar_113 : decode cX12_aBar 113 = .ok (.iconst 0, 1) := by decide +kernel
theorem dX12_aBar_114 : decode cX12_aBar 114 = .ok (.iload_n 3, 1) := by decide +kernel
theorem dX12_aBar_115 : decode cX12_aBar 115 = .ok (.ifCond .ne 8, 3) := by decide +kernel
theorem dX12_aBar_118 : decode cX12_aBar 118 = .ok (.bipush 9, 2) := by decide +kernel
theorem dX12_aBar_120 : decode cX12_aBar 120 = .ok (.goto 5, 3) := by decide +kernel
theorem dX12_aBar_123 : decode cX12_aBar 123 = .ok (.bipush 16, 2) := by decide +kernel
theorem dX12_aBar_125 : decode cX12_aBar 125 = .ok (.invokevirtual 207, 3) := by decide +kernel
theorem dX12_aBar_128 : decode cX12_aBar 128 = .ok (.ifCond .ne 5, 3) := by decide +kernel
theorem dX12_aBar_131 : decode cX12_aBar 131 = .ok (.iconst 0, 1) := by decide +kernel
theorem dX12_aBar_132 : decode cX12_aBar 132 = .ok (.ireturn, 1) := by decide +kernel
theorem dX12_aBar_133 : decode cX12_aBar 133 = .ok (.iinc 3 1, 3) := by decide +kernel
theorem dX12_aBar_136 : decode cX12_aBar 136 = .ok (.goto (-52), 3) := by decide +kernel
theorem dX12_aBar_139 : decode cX12_aBar 139 = .ok (.aload_n 0, 1) := by decide +kernel
theorem dX12_aBar_140 : decode cX12_aBar 140 = .ok (.getfield 7, 3) := by decide +kernel
theorem dX12_aBar_143 : decode cX12_aBar 143 = .ok (.sipush 1762, 3) := by decide +kernel
theorem dX12_aBar_146 : decode cX12_aBar 146 = .ok (.dup2, 1) := by decide +kernel
theorem dX12_aBar_147 : decode cX12_aBar 147 = .ok (.iaload, 1) := by decide +kernel
theorem dX12_aBar_148 : decode cX12_aBar 148 = .ok (.iconst 1, 1) := by decide +kernel
theorem dX12_aBar_149 : decode cX12_aBar 149 = .ok (.iadd, 1) := by decide +kernel
theorem dX12_aBar_150 : decode cX12_aBar 150 = .ok (.iastore, 1) := by decide +kernel
theorem dX12_aBar_151 : decode cX12_aBar 151 = .ok (.iconst 1, 1) := by decide +kernel
theorem dX12_aBar_152 : decode cX12_aBar 152 = .ok (.ireturn, 1) := by decide +kernel
theorem dX12_someCells_0 : decode cX12_someCells 0 = .ok (.aload_n 0, 1) := by decide +kernel
theorem dX12_someCells_1 : decode cX12_someCells 1 = .ok (.invokevirtual 168, 3) := by decide +kernel
theorem dX12_someCells_4 : decode cX12_someCells 4 = .ok (.aload_n 0, 1) := by decide +kernel
theorem dX12_someCells_5 : decode cX12_someCells 5 = .ok (.ldc 194, 2) := by decide +kernel
theorem dX12_someCells_7 : decode cX12_someCells 7 = .ok (.invokevirtual 196, 3) := by decide +kernel
theorem dX12_someCells_10 : decode cX12_someCells 10 = .ok (.ifCond .ne 9, 3) := by decide +kernel
theorem dX12_someCells_13 : decode cX12_someCells 13 = .ok (.aload_n 0, 1) := by decide +kernel
theorem dX12_someCells_14 : decode cX12_someCells 14 = .ok (.iconst 2, 1) := by decide +kernel
theorem dX12_someCells_15 : decode cX12_someCells 15 = .ok (.invokevirtual 174, 3) := by decide +kernel
theorem dX12_someCells_18 : decode cX12_someCells 18 = .ok (.ireturn, 1) := by decide +kernel
theorem dX12_someCells_19 : decode cX12_someCells 19 = .ok (.aload_n 0, 1) := by decide +kernel
theorem dX12_someCells_20 : decode cX12_someCells 20 = .ok (.bipush 20, 2) := by decide +kernel
theorem dX12_someCells_22 : decode cX12_someCells 22 = .ok (.aload_n 0, 1) := by decide +kernel
theorem dX12_someCells_23 : decode cX12_someCells 23 = .ok (.getfield 7, 3) := by decide +kernel
theorem dX12_someCells_26 : decode cX12_someCells 26 = .ok (.sipush 1762, 3) := by decide +kernel
theorem dX12_someCells_29 : decode cX12_someCells 29 = .ok (.iaload, 1) := by decide +kernel
theorem dX12_someCells_30 : decode cX12_someCells 30 = .ok (.invokevirtual 200, 3) := by decide +kernel
theorem dX12_someCells_33 : decode cX12_someCells 33 = .ok (.istore_n 1, 1) := by decide +kernel
theorem dX12_someCells_34 : decode cX12_someCells 34 = .ok (.iload_n 1, 1) := by decide +kernel
theorem dX12_someCells_35 : decode cX12_someCells 35 = .ok (.iconst (-1), 1) := by decide +kernel
theorem dX12_someCells_36 : decode cX12_someCells 36 = .ok (.if_icmp .ne 9, 3) := by decide +kernel
theorem dX12_someCells_39 : decode cX12_someCells 39 = .ok (.aload_n 0, 1) := by decide +kernel
theorem dX12_someCells_40 : decode cX12_someCells 40 = .ok (.iconst 3, 1) := by decide +kernel
theorem dX12_someCells_41 : decode cX12_someCells 41 = .ok (.invokevirtual 174, 3) := by decide +kernel
theorem dX12_someCells_44 : decode cX12_someCells 44 = .ok (.ireturn, 1) := by decide +kernel
theorem dX12_someCells_45 : decode cX12_someCells 45 = .ok (.aload_n 0, 1) := by decide +kernel
theorem dX12_someCells_46 : decode cX12_someCells 46 = .ok (.invokevirtual 168, 3) := by decide +kernel
theorem dX12_someCells_49 : decode cX12_someCells 49 = .ok (.iconst 0, 1) := by decide +kernel
theorem dX12_someCells_50 : decode cX12_someCells 50 = .ok (.istore_n 2, 1) := by decide +kernel
theorem dX12_someCells_51 : decode cX12_someCells 51 = .ok (.iload_n 2, 1) := by decide +kernel
theorem dX12_someCells_52 : decode cX12_someCells 52 = .ok (.iconst 4, 1) := by decide +kernel
theorem dX12_someCells_53 : decode cX12_someCells 53 = .ok (.if_icmp .ge 109, 3) := by decide +kernel
theorem dX12_someCells_56 : decode cX12_someCells 56 = .ok (.iload_n 2, 1) := by decide +kernel
theorem dX12_someCells_57 : decode cX12_someCells 57 = .ok (.iconst 2, 1) := by decide +kernel
theorem dX12_someCells_58 : decode cX12_someCells 58 = .ok (.if_icmp .ne 16, 3) := by decide +kernel
theorem dX12_someCells_61 : decode cX12_someCells 61 = .ok (.aload_n 0, 1) := by decide +kernel
theorem dX12_someCells_62 : decode cX12_someCells 62 = .ok (.ldc 194, 2) := by decide +kernel
theorem dX12_someCells_64 : decode cX12_someCells 64 = .ok (.bipush 8, 2) := by decide +kernel
theorem dX12_someCells_66 : decode cX12_someCells 66 = .ok (.invokevirtual 203, 3) := by decide +kernel
theorem dX12_someCells_69 : decode cX12_someCells 69 = .ok (.ifCond .ne 5, 3) := by decide +kernel
theorem dX12_someCells_72 : decode cX12_someCells 72 = .ok (.iconst 0, 1) := by decide +kernel
theorem dX12_someCells_73 : decode cX12_someCells 73 = .ok (.ireturn, 1) := by decide +kernel
theorem dX12_someCells_74 : decode cX12_someCells 74 = .ok (.aload_n 0, 1) := by decide +kernel
theorem dX12_someCells_75 : decode cX12_someCells 75 = .ok (.getfield 137, 3) := by decide +kernel
theorem dX12_someCells_78 : decode cX12_someCells 78 = .ok (.iconst 3, 1) := by decide +kernel
theorem dX12_someCells_79 : decode cX12_someCells 79 = .ok (.if_icmp .eq 9, 3) := by decide +kernel
theorem dX12_someCells_82 : decode cX12_someCells 82 = .ok (.aload_n 0, 1) := by decide +kernel
theorem dX12_someCells_83 : decode cX12_someCells 83 = .ok (.iconst 2, 1) := by decide +kernel
theorem dX12_someCells_84 : decode cX12_someCells 84 = .ok (.invokevirtual 174, 3) := by decide +kernel
theorem dX12_someCells_87 : decode cX12_someCells 87 = .ok (.ireturn, 1) := by decide +kernel
theorem dX12_someCells_88 : decode cX12_someCells 88 = .ok (.aload_n 0, 1) := by decide +kernel
theorem dX12_someCells_89 : decode cX12_someCells 89 = .ok (.getfield 134, 3) := by decide +kernel
theorem dX12_someCells_92 : decode cX12_someCells 92 = .ok (.iload_n 2, 1) := by decide +kernel
theorem dX12_someCells_93 : decode cX12_someCells 93 = .ok (.iconst 2, 1) := by decide +kernel
theorem dX12_someCells_94 : decode cX12_someCells 94 = .ok (.if_icmp .ge 7, 3) := by decide +kernel
theorem dX12_someCells_97 : decode cX12_someCells 97 = .ok (.iconst 0, 1) := by decide +kernel
theorem dX12_someCells_98 : decode cX12_someCells 98 = .ok (.goto 11, 3) := by decide +kernel
theorem dX12_someCells_101 : decode cX12_someCells 101 = .ok (.aload_n 0, 1) := by decide +kernel
theorem dX12_someCells_102 : decode cX12_someCells 102 = .ok (.getfield 44, 3) := by decide +kernel
theorem dX12_someCells_105 : decode cX12_someCells 105 = .ok (.iload_n 2, 1) := by decide +kernel
theorem dX12_someCells_106 : decode cX12_someCells 106 = .ok (.iconst 2, 1) := by decide +kernel
theorem dX12_someCells_107 : decode cX12_someCells 107 = .ok (.isub, 1) := by decide +kernel
theorem dX12_someCells_108 : decode cX12_someCells 108 = .ok (.iaload, 1) := by decide +kernel
theorem dX12_someCells_109 : decode cX12_someCells 109 = .ok (.if_icmp .lt 22, 3) := by decide +kernel
theorem dX12_someCells_112 : decode cX12_someCells 112 = .ok (.aload_n 0, 1) := by decide +kernel
theorem dX12_someCells_113 : decode cX12_someCells 113 = .ok (.getfield 134, 3) := by decide +kernel
theorem dX12_someCells_116 : decode cX12_someCells 116 = .ok (.aload_n 0, 1) := by decide +kernel
theorem dX12_someCells_117 : decode cX12_someCells 117 = .ok (.getfield 7, 3) := by decide +kernel
theorem dX12_someCells_120 : decode cX12_someCells 120 = .ok (.sipush 1760, 3) := by decide +kernel
theorem dX12_someCells_123 : decode cX12_someCells 123 = .ok (.iload_n 2, 1) := by decide +kernel
theorem dX12_someCells_124 : decode cX12_someCells 124 = .ok (.iconst 2, 1) := by decide +kernel
theorem dX12_someCells_125 : decode cX12_someCells 125 = .ok (.irem, 1) := by decide +kernel
theorem dX12_someCells_126 : decode cX12_someCells 126 = .ok (.iadd, 1) := by decide +kernel
theorem dX12_someCells_127 : decode cX12_someCells 127 = .ok (.iaload, 1) := by decide +kernel
theorem dX12_someCells_128 : decode cX12_someCells 128 = .ok (.if_icmp .lt 9, 3) := by decide +kernel
theorem dX12_someCells_131 : decode cX12_someCells 131 = .ok (.aload_n 0, 1) := by decide +kernel
theorem dX12_someCells_132 : decode cX12_someCells 132 = .ok (.iconst 4, 1) := by decide +kernel
theorem dX12_someCells_133 : decode cX12_someCells 133 = .ok (.invokevirtual 174, 3) := by decide +kernel
theorem dX12_someCells_136 : decode cX12_someCells 136 = .ok (.ireturn, 1) := by decide +kernel
theorem dX12_someCells_137 : decode cX12_someCells 137 = .ok (.aload_n 0, 1) := by decide +kernel
theorem dX12_someCells_138 : decode cX12_someCells 138 = .ok (.getfield 44, 3) := by decide +kernel
theorem dX12_someCells_141 : decode cX12_someCells 141 = .ok (.iload_n 2, 1) := by decide +kernel
theorem dX12_someCells_142 : decode cX12_someCells 142 = .ok (.aload_n 0, 1) := by decide +kernel
theorem dX12_someCells_143 : decode cX12_someCells 143 = .ok (.getfield 134, 3) := by decide +kernel
theorem dX12_someCells_146 : decode cX12_someCells 146 = .ok (.iastore, 1) := by decide +kernel
theorem dX12_someCells_147 : decode cX12_someCells 147 = .ok (.iload_n 2, 1) := by decide +kernel
theorem dX12_someCells_148 : decode cX12_someCells 148 = .ok (.iconst 3, 1) := by decide +kernel
theorem dX12_someCells_149 : decode cX12_someCells 149 = .ok (.if_icmp .ge 7, 3) := by decide +kernel
theorem dX12_someCells_152 : decode cX12_someCells 152 = .ok (.aload_n 0, 1) := by decide +kernel
theorem dX12_someCells_153 : decode cX12_someCells 153 = .ok (.invokevirtual 168, 3) := by decide +kernel
theorem dX12_someCells_156 : decode cX12_someCells 156 = .ok (.iinc 2 1, 3) := by decide +kernel
theorem dX12_someCells_159 : decode cX12_someCells 159 = .ok (.goto (-108), 3) := by decide +kernel
theorem dX12_someCells_162 : decode cX12_someCells 162 = .ok (.iconst 0, 1) := by decide +kernel
theorem dX12_someCells_163 : decode cX12_someCells 163 = .ok (.istore_n 2, 1) := by decide +kernel
theorem dX12_someCells_164 : decode cX12_someCells 164 = .ok (.iload_n 2, 1) := by decide +kernel
theorem dX12_someCells_165 : decode cX12_someCells 165 = .ok (.iconst 2, 1) := by decide +kernel
theorem dX12_someCells_166 : decode cX12_someCells 166 = .ok (.if_icmp .ge 117, 3) := by decide +kernel
theorem dX12_someCells_169 : decode cX12_someCells 169 = .ok (.aload_n 0, 1) := by decide +kernel
theorem dX12_someCells_170 : decode cX12_someCells 170 = .ok (.getfield 44, 3) := by decide +kernel
theorem dX12_someCells_173 : decode cX12_someCells 173 = .ok (.iconst 1, 1) := by decide +kernel
theorem dX12_someCells_174 : decode cX12_someCells 174 = .ok (.iaload, 1) := by decide +kernel
theorem dX12_someCells_175 : decode cX12_someCells 175 = .ok (.istore_n 3, 1) := by decide +kernel
theorem dX12_someCells_176 : decode cX12_someCells 176 = .ok (.iload_n 3, 1) := by decide +kernel
theorem dX12_someCells_177 : decode cX12_someCells 177 = .ok (.aload_n 0, 1) := by decide +kernel
theorem dX12_someCells_178 : decode cX12_someCells 178 = .ok (.getfield 44, 3) := by decide +kernel
theorem dX12_someCells_181 : decode cX12_someCells 181 = .ok (.iconst 3, 1) := by decide +kernel
theorem dX12_someCells_182 : decode cX12_someCells 182 = .ok (.iaload, 1) := by decide +kernel
theorem dX12_someCells_183 : decode cX12_someCells 183 = .ok (.if_icmp .gt 94, 3) := by decide +kernel
theorem dX12_someCells_186 : decode cX12_someCells 186 = .ok (.aload_n 0, 1) := by decide +kernel
theorem dX12_someCells_187 : decode cX12_someCells 187 = .ok (.getfield 44, 3) := by decide +kernel
theorem dX12_someCells_190 : decode cX12_someCells 190 = .ok (.iconst 0, 1) := by decide +kernel
theorem dX12_someCells_191 : decode cX12_someCells 191 = .ok (.iaload, 1) := by decide +kernel
theorem dX12_someCells_192 : decode cX12_someCells 192 = .ok (.istore 4, 2) := by decide +kernel
theorem dX12_someCells_194 : decode cX12_someCells 194 = .ok (.iload 4, 2) := by decide +kernel
theorem dX12_someCells_196 : decode cX12_someCells 196 = .ok (.aload_n 0, 1) := by decide +kernel
theorem dX12_someCells_197 : decode cX12_someCells 197 = .ok (.getfield 44, 3) := by decide +kernel
theorem dX12_someCells_200 : decode cX12_someCells 200 = .ok (.iconst 2, 1) := by decide +kernel
theorem dX12_someCells_201 : decode cX12_someCells 201 = .ok (.iaload, 1) := by decide +kernel
theorem dX12_someCells_202 : decode cX12_someCells 202 = .ok (.if_icmp .gt 69, 3) := by decide +kernel
theorem dX12_someCells_205 : decode cX12_someCells 205 = .ok (.sipush 1868, 3) := by decide +kernel
theorem dX12_someCells_208 : decode cX12_someCells 208 = .ok (.aload_n 0, 1) := by decide +kernel
theorem dX12_someCells_209 : decode cX12_someCells 209 = .ok (.getfield 7, 3) := by decide +kernel
theorem dX12_someCells_212 : decode cX12_someCells 212 = .ok (.sipush 1760, 3) := by decide +kernel
theorem dX12_someCells_215 : decode cX12_someCells 215 = .ok (.iaload, 1) := by decide +kernel
theorem dX12_someCells_216 : decode cX12_someCells 216 = .ok (.iload_n 3, 1) := by decide +kernel
theorem dX12_someCells_217 : decode cX12_someCells 217 = .ok (.imul, 1) := by decide +kernel
theorem dX12_someCells_218 : decode cX12_someCells 218 = .ok (.iadd, 1) := by decide +kernel
theorem dX12_someCells_219 : decode cX12_someCells 219 = .ok (.iload 4, 2) := by decide +kernel
theorem dX12_someCells_221 : decode cX12_someCells 221 = .ok (.iadd, 1) := by decide +kernel
theorem dX12_someCells_222 : decode cX12_someCells 222 = .ok (.istore 5, 2) := by decide +kernel
theorem dX12_someCells_224 : decode cX12_someCells 224 = .ok (.iload_n 2, 1) := by decide +kernel
theorem dX12_someCells_225 : decode cX12_someCells 225 = .ok (.ifCond .ne 20, 3) := by decide +kernel
theorem dX12_someCells_228 : decode cX12_someCells 228 = .ok (.aload_n 0, 1) := by decide +kernel
theorem dX12_someCells_229 : decode cX12_someCells 229 = .ok (.getfield 7, 3) := by decide +kernel
theorem dX12_someCells_232 : decode cX12_someCells 232 = .ok (.iload 5, 2) := by decide +kernel
theorem dX12_someCells_234 : decode cX12_someCells 234 = .ok (.iaload, 1) := by decide +kernel
theorem dX12_someCells_235 : decode cX12_someCells 235 = .ok (.iconst (-1), 1) := by decide +kernel
theorem dX12_someCells_236 : decode cX12_someCells 236 = .ok (.if_icmp .eq 9, 3) := by decide +kernel
theorem dX12_someCells_239 : decode cX12_someCells 239 = .ok (.aload_n 0, 1) := by decide +kernel
theorem dX12_someCells_240 : decode cX12_someCells 240 = .ok (.iconst 5, 1) := by decide +kernel
theorem dX12_someCells_241 : decode cX12_someCells 241 = .ok (.invokevirtual 174, 3) := by decide +kernel
theorem dX12_someCells_244 : decode cX12_someCells 244 = .ok (.ireturn, 1) := by decide +kernel
theorem dX12_someCells_245 : decode cX12_someCells 245 = .ok (.aload_n 0, 1) := by decide +kernel
theorem dX12_someCells_246 : decode cX12_someCells 246 = .ok (.getfield 7, 3) := by decide +kernel
theorem dX12_someCells_249 : decode cX12_someCells 249 = .ok (.iload 5, 2) := by decide +kernel
theorem dX12_someCells_251 : decode cX12_someCells 251 = .ok (.iload_n 1, 1) := by decide +kernel
theorem dX12_someCells_252 : decode cX12_someCells 252 = .ok (.iastore, 1) := by decide +kernel
theorem dX12_someCells_253 : decode cX12_someCells 253 = .ok (.iload_n 2, 1) := by decide +kernel
theorem dX12_someCells_254 : decode cX12_someCells 254 = .ok (.ifCond .ne 11, 3) := by decide +kernel
theorem dX12_someCells_257 : decode cX12_someCells 257 = .ok (.aload_n 0, 1) := by decide +kernel
theorem dX12_someCells_258 : decode cX12_someCells 258 = .ok (.getfield 7, 3) := by decide +kernel
theorem dX12_someCells_261 : decode cX12_someCells 261 = .ok (.iload 5, 2) := by decide +kernel
theorem dX12_someCells_263 : decode cX12_someCells 263 = .ok (.iconst (-1), 1) := by decide +kernel
theorem dX12_someCells_264 : decode cX12_someCells 264 = .ok (.iastore, 1) := by decide +kernel
theorem dX12_someCells_265 : decode cX12_someCells 265 = .ok (.iinc 4 1, 3) := by decide +kernel
theorem dX12_someCells_268 : decode cX12_someCells 268 = .ok (.goto (-74), 3) := by decide +kernel
theorem dX12_someCells_271 : decode cX12_someCells 271 = .ok (.iinc 3 1, 3) := by decide +kernel
theorem dX12_someCells_274 : decode cX12_someCells 274 = .ok (.goto (-98), 3) := by decide +kernel
theorem dX12_someCells_277 : decode cX12_someCells 277 = .ok (.iinc 2 1, 3) := by decide +kernel
theorem dX12_someCells_280 : decode cX12_someCells 280 = .ok (.goto (-116), 3) := by decide +kernel
theorem dX12_someCells_283 : decode cX12_someCells 283 = .ok (.aload_n 0, 1) := by decide +kernel
theorem dX12_someCells_284 : decode cX12_someCells 284 = .ok (.invokevirtual 168, 3) := by decide +kernel
theorem dX12_someCells_287 : decode cX12_someCells 287 = .ok (.iconst 1, 1) := by decide +kernel
theorem dX12_someCells_288 : decode cX12_someCells 288 = .ok (.ireturn, 1) := by decide +kernel
theorem dX12_someStages_0 : decode cX12_someStages 0 = .ok (.aload_n 0, 1) := by decide +kernel
theorem dX12_someStages_1 : decode cX12_someStages 1 = .ok (.invokevirtual 168, 3) := by decide +kernel
theorem dX12_someStages_4 : decode cX12_someStages 4 = .ok (.iconst 0, 1) := by decide +kernel
theorem dX12_someStages_5 : decode cX12_someStages 5 = .ok (.istore_n 1, 1) := by decide +kernel
theorem dX12_someStages_6 : decode cX12_someStages 6 = .ok (.aload_n 0, 1) := by decide +kernel
theorem dX12_someStages_7 : decode cX12_someStages 7 = .ok (.getfield 137, 3) := by decide +kernel
theorem dX12_someStages_10 : decode cX12_someStages 10 = .ok (.iconst 3, 1) := by decide +kernel
theorem dX12_someStages_11 : decode cX12_someStages 11 = .ok (.if_icmp .eq 14, 3) := by decide +kernel
theorem dX12_someStages_14 : decode cX12_someStages 14 = .ok (.aload_n 0, 1) := by decide +kernel
theorem dX12_someStages_15 : decode cX12_someStages 15 = .ok (.ldc 194, 2) := by decide +kernel
theorem dX12_someStages_17 : decode cX12_someStages 17 = .ok (.invokevirtual 177, 3) := by decide +kernel
theorem dX12_someStages_20 : decode cX12_someStages 20 = .ok (.bipush 10, 2) := by decide +kernel
theorem dX12_someStages_22 : decode cX12_someStages 22 = .ok (.if_icmp .ne 7, 3) := by decide +kernel
theorem dX12_someStages_25 : decode cX12_someStages 25 = .ok (.iconst 1, 1) := by decide +kernel
theorem dX12_someStages_26 : decode cX12_someStages 26 = .ok (.goto 4, 3) := by decide +kernel
theorem dX12_someStages_29 : decode cX12_someStages 29 = .ok (.iconst 0, 1) := by decide +kernel
theorem dX12_someStages_30 : decode cX12_someStages 30 = .ok (.istore_n 2, 1) := by decide +kernel
theorem dX12_someStages_31 : decode cX12_someStages 31 = .ok (.iload_n 2, 1) := by decide +kernel
theorem dX12_someStages_32 : decode cX12_someStages 32 = .ok (.ifCond .ne 9, 3) := by decide +kernel
theorem dX12_someStages_35 : decode cX12_someStages 35 = .ok (.aload_n 0, 1) := by decide +kernel
theorem dX12_someStages_36 : decode cX12_someStages 36 = .ok (.iconst 2, 1) := by decide +kernel
theorem dX12_someStages_37 : decode cX12_someStages 37 = .ok (.invokevirtual 174, 3) := by decide +kernel
theorem dX12_someStages_40 : decode cX12_someStages 40 = .ok (.ireturn, 1) := by decide +kernel
theorem dX12_someStages_41 : decode cX12_someStages 41 = .ok (.iload_n 2, 1) := by decide +kernel
theorem dX12_someStages_42 : decode cX12_someStages 42 = .ok (.ifCond .eq 145, 3) := by decide +kernel
theorem dX12_someStages_45 : decode cX12_someStages 45 = .ok (.aload_n 0, 1) := by decide +kernel
theorem dX12_someStages_46 : decode cX12_someStages 46 = .ok (.getfield 137, 3) := by decide +kernel
theorem dX12_someStages_49 : decode cX12_someStages 49 = .ok (.iconst 3, 1) := by decide +kernel
theorem dX12_someStages_50 : decode cX12_someStages 50 = .ok (.if_icmp .eq 7, 3) := by decide +kernel
theorem dX12_someStages_53 : decode cX12_someStages 53 = .ok (.iconst 1, 1) := by decide +kernel
theorem dX12_someStages_54 : decode cX12_someStages 54 = .ok (.goto 4, 3) := by decide +kernel
theorem dX12_someStages_57 : decode cX12_someStages 57 = .ok (.iconst 0, 1) := by decide +kernel
theorem dX12_someStages_58 : decode cX12_someStages 58 = .ok (.istore_n 3, 1) := by decide +kernel
theorem dX12_someStages_59 : decode cX12_someStages 59 = .ok (.iload_n 1, 1) := by decide +kernel
theorem dX12_someStages_60 : decode cX12_someStages 60 = .ok (.bipush 12, 2) := by decide +kernel
theorem dX12_someStages_62 : decode cX12_someStages 62 = .ok (.if_icmp .ne 14, 3) := by decide +kernel
theorem dX12_someStages_65 : decode cX12_someStages 65 = .ok (.iload_n 3, 1) := by decide +kernel
theorem dX12_someStages_66 : decode cX12_someStages 66 = .ok (.ifCond .eq 10, 3) := by decide +kernel
theorem dX12_someStages_69 : decode cX12_someStages 69 = .ok (.aload_n 0, 1) := by decide +kernel
theorem dX12_someStages_70 : decode cX12_someStages 70 = .ok (.bipush 6, 2) := by decide +kernel
theorem dX12_someStages_72 : decode cX12_someStages 72 = .ok (.invokevirtual 174, 3) := by decide +kernel
theorem dX12_someStages_75 : decode cX12_someStages 75 = .ok (.ireturn, 1) := by decide +kernel
theorem dX12_someStages_76 : decode cX12_someStages 76 = .ok (.iload_n 3, 1) := by decide +kernel
theorem dX12_someStages_77 : decode cX12_someStages 77 = .ok (.ifCond .eq 7, 3) := by decide +kernel
theorem dX12_someStages_80 : decode cX12_someStages 80 = .ok (.aload_n 0, 1) := by decide +kernel
theorem dX12_someStages_81 : decode cX12_someStages 81 = .ok (.invokevirtual 168, 3) := by decide +kernel
theorem dX12_someStages_84 : decode cX12_someStages 84 = .ok (.aload_n 0, 1) := by decide +kernel
theorem dX12_someStages_85 : decode cX12_someStages 85 = .ok (.getfield 137, 3) := by decide +kernel
theorem dX12_someStages_88 : decode cX12_someStages 88 = .ok (.iconst 3, 1) := by decide +kernel
theorem dX12_someStages_89 : decode cX12_someStages 89 = .ok (.if_icmp .eq 9, 3) := by decide +kernel
theorem dX12_someStages_92 : decode cX12_someStages 92 = .ok (.aload_n 0, 1) := by decide +kernel
theorem dX12_someStages_93 : decode cX12_someStages 93 = .ok (.iconst 2, 1) := by decide +kernel
theorem dX12_someStages_94 : decode cX12_someStages 94 = .ok (.invokevirtual 174, 3) := by decide +kernel
theorem dX12_someStages_97 : decode cX12_someStages 97 = .ok (.ireturn, 1) := by decide +kernel
theorem dX12_someStages_98 : decode cX12_someStages 98 = .ok (.aload_n 0, 1) := by decide +kernel
theorem dX12_someStages_99 : decode cX12_someStages 99 = .ok (.getfield 134, 3) := by decide +kernel
theorem dX12_someStages_102 : decode cX12_someStages 102 = .ok (.bipush 9, 2) := by decide +kernel
theorem dX12_someStages_104 : decode cX12_someStages 104 = .ok (.if_icmp .le 9, 3) := by decide +kernel
theorem dX12_someStages_107 : decode cX12_someStages 107 = .ok (.aload_n 0, 1) := by decide +kernel
theorem dX12_someStages_108 : decode cX12_someStages 108 = .ok (.iconst 4, 1) := by decide +kernel
theorem dX12_someStages_109 : decode cX12_someStages 109 = .ok (.invokevirtual 174, 3) := by decide +kernel
theorem dX12_someStages_112 : decode cX12_someStages 112 = .ok (.ireturn, 1) := by decide +kernel
theorem dX12_someStages_113 : decode cX12_someStages 113 = .ok (.iload_n 1, 1) := by decide +kernel
theorem dX12_someStages_114 : decode cX12_someStages 114 = .ok (.bipush 12, 2) := by decide +kernel
theorem dX12_someStages_116 : decode cX12_someStages 116 = .ok (.if_icmp .ne 10, 3) := by decide +kernel
theorem dX12_someStages_119 : decode cX12_someStages 119 = .ok (.aload_n 0, 1) := by decide +kernel
theorem dX12_someStages_120 : decode cX12_someStages 120 = .ok (.bipush 6, 2) := by decide +kernel
theorem dX12_someStages_122 : decode cX12_someStages 122 = .ok (.invokevirtual 174, 3) := by decide +kernel
theorem dX12_someStages_125 : decode cX12_someStages 125 = .ok (.ireturn, 1) := by decide +kernel
theorem dX12_someStages_126 : decode cX12_someStages 126 = .ok (.aload_n 0, 1) := by decide +kernel
theorem dX12_someStages_127 : decode cX12_someStages 127 = .ok (.getfield 7, 3) := by decide +kernel
theorem dX12_someStages_130 : decode cX12_someStages 130 = .ok (.sipush 1776, 3) := by decide +kernel
theorem dX12_someStages_133 : decode cX12_someStages 133 = .ok (.iload_n 1, 1) := by decide +kernel
theorem dX12_someStages_134 : decode cX12_someStages 134 = .ok (.iadd, 1) := by decide +kernel
theorem dX12_someStages_135 : decode cX12_someStages 135 = .ok (.iload_n 3, 1) := by decide +kernel
theorem dX12_someStages_136 : decode cX12_someStages 136 = .ok (.ifCond .eq 11, 3) := by decide +kernel
theorem dX12_someStages_139 : decode cX12_someStages 139 = .ok (.aload_n 0, 1) := by decide +kernel
theorem dX12_someStages_140 : decode cX12_someStages 140 = .ok (.getfield 134, 3) := by decide +kernel
theorem dX12_someStages_143 : decode cX12_someStages 143 = .ok (.ineg, 1) := by decide +kernel
theorem dX12_someStages_144 : decode cX12_someStages 144 = .ok (.goto 7, 3) := by decide +kernel
theorem dX12_someStages_147 : decode cX12_someStages 147 = .ok (.aload_n 0, 1) := by decide +kernel
theorem dX12_someStages_148 : decode cX12_someStages 148 = .ok (.getfield 134, 3) := by decide +kernel
theorem dX12_someStages_151 : decode cX12_someStages 151 = .ok (.iastore, 1) := by decide +kernel
theorem dX12_someStages_152 : decode cX12_someStages 152 = .ok (.iinc 1 1, 3) := by decide +kernel
theorem dX12_someStages_155 : decode cX12_someStages 155 = .ok (.aload_n 0, 1) := by decide +kernel
theorem dX12_someStages_156 : decode cX12_someStages 156 = .ok (.invokevirtual 168, 3) := by decide +kernel
theorem dX12_someStages_159 : decode cX12_someStages 159 = .ok (.aload_n 0, 1) := by decide +kernel
theorem dX12_someStages_160 : decode cX12_someStages 160 = .ok (.getfield 137, 3) := by decide +kernel
theorem dX12_someStages_163 : decode cX12_someStages 163 = .ok (.iconst 3, 1) := by decide +kernel
theorem dX12_someStages_164 : decode cX12_someStages 164 = .ok (.if_icmp .eq 14, 3) := by decide +kernel
theorem dX12_someStages_167 : decode cX12_someStages 167 = .ok (.aload_n 0, 1) := by decide +kernel
theorem dX12_someStages_168 : decode cX12_someStages 168 = .ok (.ldc 194, 2) := by decide +kernel
theorem dX12_someStages_170 : decode cX12_someStages 170 = .ok (.invokevirtual 177, 3) := by decide +kernel
theorem dX12_someStages_173 : decode cX12_someStages 173 = .ok (.bipush 10, 2) := by decide +kernel
theorem dX12_someStages_175 : decode cX12_someStages 175 = .ok (.if_icmp .ne 7, 3) := by decide +kernel
theorem dX12_someStages_178 : decode cX12_someStages 178 = .ok (.iconst 1, 1) := by decide +kernel
theorem dX12_someStages_179 : decode cX12_someStages 179 = .ok (.goto 4, 3) := by decide +kernel
theorem dX12_someStages_182 : decode cX12_someStages 182 = .ok (.iconst 0, 1) := by decide +kernel
theorem dX12_someStages_183 : decode cX12_someStages 183 = .ok (.istore_n 2, 1) := by decide +kernel
theorem dX12_someStages_184 : decode cX12_someStages 184 = .ok (.goto (-143), 3) := by decide +kernel
theorem dX12_someStages_187 : decode cX12_someStages 187 = .ok (.aload_n 0, 1) := by decide +kernel
theorem dX12_someStages_188 : decode cX12_someStages 188 = .ok (.getfield 7, 3) := by decide +kernel
theorem dX12_someStages_191 : decode cX12_someStages 191 = .ok (.sipush 1773, 3) := by decide +kernel
theorem dX12_someStages_194 : decode cX12_someStages 194 = .ok (.iload_n 1, 1) := by decide +kernel
theorem dX12_someStages_195 : decode cX12_someStages 195 = .ok (.iastore, 1) := by decide +kernel
theorem dX12_someStages_196 : decode cX12_someStages 196 = .ok (.iconst 1, 1) := by decide +kernel
theorem dX12_someStages_197 : decode cX12_someStages 197 = .ok (.ireturn, 1) := by decide +kernel
theorem dX12_aBoat_0 : decode cX12_aBoat 0 = .ok (.aload_n 0, 1) := by decide +kernel
theorem dX12_aBoat_1 : decode cX12_aBoat 1 = .ok (.invokevirtual 168, 3) := by decide +kernel
theorem dX12_aBoat_4 : decode cX12_aBoat 4 = .ok (.aload_n 0, 1) := by decide +kernel
theorem dX12_aBoat_5 : decode cX12_aBoat 5 = .ok (.ldc 194, 2) := by decide +kernel
theorem dX12_aBoat_7 : decode cX12_aBoat 7 = .ok (.bipush 12, 2) := by decide +kernel
theorem dX12_aBoat_9 : decode cX12_aBoat 9 = .ok (.invokevirtual 203, 3) := by decide +kernel
theorem dX12_aBoat_12 : decode cX12_aBoat 12 = .ok (.ifCond .eq 16, 3) := by decide +kernel
theorem dX12_aBoat_15 : decode cX12_aBoat 15 = .ok (.aload_n 0, 1) := by decide +kernel
theorem dX12_aBoat_16 : decode cX12_aBoat 16 = .ok (.sipush 1765, 3) := by decide +kernel
theorem dX12_aBoat_19 : decode cX12_aBoat 19 = .ok (.iconst 1, 1) := by decide +kernel
theorem dX12_aBoat_20 : decode cX12_aBoat 20 = .ok (.bipush 20, 2) := by decide +kernel
theorem dX12_aBoat_22 : decode cX12_aBoat 22 = .ok (.invokevirtual 207, 3) := by decide +kernel
theorem dX12_aBoat_25 : decode cX12_aBoat 25 = .ok (.ifCond .ne 5, 3) := by decide +kernel
theorem dX12_aBoat_28 : decode cX12_aBoat 28 = .ok (.iconst 0, 1) := by decide +kernel
theorem dX12_aBoat_29 : decode cX12_aBoat 29 = .ok (.ireturn, 1) := by decide +kernel
theorem dX12_aBoat_30 : decode cX12_aBoat 30 = .ok (.aload_n 0, 1) := by decide +kernel
theorem dX12_aBoat_31 : decode cX12_aBoat 31 = .ok (.ldc 194, 2) := by decide +kernel
theorem dX12_aBoat_33 : decode cX12_aBoat 33 = .ok (.bipush 13, 2) := by decide +kernel
theorem dX12_aBoat_35 : decode cX12_aBoat 35 = .ok (.invokevirtual 203, 3) := by decide +kernel
theorem dX12_aBoat_38 : decode cX12_aBoat 38 = .ok (.ifCond .eq 29, 3) := by decide +kernel
theorem dX12_aBoat_41 : decode cX12_aBoat 41 = .ok (.aload_n 0, 1) := by decide +kernel
theorem dX12_aBoat_42 : decode cX12_aBoat 42 = .ok (.sipush 1766, 3) := by decide +kernel
theorem dX12_aBoat_45 : decode cX12_aBoat 45 = .ok (.iconst 0, 1) := by decide +kernel
theorem dX12_aBoat_46 : decode cX12_aBoat 46 = .ok (.bipush 9, 2) := by decide +kernel
theorem dX12_aBoat_48 : decode cX12_aBoat 48 = .ok (.aload_n 0, 1) := by decide +kernel
theorem dX12_aBoat_49 : decode cX12_aBoat 49 = .ok (.getfield 7, 3) := by decide +kernel
theorem dX12_aBoat_52 : decode cX12_aBoat 52 = .ok (.sipush 1765, 3) := by decide +kernel
theorem dX12_aBoat_55 : decode cX12_aBoat 55 = .ok (.iaload, 1) := by decide +kernel
theorem dX12_aBoat_56 : decode cX12_aBoat 56 = .ok (.iconst 1, 1) := by decide +kernel
theorem dX12_aBoat_57 : decode cX12_aBoat 57 = .ok (.isub, 1) := by decide +kernel
theorem dX12_aBoat_58 : decode cX12_aBoat 58 = .ok (.invokestatic 147, 3) := by decide +kernel
theorem dX12_aBoat_61 : decode cX12_aBoat 61 = .ok (.invokevirtual 207, 3) := by decide +kernel
theorem dX12_aBoat_64 : decode cX12_aBoat 64 = .ok (.ifCond .ne 5, 3) := by decide +kernel
theorem dX12_aBoat_67 : decode cX12_aBoat 67 = .ok (.iconst 0, 1) := by decide +kernel
theorem dX12_aBoat_68 : decode cX12_aBoat 68 = .ok (.ireturn, 1) := by decide +kernel
theorem dX12_aBoat_69 : decode cX12_aBoat 69 = .ok (.aload_n 0, 1) := by decide +kernel
theorem dX12_aBoat_70 : decode cX12_aBoat 70 = .ok (.ldc 194, 2) := by decide +kernel
theorem dX12_aBoat_72 : decode cX12_aBoat 72 = .ok (.bipush 14, 2) := by decide +kernel
theorem dX12_aBoat_74 : decode cX12_aBoat 74 = .ok (.invokevirtual 203, 3) := by decide +kernel
theorem dX12_aBoat_77 : decode cX12_aBoat 77 = .ok (.ifCond .eq 40, 3) := by decide +kernel
theorem dX12_aBoat_80 : decode cX12_aBoat 80 = .ok (.aload_n 0, 1) := by decide +kernel
theorem dX12_aBoat_81 : decode cX12_aBoat 81 = .ok (.sipush 1767, 3) := by decide +kernel
theorem dX12_aBoat_84 : decode cX12_aBoat 84 = .ok (.iconst 1, 1) := by decide +kernel
theorem dX12_aBoat_85 : decode cX12_aBoat 85 = .ok (.bipush 99, 2) := by decide +kernel
theorem dX12_aBoat_87 : decode cX12_aBoat 87 = .ok (.invokevirtual 207, 3) := by decide +kernel
theorem dX12_aBoat_90 : decode cX12_aBoat 90 = .ok (.ifCond .eq 27, 3) := by decide +kernel
theorem dX12_aBoat_93 : decode cX12_aBoat 93 = .ok (.aload_n 0, 1) := by decide +kernel
theorem dX12_aBoat_94 : decode cX12_aBoat 94 = .ok (.ldc 194, 2) := by decide +kernel
theorem dX12_aBoat_96 : decode cX12_aBoat 96 = .ok (.bipush 15, 2) := by decide +kernel
theorem dX12_aBoat_98 : decode cX12_aBoat 98 = .ok (.invokevirtual 203, 3) := by decide +kernel
theorem dX12_aBoat_101 : decode cX12_aBoat 101 = .ok (.ifCond .eq 16, 3) := by decide +kernel
theorem dX12_aBoat_104 : decode cX12_aBoat 104 = .ok (.aload_n 0, 1) := by decide +kernel
theorem dX12_aBoat_105 : decode cX12_aBoat 105 = .ok (.sipush 1768, 3) := by decide +kernel
theorem dX12_aBoat_108 : decode cX12_aBoat 108 = .ok (.iconst 1, 1) := by decide +kernel
theorem dX12_aBoat_109 : decode cX12_aBoat 109 = .ok (.bipush 99, 2) := by decide +kernel
theorem dX12_aBoat_111 : decode cX12_aBoat 111 = .ok (.invokevirtual 207, 3) := by decide +kernel
theorem dX12_aBoat_114 : decode cX12_aBoat 114 = .ok (.ifCond .ne 5, 3) := by decide +kernel
theorem dX12_aBoat_117 : decode cX12_aBoat 117 = .ok (.iconst 0, 1) := by decide +kernel
theorem dX12_aBoat_118 : decode cX12_aBoat 118 = .ok (.ireturn, 1) := by decide +kernel
theorem dX12_aBoat_119 : decode cX12_aBoat 119 = .ok (.aload_n 0, 1) := by decide +kernel
theorem dX12_aBoat_120 : decode cX12_aBoat 120 = .ok (.ldc 194, 2) := by decide +kernel
theorem dX12_aBoat_122 : decode cX12_aBoat 122 = .ok (.bipush 16, 2) := by decide +kernel
theorem dX12_aBoat_124 : decode cX12_aBoat 124 = .ok (.invokevirtual 203, 3) := by decide +kernel
theorem dX12_aBoat_127 : decode cX12_aBoat 127 = .ok (.ifCond .eq 45, 3) := by decide +kernel
theorem dX12_aBoat_130 : decode cX12_aBoat 130 = .ok (.aload_n 0, 1) := by decide +kernel
theorem dX12_aBoat_131 : decode cX12_aBoat 131 = .ok (.sipush 1769, 3) := by decide +kernel
theorem dX12_aBoat_134 : decode cX12_aBoat 134 = .ok (.iconst 0, 1) := by decide +kernel
theorem dX12_aBoat_135 : decode cX12_aBoat 135 = .ok (.bipush 99, 2) := by decide +kernel
theorem dX12_aBoat_137 : decode cX12_aBoat 137 = .ok (.invokevirtual 207, 3) := by decide +kernel
theorem dX12_aBoat_140 : decode cX12_aBoat 140 = .ok (.ifCond .eq 32, 3) := by decide +kernel
theorem dX12_aBoat_143 : decode cX12_aBoat 143 = .ok (.aload_n 0, 1) := by decide +kernel
theorem dX12_aBoat_144 : decode cX12_aBoat 144 = .ok (.ldc 194, 2) := by decide +kernel
theorem dX12_aBoat_146 : decode cX12_aBoat 146 = .ok (.bipush 17, 2) := by decide +kernel
theorem dX12_aBoat_148 : decode cX12_aBoat 148 = .ok (.invokevirtual 203, 3) := by decide +kernel
theorem dX12_aBoat_151 : decode cX12_aBoat 151 = .ok (.ifCond .eq 21, 3) := by decide +kernel
theorem dX12_aBoat_154 : decode cX12_aBoat 154 = .ok (.aload_n 0, 1) := by decide +kernel
theorem dX12_aBoat_155 : decode cX12_aBoat 155 = .ok (.sipush 1770, 3) := by decide +kernel
theorem dX12_aBoat_158 : decode cX12_aBoat 158 = .ok (.iconst 0, 1) := by decide +kernel
theorem dX12_aBoat_159 : decode cX12_aBoat 159 = .ok (.sipush 999, 3) := by decide +kernel
theorem dX12_aBoat_162 : decode cX12_aBoat 162 = .ok (.invokevirtual 207, 3) := by decide +kernel
theorem dX12_aBoat_165 : decode cX12_aBoat 165 = .ok (.ifCond .eq 7, 3) := by decide +kernel
theorem dX12_aBoat_168 : decode cX12_aBoat 168 = .ok (.iconst 1, 1) := by decide +kernel
theorem dX12_aBoat_169 : decode cX12_aBoat 169 = .ok (.goto 4, 3) := by decide +kernel
theorem dX12_aBoat_172 : decode cX12_aBoat 172 = .ok (.iconst 0, 1) := by decide +kernel
theorem dX12_aBoat_173 : decode cX12_aBoat 173 = .ok (.ireturn, 1) := by decide +kernel
theorem dX12_riverPart_0 : decode cX12_riverPart 0 = .ok (.aload_n 0, 1) := by decide +kernel
theorem dX12_riverPart_1 : decode cX12_riverPart 1 = .ok (.ldc 194, 2) := by decide +kernel
theorem dX12_riverPart_3 : decode cX12_riverPart 3 = .ok (.invokevirtual 177, 3) := by decide +kernel
theorem dX12_riverPart_6 : decode cX12_riverPart 6 = .ok (.istore_n 1, 1) := by decide +kernel
theorem dX12_riverPart_7 : decode cX12_riverPart 7 = .ok (.iload_n 1, 1) := by decide +kernel
theorem dX12_riverPart_8 : decode cX12_riverPart 8 = .ok (.bipush 9, 2) := by decide +kernel
theorem dX12_riverPart_10 : decode cX12_riverPart 10 = .ok (.if_icmp .eq 21, 3) := by decide +kernel
theorem dX12_riverPart_13 : decode cX12_riverPart 13 = .ok (.iload_n 1, 1) := by decide +kernel
theorem dX12_riverPart_14 : decode cX12_riverPart 14 = .ok (.bipush 11, 2) := by decide +kernel
theorem dX12_riverPart_16 : decode cX12_riverPart 16 = .ok (.if_icmp .eq 15, 3) := by decide +kernel
theorem dX12_riverPart_19 : decode cX12_riverPart 19 = .ok (.iload_n 1, 1) := by decide +kernel
theorem dX12_riverPart_20 : decode cX12_riverPart 20 = .ok (.bipush 18, 2) := by decide +kernel
theorem dX12_riverPart_22 : decode cX12_riverPart 22 = .ok (.if_icmp .eq 9, 3) := by decide +kernel
theorem dX12_riverPart_25 : decode cX12_riverPart 25 = .ok (.iload_n 1, 1) := by decide +kernel
theorem dX12_riverPart_26 : decode cX12_riverPart 26 = .ok (.bipush 19, 2) := by decide +kernel
theorem dX12_riverPart_28 : decode cX12_riverPart 28 = .ok (.if_icmp .ne 33, 3) := by decide +kernel
theorem dX12_riverPart_31 : decode cX12_riverPart 31 = .ok (.aload_n 0, 1) := by decide +kernel
theorem dX12_riverPart_32 : decode cX12_riverPart 32 = .ok (.getfield 165, 3) := by decide +kernel
theorem dX12_riverPart_35 : decode cX12_riverPart 35 = .ok (.iload_n 1, 1) := by decide +kernel
theorem dX12_riverPart_36 : decode cX12_riverPart 36 = .ok (.ishr, 1) := by decide +kernel
theorem dX12_riverPart_37 : decode cX12_riverPart 37 = .ok (.iconst 1, 1) := by decide +kernel
theorem dX12_riverPart_38 : decode cX12_riverPart 38 = .ok (.iand, 1) := by decide +kernel
theorem dX12_riverPart_39 : decode cX12_riverPart 39 = .ok (.iconst 1, 1) := by decide +kernel
theorem dX12_riverPart_40 : decode cX12_riverPart 40 = .ok (.if_icmp .ne 9, 3) := by decide +kernel
theorem dX12_riverPart_43 : decode cX12_riverPart 43 = .ok (.aload_n 0, 1) := by decide +kernel
theorem dX12_riverPart_44 : decode cX12_riverPart 44 = .ok (.iconst 5, 1) := by decide +kernel
theorem dX12_riverPart_45 : decode cX12_riverPart 45 = .ok (.invokevirtual 174, 3) := by decide +kernel
theorem dX12_riverPart_48 : decode cX12_riverPart 48 = .ok (.ireturn, 1) := by decide +kernel
theorem dX12_riverPart_49 : decode cX12_riverPart 49 = .ok (.aload_n 0, 1) := by decide +kernel
theorem dX12_riverPart_50 : decode cX12_riverPart 50 = .ok (.dup, 1) := by decide +kernel
theorem dX12_riverPart_51 : decode cX12_riverPart 51 = .ok (.getfield 165, 3) := by decide +kernel
theorem dX12_riverPart_54 : decode cX12_riverPart 54 = .ok (.iconst 1, 1) := by decide +kernel
theorem dX12_riverPart_55 : decode cX12_riverPart 55 = .ok (.iload_n 1, 1) := by decide +kernel
theorem dX12_riverPart_56 : decode cX12_riverPart 56 = .ok (.ishl, 1) := by decide +kernel
theorem dX12_riverPart_57 : decode cX12_riverPart 57 = .ok (.ior, 1) := by decide +kernel
theorem dX12_riverPart_58 : decode cX12_riverPart 58 = .ok (.putfield 165, 3) := by decide +kernel
theorem dX12_riverPart_61 : decode cX12_riverPart 61 = .ok (.iload_n 1, 1) := by decide +kernel
theorem dX12_riverPart_62 : decode cX12_riverPart 62 = .ok (.tableswitch 162 1 19 #[90, 98, 162, 162, 162, 162, 106, 162, 114, 162, 122, 162, 162, 162, 162, 162, 162, 130, 130], 90) := by decide +kernel
theorem dX12_riverPart_152 : decode cX12_riverPart 152 = .ok (.aload_n 0, 1) := by decide +kernel
theorem dX12_riverPart_153 : decode cX12_riverPart 153 = .ok (.invokevirtual 211, 3) := by decide +kernel
theorem dX12_riverPart_156 : decode cX12_riverPart 156 = .ok (.istore_n 2, 1) := by decide +kernel
theorem dX12_riverPart_157 : decode cX12_riverPart 157 = .ok (.goto 73, 3) := by decide +kernel
theorem dX12_riverPart_160 : decode cX12_riverPart 160 = .ok (.aload_n 0, 1) := by decide +kernel
theorem dX12_riverPart_161 : decode cX12_riverPart 161 = .ok (.invokevirtual 215, 3) := by decide +kernel
theorem dX12_riverPart_164 : decode cX12_riverPart 164 = .ok (.istore_n 2, 1) := by decide +kernel
theorem dX12_riverPart_165 : decode cX12_riverPart 165 = .ok (.goto 65, 3) := by decide +kernel
theorem dX12_riverPart_168 : decode cX12_riverPart 168 = .ok (.aload_n 0, 1) := by decide +kernel
theorem dX12_riverPart_169 : decode cX12_riverPart 169 = .ok (.invokevirtual 218, 3) := by decide +kernel
theorem dX12_riverPart_172 : decode cX12_riverPart 172 = .ok (.istore_n 2, 1) := by decide +kernel
theorem dX12_riverPart_173 : decode cX12_riverPart 173 = .ok (.goto 57, 3) := by decide +kernel
theorem dX12_riverPart_176 : decode cX12_riverPart 176 = .ok (.aload_n 0, 1) := by decide +kernel
theorem dX12_riverPart_177 : decode cX12_riverPart 177 = .ok (.invokevirtual 221, 3) := by decide +kernel
theorem dX12_riverPart_180 : decode cX12_riverPart 180 = .ok (.istore_n 2, 1) := by decide +kernel
theorem dX12_riverPart_181 : decode cX12_riverPart 181 = .ok (.goto 49, 3) := by decide +kernel
theorem dX12_riverPart_184 : decode cX12_riverPart 184 = .ok (.aload_n 0, 1) := by decide +kernel
theorem dX12_riverPart_185 : decode cX12_riverPart 185 = .ok (.invokevirtual 224, 3) := by decide +kernel
theorem dX12_riverPart_188 : decode cX12_riverPart 188 = .ok (.istore_n 2, 1) := by decide +kernel
theorem dX12_riverPart_189 : decode cX12_riverPart 189 = .ok (.goto 41, 3) := by decide +kernel
theorem dX12_riverPart_192 : decode cX12_riverPart 192 = .ok (.aload_n 0, 1) := by decide +kernel
theorem dX12_riverPart_193 : decode cX12_riverPart 193 = .ok (.invokevirtual 168, 3) := by decide +kernel
theorem dX12_riverPart_196 : decode cX12_riverPart 196 = .ok (.aload_n 0, 1) := by decide +kernel
theorem dX12_riverPart_197 : decode cX12_riverPart 197 = .ok (.sipush 1760, 3) := by decide +kernel
theorem dX12_riverPart_200 : decode cX12_riverPart 200 = .ok (.iload_n 1, 1) := by decide +kernel
theorem dX12_riverPart_201 : decode cX12_riverPart 201 = .ok (.bipush 18, 2) := by decide +kernel
theorem dX12_riverPart_203 : decode cX12_riverPart 203 = .ok (.if_icmp .ne 8, 3) := by decide +kernel
theorem dX12_riverPart_206 : decode cX12_riverPart 206 = .ok (.bipush 11, 2) := by decide +kernel
theorem dX12_riverPart_208 : decode cX12_riverPart 208 = .ok (.goto 5, 3) := by decide +kernel
theorem dX12_riverPart_211 : decode cX12_riverPart 211 = .ok (.bipush 12, 2) := by decide +kernel
theorem dX12_riverPart_213 : decode cX12_riverPart 213 = .ok (.iadd, 1) := by decide +kernel
theorem dX12_riverPart_214 : decode cX12_riverPart 214 = .ok (.iconst 0, 1) := by decide +kernel
theorem dX12_riverPart_215 : decode cX12_riverPart 215 = .ok (.bipush 16, 2) := by decide +kernel
theorem dX12_riverPart_217 : decode cX12_riverPart 217 = .ok (.invokevirtual 207, 3) := by decide +kernel
theorem dX12_riverPart_220 : decode cX12_riverPart 220 = .ok (.istore_n 2, 1) := by decide +kernel
theorem dX12_riverPart_221 : decode cX12_riverPart 221 = .ok (.goto 9, 3) := by decide +kernel
theorem dX12_riverPart_224 : decode cX12_riverPart 224 = .ok (.aload_n 0, 1) := by decide +kernel
theorem dX12_riverPart_225 : decode cX12_riverPart 225 = .ok (.iconst 2, 1) := by decide +kernel
theorem dX12_riverPart_226 : decode cX12_riverPart 226 = .ok (.invokevirtual 174, 3) := by decide +kernel
theorem dX12_riverPart_229 : decode cX12_riverPart 229 = .ok (.ireturn, 1) := by decide +kernel
theorem dX12_riverPart_230 : decode cX12_riverPart 230 = .ok (.iload_n 2, 1) := by decide +kernel
theorem dX12_riverPart_231 : decode cX12_riverPart 231 = .ok (.ifCond .eq 16, 3) := by decide +kernel
theorem dX12_riverPart_234 : decode cX12_riverPart 234 = .ok (.aload_n 0, 1) := by decide +kernel
theorem dX12_riverPart_235 : decode cX12_riverPart 235 = .ok (.bipush 59, 2) := by decide +kernel
theorem dX12_riverPart_237 : decode cX12_riverPart 237 = .ok (.invokevirtual 227, 3) := by decide +kernel
theorem dX12_riverPart_240 : decode cX12_riverPart 240 = .ok (.ifCond .eq 7, 3) := by decide +kernel
theorem dX12_riverPart_243 : decode cX12_riverPart 243 = .ok (.iconst 1, 1) := by decide +kernel
theorem dX12_riverPart_244 : decode cX12_riverPart 244 = .ok (.goto 4, 3) := by decide +kernel
theorem dX12_riverPart_247 : decode cX12_riverPart 247 = .ok (.iconst 0, 1) := by decide +kernel
theorem dX12_riverPart_248 : decode cX12_riverPart 248 = .ok (.ireturn, 1) := by decide +kernel
theorem dX12_river_0 : decode cX12_river 0 = .ok (.aload_n 0, 1) := by decide +kernel
theorem dX12_river_1 : decode cX12_river 1 = .ok (.iload_n 1, 1) := by decide +kernel
theorem dX12_river_2 : decode cX12_river 2 = .ok (.sipush 900, 3) := by decide +kernel
theorem dX12_river_5 : decode cX12_river 5 = .ok (.invokevirtual 230, 3) := by decide +kernel
theorem dX12_river_8 : decode cX12_river 8 = .ok (.ifCond .ne 9, 3) := by decide +kernel
theorem dX12_river_11 : decode cX12_river 11 = .ok (.aload_n 0, 1) := by decide +kernel
theorem dX12_river_12 : decode cX12_river 12 = .ok (.iconst 1, 1) := by decide +kernel
theorem dX12_river_13 : decode cX12_river 13 = .ok (.invokevirtual 185, 3) := by decide +kernel
theorem dX12_river_16 : decode cX12_river 16 = .ok (.ireturn, 1) := by decide +kernel
theorem dX12_river_17 : decode cX12_river 17 = .ok (.aload_n 0, 1) := by decide +kernel
theorem dX12_river_18 : decode cX12_river 18 = .ok (.sipush 1760, 3) := by decide +kernel
theorem dX12_river_21 : decode cX12_river 21 = .ok (.invokevirtual 87, 3) := by decide +kernel
theorem dX12_river_24 : decode cX12_river 24 = .ok (.aload_n 0, 1) := by decide +kernel
theorem dX12_river_25 : decode cX12_river 25 = .ok (.iconst 0, 1) := by decide +kernel
theorem dX12_river_26 : decode cX12_river 26 = .ok (.putfield 191, 3) := by decide +kernel
theorem dX12_river_29 : decode cX12_river 29 = .ok (.aload_n 0, 1) := by decide +kernel
theorem dX12_river_30 : decode cX12_river 30 = .ok (.ldc 194, 2) := by decide +kernel
theorem dX12_river_32 : decode cX12_river 32 = .ok (.iconst 0, 1) := by decide +kernel
theorem dX12_river_33 : decode cX12_river 33 = .ok (.invokevirtual 203, 3) := by decide +kernel
theorem dX12_river_36 : decode cX12_river 36 = .ok (.ifCond .eq 42, 3) := by decide +kernel
theorem dX12_river_39 : decode cX12_river 39 = .ok (.aload_n 0, 1) := by decide +kernel
theorem dX12_river_40 : decode cX12_river 40 = .ok (.sipush 1760, 3) := by decide +kernel
theorem dX12_river_43 : decode cX12_river 43 = .ok (.iconst 2, 1) := by decide +kernel
theorem dX12_river_44 : decode cX12_river 44 = .ok (.bipush 10, 2) := by decide +kernel
theorem dX12_river_46 : decode cX12_river 46 = .ok (.invokevirtual 207, 3) := by decide +kernel
theorem dX12_river_49 : decode cX12_river 49 = .ok (.ifCond .eq 29, 3) := by decide +kernel
theorem dX12_river_52 : decode cX12_river 52 = .ok (.aload_n 0, 1) := by decide +kernel
theorem dX12_river_53 : decode cX12_river 53 = .ok (.sipush 1761, 3) := by decide +kernel
theorem dX12_river_56 : decode cX12_river 56 = .ok (.iconst 2, 1) := by decide +kernel
theorem dX12_river_57 : decode cX12_river 57 = .ok (.bipush 6, 2) := by decide +kernel
theorem dX12_river_59 : decode cX12_river 59 = .ok (.invokevirtual 207, 3) := by decide +kernel
theorem dX12_river_62 : decode cX12_river 62 = .ok (.ifCond .eq 16, 3) := by decide +kernel
theorem dX12_river_65 : decode cX12_river 65 = .ok (.aload_n 0, 1) := by decide +kernel
theorem dX12_river_66 : decode cX12_river 66 = .ok (.bipush 59, 2) := by decide +kernel
theorem dX12_river_68 : decode cX12_river 68 = .ok (.invokevirtual 227, 3) := by decide +kernel
theorem dX12_river_71 : decode cX12_river 71 = .ok (.ifCond .eq 7, 3) := by decide +kernel
theorem dX12_river_74 : decode cX12_river 74 = .ok (.iconst 1, 1) := by decide +kernel
theorem dX12_river_75 : decode cX12_river 75 = .ok (.goto 4, 3) := by decide +kernel
theorem dX12_river_78 : decode cX12_river 78 = .ok (.iconst 0, 1) := by decide +kernel
theorem dX12_river_79 : decode cX12_river 79 = .ok (.istore_n 2, 1) := by decide +kernel
theorem dX12_river_80 : decode cX12_river 80 = .ok (.iload_n 2, 1) := by decide +kernel
theorem dX12_river_81 : decode cX12_river 81 = .ok (.ifCond .eq 18, 3) := by decide +kernel
theorem dX12_river_84 : decode cX12_river 84 = .ok (.aload_n 0, 1) := by decide +kernel
theorem dX12_river_85 : decode cX12_river 85 = .ok (.getfield 137, 3) := by decide +kernel
theorem dX12_river_88 : decode cX12_river 88 = .ok (.ifCond .eq 11, 3) := by decide +kernel
theorem dX12_river_91 : decode cX12_river 91 = .ok (.aload_n 0, 1) := by decide +kernel
theorem dX12_river_92 : decode cX12_river 92 = .ok (.invokevirtual 234, 3) := by decide +kernel
theorem dX12_river_95 : decode cX12_river 95 = .ok (.istore_n 2, 1) := by decide +kernel
theorem dX12_river_96 : decode cX12_river 96 = .ok (.goto (-16), 3) := by decide +kernel
theorem dX12_river_99 : decode cX12_river 99 = .ok (.aload_n 0, 1) := by decide +kernel
theorem dX12_river_100 : decode cX12_river 100 = .ok (.getfield 162, 3) := by decide +kernel
theorem dX12_river_103 : decode cX12_river 103 = .ok (.ifCond .ne 91, 3) := by decide +kernel
theorem dX12_river_106 : decode cX12_river 106 = .ok (.aload_n 0, 1) := by decide +kernel
theorem dX12_river_107 : decode cX12_river 107 = .ok (.getfield 7, 3) := by decide +kernel
theorem dX12_river_110 : decode cX12_river 110 = .ok (.sipush 1774, 3) := by decide +kernel
theorem dX12_river_113 : decode cX12_river 113 = .ok (.aload_n 0, 1) := by decide +kernel
theorem dX12_river_114 : decode cX12_river 114 = .ok (.getfield 7, 3) := by decide +kernel
theorem dX12_river_117 : decode cX12_river 117 = .ok (.bipush 14, 2) := by decide +kernel
theorem dX12_river_119 : decode cX12_river 119 = .ok (.iaload, 1) := by decide +kernel
theorem dX12_river_120 : decode cX12_river 120 = .ok (.iastore, 1) := by decide +kernel
theorem dX12_river_121 : decode cX12_river 121 = .ok (.iconst 0, 1) := by decide +kernel
theorem dX12_river_122 : decode cX12_river 122 = .ok (.istore_n 3, 1) := by decide +kernel
theorem dX12_river_123 : decode cX12_river 123 = .ok (.iload_n 3, 1) := by decide +kernel
theorem dX12_river_124 : decode cX12_river 124 = .ok (.sipush 200, 3) := by decide +kernel
theorem dX12_river_127 : decode cX12_river 127 = .ok (.if_icmp .ge 25, 3) := by decide +kernel
theorem dX12_river_130 : decode cX12_river 130 = .ok (.aload_n 0, 1) := by decide +kernel
theorem dX12_river_131 : decode cX12_river 131 = .ok (.getfield 7, 3) := by decide +kernel
theorem dX12_river_134 : decode cX12_river 134 = .ok (.iload_n 3, 1) := by decide +kernel
theorem dX12_river_135 : decode cX12_river 135 = .ok (.aload_n 0, 1) := by decide +kernel
theorem dX12_river_136 : decode cX12_river 136 = .ok (.getfield 7, 3) := by decide +kernel
theorem dX12_river_139 : decode cX12_river 139 = .ok (.sipush 1760, 3) := by decide +kernel
theorem dX12_river_142 : decode cX12_river 142 = .ok (.iload_n 3, 1) := by decide +kernel
theorem dX12_river_143 : decode cX12_river 143 = .ok (.iadd, 1) := by decide +kernel
theorem dX12_river_144 : decode cX12_river 144 = .ok (.iaload, 1) := by decide +kernel
theorem dX12_river_145 : decode cX12_river 145 = .ok (.iastore, 1) := by decide +kernel
theorem dX12_river_146 : decode cX12_river 146 = .ok (.iinc 3 1, 3) := by decide +kernel
theorem dX12_river_149 : decode cX12_river 149 = .ok (.goto (-26), 3) := by decide +kernel
theorem dX12_river_152 : decode cX12_river 152 = .ok (.iconst 0, 1) := by decide +kernel
theorem dX12_river_153 : decode cX12_river 153 = .ok (.istore_n 3, 1) := by decide +kernel
theorem dX12_river_154 : decode cX12_river 154 = .ok (.iload_n 3, 1) := by decide +kernel
theorem dX12_river_155 : decode cX12_river 155 = .ok (.iconst 5, 1) := by decide +kernel
theorem dX12_river_156 : decode cX12_river 156 = .ok (.if_icmp .ge 24, 3) := by decide +kernel
theorem dX12_river_159 : decode cX12_river 159 = .ok (.aload_n 0, 1) := by decide +kernel
theorem dX12_river_160 : decode cX12_river 160 = .ok (.getfield 13, 3) := by decide +kernel
theorem dX12_river_163 : decode cX12_river 163 = .ok (.iload_n 3, 1) := by decide +kernel
theorem dX12_river_164 : decode cX12_river 164 = .ok (.aload_n 0, 1) := by decide +kernel
theorem dX12_river_165 : decode cX12_river 165 = .ok (.getfield 13, 3) := by decide +kernel
theorem dX12_river_168 : decode cX12_river 168 = .ok (.bipush 20, 2) := by decide +kernel
theorem dX12_river_170 : decode cX12_river 170 = .ok (.iload_n 3, 1) := by decide +kernel
theorem dX12_river_171 : decode cX12_river 171 = .ok (.iadd, 1) := by decide +kernel
theorem dX12_river_172 : decode cX12_river 172 = .ok (.laload, 1) := by decide +kernel
theorem dX12_river_173 : decode cX12_river 173 = .ok (.lastore, 1) := by decide +kernel
theorem dX12_river_174 : decode cX12_river 174 = .ok (.iinc 3 1, 3) := by decide +kernel
theorem dX12_river_177 : decode cX12_river 177 = .ok (.goto (-23), 3) := by decide +kernel
theorem dX12_river_180 : decode cX12_river 180 = .ok (.aload_n 0, 1) := by decide +kernel
theorem dX12_river_181 : decode cX12_river 181 = .ok (.invokevirtual 237, 3) := by decide +kernel
theorem dX12_river_184 : decode cX12_river 184 = .ok (.aload_n 0, 1) := by decide +kernel
theorem dX12_river_185 : decode cX12_river 185 = .ok (.dup, 1) := by decide +kernel
theorem dX12_river_186 : decode cX12_river 186 = .ok (.getfield 240, 3) := by decide +kernel
theorem dX12_river_189 : decode cX12_river 189 = .ok (.iconst 1, 1) := by decide +kernel
theorem dX12_river_190 : decode cX12_river 190 = .ok (.iadd, 1) := by decide +kernel
theorem dX12_river_191 : decode cX12_river 191 = .ok (.putfield 240, 3) := by decide +kernel
theorem dX12_river_194 : decode cX12_river 194 = .ok (.aload_n 0, 1) := by decide +kernel
theorem dX12_river_195 : decode cX12_river 195 = .ok (.aload_n 0, 1) := by decide +kernel
theorem dX12_river_196 : decode cX12_river 196 = .ok (.invokevirtual 243, 3) := by decide +kernel
theorem dX12_river_199 : decode cX12_river 199 = .ok (.invokevirtual 246, 3) := by decide +kernel
theorem dX12_river_202 : decode cX12_river 202 = .ok (.ireturn, 1) := by decide +kernel
theorem dX12_ruleName_0 : decode cX12_ruleName 0 = .ok (.aload_n 0, 1) := by decide +kernel
theorem dX12_ruleName_1 : decode cX12_ruleName 1 = .ok (.ldc 194, 2) := by decide +kernel
theorem dX12_ruleName_3 : decode cX12_ruleName 3 = .ok (.invokevirtual 196, 3) := by decide +kernel
theorem dX12_ruleName_6 : decode cX12_ruleName 6 = .ok (.ifCond .ne 9, 3) := by decide +kernel
theorem dX12_ruleName_9 : decode cX12_ruleName 9 = .ok (.aload_n 0, 1) := by decide +kernel
theorem dX12_ruleName_10 : decode cX12_ruleName 10 = .ok (.iconst 2, 1) := by decide +kernel
theorem dX12_ruleName_11 : decode cX12_ruleName 11 = .ok (.invokevirtual 174, 3) := by decide +kernel
theorem dX12_ruleName_14 : decode cX12_ruleName 14 = .ok (.ireturn, 1) := by decide +kernel
theorem dX12_ruleName_15 : decode cX12_ruleName 15 = .ok (.aload_n 0, 1) := by decide +kernel
theorem dX12_ruleName_16 : decode cX12_ruleName 16 = .ok (.iconst 0, 1) := by decide +kernel
theorem dX12_ruleName_17 : decode cX12_ruleName 17 = .ok (.aload_n 0, 1) := by decide +kernel
theorem dX12_ruleName_18 : decode cX12_ruleName 18 = .ok (.getfield 7, 3) := by decide +kernel
theorem dX12_ruleName_21 : decode cX12_ruleName 21 = .ok (.iconst 2, 1) := by decide +kernel
theorem dX12_ruleName_22 : decode cX12_ruleName 22 = .ok (.iaload, 1) := by decide +kernel
theorem dX12_ruleName_23 : decode cX12_ruleName 23 = .ok (.invokevirtual 200, 3) := by decide +kernel
theorem dX12_ruleName_26 : decode cX12_ruleName 26 = .ok (.istore_n 2, 1) := by decide +kernel
theorem dX12_ruleName_27 : decode cX12_ruleName 27 = .ok (.iload_n 2, 1) := by decide +kernel
theorem dX12_ruleName_28 : decode cX12_ruleName 28 = .ok (.iconst (-1), 1) := by decide +kernel
theorem dX12_ruleName_29 : decode cX12_ruleName 29 = .ok (.if_icmp .ne 9, 3) := by decide +kernel
theorem dX12_ruleName_32 : decode cX12_ruleName 32 = .ok (.aload_n 0, 1) := by decide +kernel
theorem dX12_ruleName_33 : decode cX12_ruleName 33 = .ok (.iconst 3, 1) := by decide +kernel
theorem dX12_ruleName_34 : decode cX12_ruleName 34 = .ok (.invokevirtual 174, 3) := by decide +kernel
theorem dX12_ruleName_37 : decode cX12_ruleName 37 = .ok (.ireturn, 1) := by decide +kernel
theorem dX12_ruleName_38 : decode cX12_ruleName 38 = .ok (.aload_n 0, 1) := by decide +kernel
theorem dX12_ruleName_39 : decode cX12_ruleName 39 = .ok (.getfield 7, 3) := by decide +kernel
theorem dX12_ruleName_42 : decode cX12_ruleName 42 = .ok (.iload_n 1, 1) := by decide +kernel
theorem dX12_ruleName_43 : decode cX12_ruleName 43 = .ok (.iload_n 2, 1) := by decide +kernel
theorem dX12_ruleName_44 : decode cX12_ruleName 44 = .ok (.iastore, 1) := by decide +kernel
theorem dX12_ruleName_45 : decode cX12_ruleName 45 = .ok (.aload_n 0, 1) := by decide +kernel
theorem dX12_ruleName_46 : decode cX12_ruleName 46 = .ok (.invokevirtual 168, 3) := by decide +kernel
theorem dX12_ruleName_49 : decode cX12_ruleName 49 = .ok (.iconst 1, 1) := by decide +kernel
theorem dX12_ruleName_50 : decode cX12_ruleName 50 = .ok (.ireturn, 1) := by decide +kernel
theorem dX12_step_0 : decode cX12_step 0 = .ok (.aload_n 0, 1) := by decide +kernel
theorem dX12_step_1 : decode cX12_step 1 = .ok (.ldc 249, 2) := by decide +kernel
theorem dX12_step_3 : decode cX12_step 3 = .ok (.invokevirtual 177, 3) := by decide +kernel
theorem dX12_step_6 : decode cX12_step 6 = .ok (.istore_n 1, 1) := by decide +kernel
theorem dX12_step_7 : decode cX12_step 7 = .ok (.aload_n 0, 1) := by decide +kernel
theorem dX12_step_8 : decode cX12_step 8 = .ok (.getfield 7, 3) := by decide +kernel
theorem dX12_step_11 : decode cX12_step 11 = .ok (.sipush 1774, 3) := by decide +kernel
theorem dX12_step_14 : decode cX12_step 14 = .ok (.iaload, 1) := by decide +kernel
theorem dX12_step_15 : decode cX12_step 15 = .ok (.istore_n 2, 1) := by decide +kernel
theorem dX12_step_16 : decode cX12_step 16 = .ok (.sipush 1960, 3) := by decide +kernel
theorem dX12_step_19 : decode cX12_step 19 = .ok (.iconst 4, 1) := by decide +kernel
theorem dX12_step_20 : decode cX12_step 20 = .ok (.iload_n 2, 1) := by decide +kernel
theorem dX12_step_21 : decode cX12_step 21 = .ok (.imul, 1) := by decide +kernel
theorem dX12_step_22 : decode cX12_step 22 = .ok (.iadd, 1) := by decide +kernel
theorem dX12_step_23 : decode cX12_step 23 = .ok (.istore_n 3, 1) := by decide +kernel
theorem dX12_step_24 : decode cX12_step 24 = .ok (.iload_n 1, 1) := by decide +kernel
theorem dX12_step_25 : decode cX12_step 25 = .ok (.iconst (-1), 1) := by decide +kernel
theorem dX12_step_26 : decode cX12_step 26 = .ok (.if_icmp .eq 22, 3) := by decide +kernel
theorem dX12_step_29 : decode cX12_step 29 = .ok (.iload_n 1, 1) := by decide +kernel
theorem dX12_step_30 : decode cX12_step 30 = .ok (.bipush 8, 2) := by decide +kernel
theorem dX12_step_32 : decode cX12_step 32 = .ok (.if_icmp .gt 16, 3) := by decide +kernel
theorem dX12_step_35 : decode cX12_step 35 = .ok (.iload_n 1, 1) := by decide +kernel
theorem dX12_step_36 : decode cX12_step 36 = .ok (.bipush 6, 2) := by decide +kernel
theorem dX12_step_38 : decode cX12_step 38 = .ok (.if_icmp .ne 16, 3) := by decide +kernel
theorem dX12_step_41 : decode cX12_step 41 = .ok (.aload_n 0, 1) := by decide +kernel
theorem dX12_step_42 : decode cX12_step 42 = .ok (.getfield 251, 3) := by decide +kernel
theorem dX12_step_45 : decode cX12_step 45 = .ok (.ifCond .ne 9, 3) := by decide +kernel
theorem dX12_step_48 : decode cX12_step 48 = .ok (.aload_n 0, 1) := by decide +kernel
theorem dX12_step_49 : decode cX12_step 49 = .ok (.iconst 2, 1) := by decide +kernel
theorem dX12_step_50 : decode cX12_step 50 = .ok (.invokevirtual 174, 3) := by decide +kernel
theorem dX12_step_53 : decode cX12_step 53 = .ok (.ireturn, 1) := by decide +kernel
theorem dX12_step_54 : decode cX12_step 54 = .ok (.iload_n 1, 1) := by decide +kernel
theorem dX12_step_55 : decode cX12_step 55 = .ok (.iconst 4, 1) := by decide +kernel
theorem dX12_step_56 : decode cX12_step 56 = .ok (.if_icmp .eq 8, 3) := by decide +kernel
theorem dX12_step_59 : decode cX12_step 59 = .ok (.iload_n 1, 1) := by decide +kernel
theorem dX12_step_60 : decode cX12_step 60 = .ok (.iconst 5, 1) := by decide +kernel
theorem dX12_step_61 : decode cX12_step 61 = .ok (.if_icmp .ne 7, 3) := by decide +kernel
theorem dX12_step_64 : decode cX12_step 64 = .ok (.iconst 1, 1) := by decide +kernel
theorem dX12_step_65 : decode cX12_step 65 = .ok (.goto 4, 3) := by decide +kernel
theorem dX12_step_68 : decode cX12_step 68 = .ok (.iconst 0, 1) := by decide +kernel
theorem dX12_step_69 : decode cX12_step 69 = .ok (.istore 4, 2) := by decide +kernel
theorem dX12_step_71 : decode cX12_step 71 = .ok (.iload_n 1, 1) := by decide +kernel
theorem dX12_step_72 : decode cX12_step 72 = .ok (.bipush 6, 2) := by decide +kernel
theorem dX12_step_74 : decode cX12_step 74 = .ok (.if_icmp .eq 19, 3) := by decide +kernel
theorem dX12_step_77 : decode cX12_step 77 = .ok (.aload_n 0, 1) := by decide +kernel
theorem dX12_step_78 : decode cX12_step 78 = .ok (.getfield 254, 3) := by decide +kernel
theorem dX12_step_81 : decode cX12_step 81 = .ok (.bipush 30, 2) := by decide +kernel
theorem dX12_step_83 : decode cX12_step 83 = .ok (.if_icmp .ne 10, 3) := by decide +kernel
theorem dX12_step_86 : decode cX12_step 86 = .ok (.aload_n 0, 1) := by decide +kernel
theorem dX12_step_87 : decode cX12_step 87 = .ok (.bipush 6, 2) := by decide +kernel
theorem dX12_step_89 : decode cX12_step 89 = .ok (.invokevirtual 174, 3) := by decide +kernel
theorem dX12_step_92 : decode cX12_step 92 = .ok (.ireturn, 1) := by decide +kernel
theorem dX12_step_93 : decode cX12_step 93 = .ok (.iload 4, 2) := by decide +kernel
theorem dX12_step_95 : decode cX12_step 95 = .ok (.ifCond .eq 18, 3) := by decide +kernel
theorem dX12_step_98 : decode cX12_step 98 = .ok (.aload_n 0, 1) := by decide +kernel
theorem dX12_step_99 : decode cX12_step 99 = .ok (.getfield 251, 3) := by decide +kernel
theorem dX12_step_102 : decode cX12_step 102 = .ok (.iconst 3, 1) := by decide +kernel
theorem dX12_step_103 : decode cX12_step 103 = .ok (.if_icmp .ne 10, 3) := by decide +kernel
theorem dX12_step_106 : decode cX12_step 106 = .ok (.aload_n 0, 1) := by decide +kernel
theorem dX12_step_107 : decode cX12_step 107 = .ok (.bipush 7, 2) := by decide +kernel
theorem dX12_step_109 : decode cX12_step 109 = .ok (.invokevirtual 174, 3) := by decide +kernel
theorem dX12_step_112 : decode cX12_step 112 = .ok (.ireturn, 1) := by decide +kernel
theorem dX12_step_113 : decode cX12_step 113 = .ok (.aload_n 0, 1) := by decide +kernel
theorem dX12_step_114 : decode cX12_step 114 = .ok (.dup, 1) := by decide +kernel
theorem dX12_step_115 : decode cX12_step 115 = .ok (.getfield 254, 3) := by decide +kernel
theorem dX12_step_118 : decode cX12_step 118 = .ok (.iload_n 1, 1) := by decide +kernel
theorem dX12_step_119 : decode cX12_step 119 = .ok (.bipush 6, 2) := by decide +kernel
theorem dX12_step_121 : decode cX12_step 121 = .ok (.if_icmp .ne 7, 3) := by decide +kernel
theorem dX12_step_124 : decode cX12_step 124 = .ok (.iconst 0, 1) := by decide +kernel
theorem dX12_step_125 : decode cX12_step 125 = .ok (.goto 4, 3) := by decide +kernel
theorem dX12_step_128 : decode cX12_step 128 = .ok (.iconst 1, 1) := by decide +kernel
theorem dX12_step_129 : decode cX12_step 129 = .ok (.iadd, 1) := by decide +kernel
theorem dX12_step_130 : decode cX12_step 130 = .ok (.putfield 254, 3) := by decide +kernel
theorem dX12_step_133 : decode cX12_step 133 = .ok (.iconst 1, 1) := by decide +kernel
theorem dX12_step_134 : decode cX12_step 134 = .ok (.istore 5, 2) := by decide +kernel
theorem dX12_step_136 : decode cX12_step 136 = .ok (.iload 5, 2) := by decide +kernel
theorem dX12_step_138 : decode cX12_step 138 = .ok (.iconst 4, 1) := by decide +kernel
theorem dX12_step_139 : decode cX12_step 139 = .ok (.if_icmp .ge 19, 3) := by decide +kernel
theorem dX12_step_142 : decode cX12_step 142 = .ok (.aload_n 0, 1) := by decide +kernel
theorem dX12_step_143 : decode cX12_step 143 = .ok (.getfield 7, 3) := by decide +kernel
theorem dX12_step_146 : decode cX12_step 146 = .ok (.iload_n 3, 1) := by decide +kernel
theorem dX12_step_147 : decode cX12_step 147 = .ok (.iload 5, 2) := by decide +kernel
theorem dX12_step_149 : decode cX12_step 149 = .ok (.iadd, 1) := by decide +kernel
theorem dX12_step_150 : decode cX12_step 150 = .ok (.iconst 0, 1) := by decide +kernel
theorem dX12_step_151 : decode cX12_step 151 = .ok (.iastore, 1) := by decide +kernel
theorem dX12_step_152 : decode cX12_step 152 = .ok (.iinc 5 1, 3) := by decide +kernel
theorem dX12_step_155 : decode cX12_step 155 = .ok (.goto (-19), 3) := by decide +kernel
theorem dX12_step_158 : decode cX12_step 158 = .ok (.aload_n 0, 1) := by decide +kernel
theorem dX12_step_159 : decode cX12_step 159 = .ok (.getfield 7, 3) := by decide +kernel
theorem dX12_step_162 : decode cX12_step 162 = .ok (.iload_n 3, 1) := by decide +kernel
theorem dX12_step_163 : decode cX12_step 163 = .ok (.iload_n 1, 1) := by decide +kernel
theorem dX12_step_164 : decode cX12_step 164 = .ok (.iastore, 1) := by decide +kernel
theorem dX12_step_165 : decode cX12_step 165 = .ok (.aload_n 0, 1) := by decide +kernel
theorem dX12_step_166 : decode cX12_step 166 = .ok (.getfield 7, 3) := by decide +kernel
theorem dX12_step_169 : decode cX12_step 169 = .ok (.sipush 1774, 3) := by decide +kernel
theorem dX12_step_172 : decode cX12_step 172 = .ok (.dup2, 1) := by decide +kernel
theorem dX12_step_173 : decode cX12_step 173 = .ok (.iaload, 1) := by decide +kernel
theorem dX12_step_174 : decode cX12_step 174 = .ok (.iconst 1, 1) := by decide +kernel
theorem dX12_step_175 : decode cX12_step 175 = .ok (.iadd, 1) := by decide +kernel
theorem dX12_step_176 : decode cX12_step 176 = .ok (.iastore, 1) := by decide +kernel
theorem dX12_step_177 : decode cX12_step 177 = .ok (.aload_n 0, 1) := by decide +kernel
theorem dX12_step_178 : decode cX12_step 178 = .ok (.invokevirtual 168, 3) := by decide +kernel
theorem dX12_step_181 : decode cX12_step 181 = .ok (.iconst 1, 1) := by decide +kernel
theorem dX12_step_182 : decode cX12_step 182 = .ok (.istore 5, 2) := by decide +kernel
theorem dX12_step_184 : decode cX12_step 184 = .ok (.iload_n 1, 1) := by decide +kernel
theorem dX12_step_185 : decode cX12_step 185 = .ok (.ifCond .eq 8, 3) := by decide +kernel
theorem dX12_step_188 : decode cX12_step 188 = .ok (.iload_n 1, 1) := by decide +kernel
theorem dX12_step_189 : decode cX12_step 189 = .ok (.iconst 1, 1) := by decide +kernel
theorem dX12_step_190 : decode cX12_step 190 = .ok (.if_icmp .ne 12, 3) := by decide +kernel
theorem dX12_step_193 : decode cX12_step 193 = .ok (.aload_n 0, 1) := by decide +kernel
theorem dX12_step_194 : decode cX12_step 194 = .ok (.iload_n 3, 1) := by decide +kernel
theorem dX12_step_195 : decode cX12_step 195 = .ok (.iconst 1, 1) := by decide +kernel
theorem dX12_step_196 : decode cX12_step 196 = .ok (.iadd, 1) := by decide +kernel
theorem dX12_step_197 : decode cX12_step 197 = .ok (.invokevirtual 257, 3) := by decide +kernel
theorem dX12_step_200 : decode cX12_step 200 = .ok (.istore 5, 2) := by decide +kernel
theorem dX12_step_202 : decode cX12_step 202 = .ok (.iload_n 1, 1) := by decide +kernel
theorem dX12_step_203 : decode cX12_step 203 = .ok (.iconst 2, 1) := by decide +kernel
theorem dX12_step_204 : decode cX12_step 204 = .ok (.if_icmp .ne 15, 3) := by decide +kernel
theorem dX12_step_207 : decode cX12_step 207 = .ok (.aload_n 0, 1) := by decide +kernel
theorem dX12_step_208 : decode cX12_step 208 = .ok (.iload_n 3, 1) := by decide +kernel
theorem dX12_step_209 : decode cX12_step 209 = .ok (.iconst 2, 1) := by decide +kernel
theorem dX12_step_210 : decode cX12_step 210 = .ok (.iadd, 1) := by decide +kernel
theorem dX12_step_211 : decode cX12_step 211 = .ok (.iconst 1, 1) := by decide +kernel
theorem dX12_step_212 : decode cX12_step 212 = .ok (.bipush 9, 2) := by decide +kernel
theorem dX12_step_214 : decode cX12_step 214 = .ok (.invokevirtual 207, 3) := by decide +kernel
theorem dX12_step_217 : decode cX12_step 217 = .ok (.istore 5, 2) := by decide +kernel
theorem dX12_step_219 : decode cX12_step 219 = .ok (.iload_n 1, 1) := by decide +kernel
theorem dX12_step_220 : decode cX12_step 220 = .ok (.iconst 3, 1) := by decide +kernel
theorem dX12_step_221 : decode cX12_step 221 = .ok (.if_icmp .ne 15, 3) := by decide +kernel
theorem dX12_step_224 : decode cX12_step 224 = .ok (.aload_n 0, 1) := by decide +kernel
theorem dX12_step_225 : decode cX12_step 225 = .ok (.iload_n 3, 1) := by decide +kernel
theorem dX12_step_226 : decode cX12_step 226 = .ok (.iconst 2, 1) := by decide +kernel
theorem dX12_step_227 : decode cX12_step 227 = .ok (.iadd, 1) := by decide +kernel
theorem dX12_step_228 : decode cX12_step 228 = .ok (.iconst 0, 1) := by decide +kernel
theorem dX12_step_229 : decode cX12_step 229 = .ok (.bipush 9, 2) := by decide +kernel
theorem dX12_step_231 : decode cX12_step 231 = .ok (.invokevirtual 207, 3) := by decide +kernel
theorem dX12_step_234 : decode cX12_step 234 = .ok (.istore 5, 2) := by decide +kernel
theorem dX12_step_236 : decode cX12_step 236 = .ok (.iload_n 1, 1) := by decide +kernel
theorem dX12_step_237 : decode cX12_step 237 = .ok (.iconst 5, 1) := by decide +kernel
theorem dX12_step_238 : decode cX12_step 238 = .ok (.if_icmp .ne 15, 3) := by decide +kernel
theorem dX12_step_241 : decode cX12_step 241 = .ok (.aload_n 0, 1) := by decide +kernel
theorem dX12_step_242 : decode cX12_step 242 = .ok (.iload_n 3, 1) := by decide +kernel
theorem dX12_step_243 : decode cX12_step 243 = .ok (.iconst 2, 1) := by decide +kernel
theorem dX12_step_244 : decode cX12_step 244 = .ok (.iadd, 1) := by decide +kernel
theorem dX12_step_245 : decode cX12_step 245 = .ok (.iconst 1, 1) := by decide +kernel
theorem dX12_step_246 : decode cX12_step 246 = .ok (.bipush 9, 2) := by decide +kernel
theorem dX12_step_248 : decode cX12_step 248 = .ok (.invokevirtual 207, 3) := by decide +kernel
theorem dX12_step_251 : decode cX12_step 251 = .ok (.istore 5, 2) := by decide +kernel
theorem dX12_step_253 : decode cX12_step 253 = .ok (.iload_n 1, 1) := by decide +kernel
theorem dX12_step_254 : decode cX12_step 254 = .ok (.iconst 4, 1) := by decide +kernel
theorem dX12_step_255 : decode cX12_step 255 = .ok (.if_icmp .ne 76, 3) := by decide +kernel
theorem dX12_step_258 : decode cX12_step 258 = .ok (.aload_n 0, 1) := by decide +kernel
theorem dX12_step_259 : decode cX12_step 259 = .ok (.ldc 249, 2) := by decide +kernel
theorem dX12_step_261 : decode cX12_step 261 = .ok (.invokevirtual 177, 3) := by decide +kernel
theorem dX12_step_264 : decode cX12_step 264 = .ok (.istore 6, 2) := by decide +kernel
theorem dX12_step_266 : decode cX12_step 266 = .ok (.iload 6, 2) := by decide +kernel
theorem dX12_step_268 : decode cX12_step 268 = .ok (.bipush 9, 2) := by decide +kernel
theorem dX12_step_270 : decode cX12_step 270 = .ok (.if_icmp .ge 9, 3) := by decide +kernel
theorem dX12_step_273 : decode cX12_step 273 = .ok (.aload_n 0, 1) := by decide +kernel
theorem dX12_step_274 : decode cX12_step 274 = .ok (.iconst 2, 1) := by decide +kernel
theorem dX12_step_275 : decode cX12_step 275 = .ok (.invokevirtual 174, 3) := by decide +kernel
theorem dX12_step_278 : decode cX12_step 278 = .ok (.ireturn, 1) := by decide +kernel
theorem dX12_step_279 : decode cX12_step 279 = .ok (.aload_n 0, 1) := by decide +kernel
theorem dX12_step_280 : decode cX12_step 280 = .ok (.getfield 7, 3) := by decide +kernel
theorem dX12_step_283 : decode cX12_step 283 = .ok (.iload_n 3, 1) := by decide +kernel
theorem dX12_step_284 : decode cX12_step 284 = .ok (.bipush 40, 2) := by decide +kernel
theorem dX12_step_286 : decode cX12_step 286 = .ok (.iload 6, 2) := by decide +kernel
theorem dX12_step_288 : decode cX12_step 288 = .ok (.iadd, 1) := by decide +kernel
theorem dX12_step_289 : decode cX12_step 289 = .ok (.iastore, 1) := by decide +kernel
theorem dX12_step_290 : decode cX12_step 290 = .ok (.aload_n 0, 1) := by decide +kernel
theorem dX12_step_291 : decode cX12_step 291 = .ok (.invokevirtual 168, 3) := by decide +kernel
theorem dX12_step_294 : decode cX12_step 294 = .ok (.iload 6, 2) := by decide +kernel
theorem dX12_step_296 : decode cX12_step 296 = .ok (.bipush 11, 2) := by decide +kernel
theorem dX12_step_298 : decode cX12_step 298 = .ok (.if_icmp .eq 13, 3) := by decide +kernel
theorem dX12_step_301 : decode cX12_step 301 = .ok (.aload_n 0, 1) := by decide +kernel
theorem dX12_step_302 : decode cX12_step 302 = .ok (.iload_n 3, 1) := by decide +kernel
theorem dX12_step_303 : decode cX12_step 303 = .ok (.iconst 1, 1) := by decide +kernel
theorem dX12_step_304 : decode cX12_step 304 = .ok (.iadd, 1) := by decide +kernel
theorem dX12_step_305 : decode cX12_step 305 = .ok (.invokevirtual 257, 3) := by decide +kernel
theorem dX12_step_308 : decode cX12_step 308 = .ok (.ifCond .eq 20, 3) := by decide +kernel
theorem dX12_step_311 : decode cX12_step 311 = .ok (.aload_n 0, 1) := by decide +kernel
theorem dX12_step_312 : decode cX12_step 312 = .ok (.iload_n 3, 1) := by decide +kernel
theorem dX12_step_313 : decode cX12_step 313 = .ok (.iconst 2, 1) := by decide +kernel
theorem dX12_step_314 : decode cX12_step 314 = .ok (.iadd, 1) := by decide +kernel
theorem dX12_step_315 : decode cX12_step 315 = .ok (.iconst 0, 1) := by decide +kernel
theorem dX12_step_316 : decode cX12_step 316 = .ok (.bipush 16, 2) := by decide +kernel
theorem dX12_step_318 : decode cX12_step 318 = .ok (.invokevirtual 207, 3) := by decide +kernel
theorem dX12_step_321 : decode cX12_step 321 = .ok (.ifCond .eq 7, 3) := by decide +kernel
theorem dX12_step_324 : decode cX12_step 324 = .ok (.iconst 1, 1) := by decide +kernel
theorem dX12_step_325 : decode cX12_step 325 = .ok (.goto 4, 3) := by decide +kernel
theorem dX12_step_328 : decode cX12_step 328 = .ok (.iconst 0, 1) := by decide +kernel
theorem dX12_step_329 : decode cX12_step 329 = .ok (.istore 5, 2) := by decide +kernel
theorem dX12_step_331 : decode cX12_step 331 = .ok (.iload 5, 2) := by decide +kernel
theorem dX12_step_333 : decode cX12_step 333 = .ok (.ifCond .ne 5, 3) := by decide +kernel
theorem dX12_step_336 : decode cX12_step 336 = .ok (.iconst 0, 1) := by decide +kernel
theorem dX12_step_337 : decode cX12_step 337 = .ok (.ireturn, 1) := by decide +kernel
theorem dX12_step_338 : decode cX12_step 338 = .ok (.iload 4, 2) := by decide +kernel
theorem dX12_step_340 : decode cX12_step 340 = .ok (.ifCond .eq 23, 3) := by decide +kernel
theorem dX12_step_343 : decode cX12_step 343 = .ok (.aload_n 0, 1) := by decide +kernel
theorem dX12_step_344 : decode cX12_step 344 = .ok (.getfield 47, 3) := by decide +kernel
theorem dX12_step_347 : decode cX12_step 347 = .ok (.aload_n 0, 1) := by decide +kernel
theorem dX12_step_348 : decode cX12_step 348 = .ok (.getfield 251, 3) := by decide +kernel
theorem dX12_step_351 : decode cX12_step 351 = .ok (.iload_n 2, 1) := by decide +kernel
theorem dX12_step_352 : decode cX12_step 352 = .ok (.iastore, 1) := by decide +kernel
theorem dX12_step_353 : decode cX12_step 353 = .ok (.aload_n 0, 1) := by decide +kernel
theorem dX12_step_354 : decode cX12_step 354 = .ok (.dup, 1) := by decide +kernel
theorem dX12_step_355 : decode cX12_step 355 = .ok (.getfield 251, 3) := by decide +kernel
theorem dX12_step_358 : decode cX12_step 358 = .ok (.iconst 1, 1) := by decide +kernel
theorem dX12_step_359 : decode cX12_step 359 = .ok (.iadd, 1) := by decide +kernel
theorem dX12_step_360 : decode cX12_step 360 = .ok (.putfield 251, 3) := by decide +kernel
theorem dX12_step_363 : decode cX12_step 363 = .ok (.iload_n 1, 1) := by decide +kernel
theorem dX12_step_364 : decode cX12_step 364 = .ok (.bipush 6, 2) := by decide +kernel
theorem dX12_step_366 : decode cX12_step 366 = .ok (.if_icmp .ne 53, 3) := by decide +kernel
theorem dX12_step_369 : decode cX12_step 369 = .ok (.aload_n 0, 1) := by decide +kernel
theorem dX12_step_370 : decode cX12_step 370 = .ok (.dup, 1) := by decide +kernel
theorem dX12_step_371 : decode cX12_step 371 = .ok (.getfield 251, 3) := by decide +kernel
theorem dX12_step_374 : decode cX12_step 374 = .ok (.iconst 1, 1) := by decide +kernel
theorem dX12_step_375 : decode cX12_step 375 = .ok (.isub, 1) := by decide +kernel
theorem dX12_step_376 : decode cX12_step 376 = .ok (.putfield 251, 3) := by decide +kernel
theorem dX12_step_379 : decode cX12_step 379 = .ok (.aload_n 0, 1) := by decide +kernel
theorem dX12_step_380 : decode cX12_step 380 = .ok (.getfield 7, 3) := by decide +kernel
theorem dX12_step_383 : decode cX12_step 383 = .ok (.iload_n 3, 1) := by decide +kernel
theorem dX12_step_384 : decode cX12_step 384 = .ok (.iconst 3, 1) := by decide +kernel
theorem dX12_step_385 : decode cX12_step 385 = .ok (.iadd, 1) := by decide +kernel
theorem dX12_step_386 : decode cX12_step 386 = .ok (.aload_n 0, 1) := by decide +kernel
theorem dX12_step_387 : decode cX12_step 387 = .ok (.getfield 47, 3) := by decide +kernel
theorem dX12_step_390 : decode cX12_step 390 = .ok (.aload_n 0, 1) := by decide +kernel
theorem dX12_step_391 : decode cX12_step 391 = .ok (.getfield 251, 3) := by decide +kernel
theorem dX12_step_394 : decode cX12_step 394 = .ok (.iaload, 1) := by decide +kernel
theorem dX12_step_395 : decode cX12_step 395 = .ok (.iastore, 1) := by decide +kernel
theorem dX12_step_396 : decode cX12_step 396 = .ok (.aload_n 0, 1) := by decide +kernel
theorem dX12_step_397 : decode cX12_step 397 = .ok (.getfield 7, 3) := by decide +kernel
theorem dX12_step_400 : decode cX12_step 400 = .ok (.sipush 1960, 3) := by decide +kernel
theorem dX12_step_403 : decode cX12_step 403 = .ok (.iconst 4, 1) := by decide +kernel
theorem dX12_step_404 : decode cX12_step 404 = .ok (.aload_n 0, 1) := by decide +kernel
theorem dX12_step_405 : decode cX12_step 405 = .ok (.getfield 47, 3) := by decide +kernel
theorem dX12_step_408 : decode cX12_step 408 = .ok (.aload_n 0, 1) := by decide +kernel
theorem dX12_step_409 : decode cX12_step 409 = .ok (.getfield 251, 3) := by decide +kernel
theorem dX12_step_412 : decode cX12_step 412 = .ok (.iaload, 1) := by decide +kernel
theorem dX12_step_413 : decode cX12_step 413 = .ok (.imul, 1) := by decide +kernel
theorem dX12_step_414 : decode cX12_step 414 = .ok (.iadd, 1) := by decide +kernel
theorem dX12_step_415 : decode cX12_step 415 = .ok (.iconst 3, 1) := by decide +kernel
theorem dX12_step_416 : decode cX12_step 416 = .ok (.iadd, 1) := by decide +kernel
theorem dX12_step_417 : decode cX12_step 417 = .ok (.iload_n 2, 1) := by decide +kernel
theorem dX12_step_418 : decode cX12_step 418 = .ok (.iastore, 1) := by decide +kernel
theorem dX12_step_419 : decode cX12_step 419 = .ok (.aload_n 0, 1) := by decide +kernel
theorem dX12_step_420 : decode cX12_step 420 = .ok (.bipush 59, 2) := by decide +kernel
theorem dX12_step_422 : decode cX12_step 422 = .ok (.invokevirtual 227, 3) := by decide +kernel
theorem dX12_step_425 : decode cX12_step 425 = .ok (.ireturn, 1) := by decide +kernel
theorem dX12_rule_0 : decode cX12_rule 0 = .ok (.aload_n 0, 1) := by decide +kernel
theorem dX12_rule_1 : decode cX12_rule 1 = .ok (.iload_n 1, 1) := by decide +kernel
theorem dX12_rule_2 : decode cX12_rule 2 = .ok (.sipush 300, 3) := by decide +kernel
theorem dX12_rule_5 : decode cX12_rule 5 = .ok (.invokevirtual 230, 3) := by decide +kernel
theorem dX12_rule_8 : decode cX12_rule 8 = .ok (.ifCond .ne 9, 3) := by decide +kernel
theorem dX12_rule_11 : decode cX12_rule 11 = .ok (.aload_n 0, 1) := by decide +kernel
theorem dX12_rule_12 : decode cX12_rule 12 = .ok (.iconst 1, 1) := by decide +kernel
theorem dX12_rule_13 : decode cX12_rule 13 = .ok (.invokevirtual 185, 3) := by decide +kernel
theorem dX12_rule_16 : decode cX12_rule 16 = .ok (.ireturn, 1) := by decide +kernel
theorem dX12_rule_17 : decode cX12_rule 17 = .ok (.aload_n 0, 1) := by decide +kernel
theorem dX12_rule_18 : decode cX12_rule 18 = .ok (.getfield 7, 3) := by decide +kernel
theorem dX12_rule_21 : decode cX12_rule 21 = .ok (.sipush 1774, 3) := by decide +kernel
theorem dX12_rule_24 : decode cX12_rule 24 = .ok (.iconst 0, 1) := by decide +kernel
theorem dX12_rule_25 : decode cX12_rule 25 = .ok (.iastore, 1) := by decide +kernel
theorem dX12_rule_26 : decode cX12_rule 26 = .ok (.aload_n 0, 1) := by decide +kernel
theorem dX12_rule_27 : decode cX12_rule 27 = .ok (.iconst 0, 1) := by decide +kernel
theorem dX12_rule_28 : decode cX12_rule 28 = .ok (.putfield 251, 3) := by decide +kernel
theorem dX12_rule_31 : decode cX12_rule 31 = .ok (.aload_n 0, 1) := by decide +kernel
theorem dX12_rule_32 : decode cX12_rule 32 = .ok (.iconst 0, 1) := by decide +kernel
theorem dX12_rule_33 : decode cX12_rule 33 = .ok (.putfield 254, 3) := by decide +kernel
theorem dX12_rule_36 : decode cX12_rule 36 = .ok (.iconst 1, 1) := by decide +kernel
theorem dX12_rule_37 : decode cX12_rule 37 = .ok (.istore_n 2, 1) := by decide +kernel
theorem dX12_rule_38 : decode cX12_rule 38 = .ok (.iload_n 2, 1) := by decide +kernel
theorem dX12_rule_39 : decode cX12_rule 39 = .ok (.ifCond .eq 18, 3) := by decide +kernel
theorem dX12_rule_42 : decode cX12_rule 42 = .ok (.aload_n 0, 1) := by decide +kernel
theorem dX12_rule_43 : decode cX12_rule 43 = .ok (.getfield 137, 3) := by decide +kernel
theorem dX12_rule_46 : decode cX12_rule 46 = .ok (.ifCond .eq 11, 3) := by decide +kernel
theorem dX12_rule_49 : decode cX12_rule 49 = .ok (.aload_n 0, 1) := by decide +kernel
theorem dX12_rule_50 : decode cX12_rule 50 = .ok (.invokevirtual 260, 3) := by decide +kernel
theorem dX12_rule_53 : decode cX12_rule 53 = .ok (.istore_n 2, 1) := by decide +kernel
theorem dX12_rule_54 : decode cX12_rule 54 = .ok (.goto (-16), 3) := by decide +kernel
theorem dX12_rule_57 : decode cX12_rule 57 = .ok (.aload_n 0, 1) := by decide +kernel
theorem dX12_rule_58 : decode cX12_rule 58 = .ok (.getfield 162, 3) := by decide +kernel
theorem dX12_rule_61 : decode cX12_rule 61 = .ok (.ifCond .ne 16, 3) := by decide +kernel
theorem dX12_rule_64 : decode cX12_rule 64 = .ok (.aload_n 0, 1) := by decide +kernel
theorem dX12_rule_65 : decode cX12_rule 65 = .ok (.getfield 251, 3) := by decide +kernel
theorem dX12_rule_68 : decode cX12_rule 68 = .ok (.ifCond .le 9, 3) := by decide +kernel
theorem dX12_rule_71 : decode cX12_rule 71 = .ok (.aload_n 0, 1) := by decide +kernel
theorem dX12_rule_72 : decode cX12_rule 72 = .ok (.iconst 2, 1) := by decide +kernel
theorem dX12_rule_73 : decode cX12_rule 73 = .ok (.invokevirtual 174, 3) := by decide +kernel
theorem dX12_rule_76 : decode cX12_rule 76 = .ok (.pop, 1) := by decide +kernel
theorem dX12_rule_77 : decode cX12_rule 77 = .ok (.aload_n 0, 1) := by decide +kernel
theorem dX12_rule_78 : decode cX12_rule 78 = .ok (.getfield 162, 3) := by decide +kernel
theorem dX12_rule_81 : decode cX12_rule 81 = .ok (.ifCond .ne 51, 3) := by decide +kernel
theorem dX12_rule_84 : decode cX12_rule 84 = .ok (.aload_n 0, 1) := by decide +kernel
theorem dX12_rule_85 : decode cX12_rule 85 = .ok (.getfield 7, 3) := by decide +kernel
theorem dX12_rule_88 : decode cX12_rule 88 = .ok (.bipush 14, 2) := by decide +kernel
theorem dX12_rule_90 : decode cX12_rule 90 = .ok (.aload_n 0, 1) := by decide +kernel
theorem dX12_rule_91 : decode cX12_rule 91 = .ok (.getfield 7, 3) := by decide +kernel
theorem dX12_rule_94 : decode cX12_rule 94 = .ok (.sipush 1774, 3) := by decide +kernel
theorem dX12_rule_97 : decode cX12_rule 97 = .ok (.iaload, 1) := by decide +kernel
theorem dX12_rule_98 : decode cX12_rule 98 = .ok (.iastore, 1) := by decide +kernel
theorem dX12_rule_99 : decode cX12_rule 99 = .ok (.sipush 200, 3) := by decide +kernel
theorem dX12_rule_102 : decode cX12_rule 102 = .ok (.istore_n 3, 1) := by decide +kernel
theorem dX12_rule_103 : decode cX12_rule 103 = .ok (.iload_n 3, 1) := by decide +kernel
theorem dX12_rule_104 : decode cX12_rule 104 = .ok (.sipush 440, 3) := by decide +kernel
theorem dX12_rule_107 : decode cX12_rule 107 = .ok (.if_icmp .ge 25, 3) := by decide +kernel
theorem dX12_rule_110 : decode cX12_rule 110 = .ok (.aload_n 0, 1) := by decide +kernel
theorem dX12_rule_111 : decode cX12_rule 111 = .ok (.getfield 7, 3) := by decide +kernel
theorem dX12_rule_114 : decode cX12_rule 114 = .ok (.iload_n 3, 1) := by decide +kernel
theorem dX12_rule_115 : decode cX12_rule 115 = .ok (.aload_n 0, 1) := by decide +kernel
theorem dX12_rule_116 : decode cX12_rule 116 = .ok (.getfield 7, 3) := by decide +kernel
theorem dX12_rule_119 : decode cX12_rule 119 = .ok (.sipush 1760, 3) := by decide +kernel
theorem dX12_rule_122 : decode cX12_rule 122 = .ok (.iload_n 3, 1) := by decide +kernel
theorem dX12_rule_123 : decode cX12_rule 123 = .ok (.iadd, 1) := by decide +kernel
theorem dX12_rule_124 : decode cX12_rule 124 = .ok (.iaload, 1) := by decide +kernel
theorem dX12_rule_125 : decode cX12_rule 125 = .ok (.iastore, 1) := by decide +kernel
theorem dX12_rule_126 : decode cX12_rule 126 = .ok (.iinc 3 1, 3) := by decide +kernel
theorem dX12_rule_129 : decode cX12_rule 129 = .ok (.goto (-26), 3) := by decide +kernel
theorem dX12_rule_132 : decode cX12_rule 132 = .ok (.aload_n 0, 1) := by decide +kernel
theorem dX12_rule_133 : decode cX12_rule 133 = .ok (.aload_n 0, 1) := by decide +kernel
theorem dX12_rule_134 : decode cX12_rule 134 = .ok (.getfield 254, 3) := by decide +kernel
theorem dX12_rule_137 : decode cX12_rule 137 = .ok (.invokevirtual 246, 3) := by decide +kernel
theorem dX12_rule_140 : decode cX12_rule 140 = .ok (.ireturn, 1) := by decide +kernel
theorem dX12_cells_0 : decode cX12_cells 0 = .ok (.aload_n 0, 1) := by decide +kernel
theorem dX12_cells_1 : decode cX12_cells 1 = .ok (.getfield 7, 3) := by decide +kernel
theorem dX12_cells_4 : decode cX12_cells 4 = .ok (.iconst 0, 1) := by decide +kernel
theorem dX12_cells_5 : decode cX12_cells 5 = .ok (.iaload, 1) := by decide +kernel
theorem dX12_cells_6 : decode cX12_cells 6 = .ok (.aload_n 0, 1) := by decide +kernel
theorem dX12_cells_7 : decode cX12_cells 7 = .ok (.getfield 7, 3) := by decide +kernel
theorem dX12_cells_10 : decode cX12_cells 10 = .ok (.iconst 1, 1) := by decide +kernel
theorem dX12_cells_11 : decode cX12_cells 11 = .ok (.iaload, 1) := by decide +kernel
theorem dX12_cells_12 : decode cX12_cells 12 = .ok (.imul, 1) := by decide +kernel
theorem dX12_cells_13 : decode cX12_cells 13 = .ok (.ireturn, 1) := by decide +kernel
theorem dX12_isCell_0 : decode cX12_isCell 0 = .ok (.lload_n 1, 1) := by decide +kernel
theorem dX12_isCell_1 : decode cX12_isCell 1 = .ok (.lconst 0, 1) := by decide +kernel
theorem dX12_isCell_2 : decode cX12_isCell 2 = .ok (.lcmp, 1) := by decide +kernel
theorem dX12_isCell_3 : decode cX12_isCell 3 = .ok (.ifCond .lt 17, 3) := by decide +kernel
theorem dX12_isCell_6 : decode cX12_isCell 6 = .ok (.lload_n 1, 1) := by decide +kernel
theorem dX12_isCell_7 : decode cX12_isCell 7 = .ok (.aload_n 0, 1) := by decide +kernel
theorem dX12_isCell_8 : decode cX12_isCell 8 = .ok (.invokevirtual 243, 3) := by decide +kernel
theorem dX12_isCell_11 : decode cX12_isCell 11 = .ok (.i2l, 1) := by decide +kernel
theorem dX12_isCell_12 : decode cX12_isCell 12 = .ok (.lcmp, 1) := by decide +kernel
theorem dX12_isCell_13 : decode cX12_isCell 13 = .ok (.ifCond .ge 7, 3) := by decide +kernel
theorem dX12_isCell_16 : decode cX12_isCell 16 = .ok (.iconst 1, 1) := by decide +kernel
theorem dX12_isCell_17 : decode cX12_isCell 17 = .ok (.goto 4, 3) := by decide +kernel
theorem dX12_isCell_20 : decode cX12_isCell 20 = .ok (.iconst 0, 1) := by decide +kernel
theorem dX12_isCell_21 : decode cX12_isCell 21 = .ok (.ireturn, 1) := by decide +kernel
theorem dX12_isBar_0 : decode cX12_isBar 0 = .ok (.iload_n 1, 1) := by decide +kernel
theorem dX12_isBar_1 : decode cX12_isBar 1 = .ok (.ifCond .lt 17, 3) := by decide +kernel
theorem dX12_isBar_4 : decode cX12_isBar 4 = .ok (.iload_n 1, 1) := by decide +kernel
theorem dX12_isBar_5 : decode cX12_isBar 5 = .ok (.aload_n 0, 1) := by decide +kernel
theorem dX12_isBar_6 : decode cX12_isBar 6 = .ok (.getfield 7, 3) := by decide +kernel
theorem dX12_isBar_9 : decode cX12_isBar 9 = .ok (.iconst 2, 1) := by decide +kernel
theorem dX12_isBar_10 : decode cX12_isBar 10 = .ok (.iaload, 1) := by decide +kernel
theorem dX12_isBar_11 : decode cX12_isBar 11 = .ok (.if_icmp .ge 7, 3) := by decide +kernel
theorem dX12_isBar_14 : decode cX12_isBar 14 = .ok (.iconst 1, 1) := by decide +kernel
theorem dX12_isBar_15 : decode cX12_isBar 15 = .ok (.goto 4, 3) := by decide +kernel
theorem dX12_isBar_18 : decode cX12_isBar 18 = .ok (.iconst 0, 1) := by decide +kernel
theorem dX12_isBar_19 : decode cX12_isBar 19 = .ok (.ireturn, 1) := by decide +kernel
theorem dX12_sets_0 : decode cX12_sets 0 = .ok (.iconst 1, 1) := by decide +kernel
theorem dX12_sets_1 : decode cX12_sets 1 = .ok (.aload_n 0, 1) := by decide +kernel
theorem dX12_sets_2 : decode cX12_sets 2 = .ok (.getfield 7, 3) := by decide +kernel
theorem dX12_sets_5 : decode cX12_sets 5 = .ok (.iconst 2, 1) := by decide +kernel
theorem dX12_sets_6 : decode cX12_sets 6 = .ok (.iaload, 1) := by decide +kernel
theorem dX12_sets_7 : decode cX12_sets 7 = .ok (.ishl, 1) := by decide +kernel
theorem dX12_sets_8 : decode cX12_sets 8 = .ok (.ireturn, 1) := by decide +kernel
theorem dX12_isSet_0 : decode cX12_isSet 0 = .ok (.iload_n 1, 1) := by decide +kernel
theorem dX12_isSet_1 : decode cX12_isSet 1 = .ok (.ifCond .lt 15, 3) := by decide +kernel
theorem dX12_isSet_4 : decode cX12_isSet 4 = .ok (.iload_n 1, 1) := by decide +kernel
theorem dX12_isSet_5 : decode cX12_isSet 5 = .ok (.aload_n 0, 1) := by decide +kernel
theorem dX12_isSet_6 : decode cX12_isSet 6 = .ok (.invokevirtual 263, 3) := by decide +kernel
theorem dX12_isSet_9 : decode cX12_isSet 9 = .ok (.if_icmp .ge 7, 3) := by decide +kernel
theorem dX12_isSet_12 : decode cX12_isSet 12 = .ok (.iconst 1, 1) := by decide +kernel
theorem dX12_isSet_13 : decode cX12_isSet 13 = .ok (.goto 4, 3) := by decide +kernel
theorem dX12_isSet_16 : decode cX12_isSet 16 = .ok (.iconst 0, 1) := by decide +kernel
theorem dX12_isSet_17 : decode cX12_isSet 17 = .ok (.ireturn, 1) := by decide +kernel
theorem dX12_ofBar_0 : decode cX12_ofBar 0 = .ok (.aload_n 0, 1) := by decide +kernel
theorem dX12_ofBar_1 : decode cX12_ofBar 1 = .ok (.getfield 7, 3) := by decide +kernel
theorem dX12_ofBar_4 : decode cX12_ofBar 4 = .ok (.bipush 28, 2) := by decide +kernel
theorem dX12_ofBar_6 : decode cX12_ofBar 6 = .ok (.iconst 4, 1) := by decide +kernel
theorem dX12_ofBar_7 : decode cX12_ofBar 7 = .ok (.iload_n 1, 1) := by decide +kernel
theorem dX12_ofBar_8 : decode cX12_ofBar 8 = .ok (.imul, 1) := by decide +kernel
theorem dX12_ofBar_9 : decode cX12_ofBar 9 = .ok (.iadd, 1) := by decide +kernel
theorem dX12_ofBar_10 : decode cX12_ofBar 10 = .ok (.iload_n 2, 1) := by decide +kernel
theorem dX12_ofBar_11 : decode cX12_ofBar 11 = .ok (.iadd, 1) := by decide +kernel
theorem dX12_ofBar_12 : decode cX12_ofBar 12 = .ok (.iaload, 1) := by decide +kernel
theorem dX12_ofBar_13 : decode cX12_ofBar 13 = .ok (.ireturn, 1) := by decide +kernel
theorem dX12_stageOf_0 : decode cX12_stageOf 0 = .ok (.iload_n 1, 1) := by decide +kernel
theorem dX12_stageOf_1 : decode cX12_stageOf 1 = .ok (.aload_n 0, 1) := by decide +kernel
theorem dX12_stageOf_2 : decode cX12_stageOf 2 = .ok (.getfield 7, 3) := by decide +kernel
theorem dX12_stageOf_5 : decode cX12_stageOf 5 = .ok (.bipush 13, 2) := by decide +kernel
theorem dX12_stageOf_7 : decode cX12_stageOf 7 = .ok (.iaload, 1) := by decide +kernel
theorem dX12_stageOf_8 : decode cX12_stageOf 8 = .ok (.if_icmp .ge 15, 3) := by decide +kernel
theorem dX12_stageOf_11 : decode cX12_stageOf 11 = .ok (.aload_n 0, 1) := by decide +kernel
theorem dX12_stageOf_12 : decode cX12_stageOf 12 = .ok (.getfield 7, 3) := by decide +kernel
theorem dX12_stageOf_15 : decode cX12_stageOf 15 = .ok (.bipush 16, 2) := by decide +kernel
theorem dX12_stageOf_17 : decode cX12_stageOf 17 = .ok (.iload_n 1, 1) := by decide +kernel
theorem dX12_stageOf_18 : decode cX12_stageOf 18 = .ok (.iadd, 1) := by decide +kernel
theorem dX12_stageOf_19 : decode cX12_stageOf 19 = .ok (.iaload, 1) := by decide +kernel
theorem dX12_stageOf_20 : decode cX12_stageOf 20 = .ok (.goto 4, 3) := by decide +kernel
theorem dX12_stageOf_23 : decode cX12_stageOf 23 = .ok (.iconst 0, 1) := by decide +kernel
theorem dX12_stageOf_24 : decode cX12_stageOf 24 = .ok (.ireturn, 1) := by decide +kernel
theorem dX12_cellOf_0 : decode cX12_cellOf 0 = .ok (.iconst 0, 1) := by decide +kernel
theorem dX12_cellOf_1 : decode cX12_cellOf 1 = .ok (.istore_n 2, 1) := by decide +kernel
theorem dX12_cellOf_2 : decode cX12_cellOf 2 = .ok (.iload_n 2, 1) := by decide +kernel
theorem dX12_cellOf_3 : decode cX12_cellOf 3 = .ok (.aload_n 0, 1) := by decide +kernel
theorem dX12_cellOf_4 : decode cX12_cellOf 4 = .ok (.invokevirtual 243, 3) := by decide +kernel
theorem dX12_cellOf_7 : decode cX12_cellOf 7 = .ok (.if_icmp .ge 24, 3) := by decide +kernel
theorem dX12_cellOf_10 : decode cX12_cellOf 10 = .ok (.aload_n 0, 1) := by decide +kernel
theorem dX12_cellOf_11 : decode cX12_cellOf 11 = .ok (.getfield 7, 3) := by decide +kernel
theorem dX12_cellOf_14 : decode cX12_cellOf 14 = .ok (.bipush 108, 2) := by decide +kernel
theorem dX12_cellOf_16 : decode cX12_cellOf 16 = .ok (.iload_n 2, 1) := by decide +kernel
theorem dX12_cellOf_17 : decode cX12_cellOf 17 = .ok (.iadd, 1) := by decide +kernel
theorem dX12_cellOf_18 : decode cX12_cellOf 18 = .ok (.iaload, 1) := by decide +kernel
theorem dX12_cellOf_19 : decode cX12_cellOf 19 = .ok (.iload_n 1, 1) := by decide +kernel
theorem dX12_cellOf_20 : decode cX12_cellOf 20 = .ok (.if_icmp .ne 5, 3) := by decide +kernel
theorem dX12_cellOf_23 : decode cX12_cellOf 23 = .ok (.iload_n 2, 1) := by decide +kernel
theorem dX12_cellOf_24 : decode cX12_cellOf 24 = .ok (.ireturn, 1) := by decide +kernel
theorem dX12_cellOf_25 : decode cX12_cellOf 25 = .ok (.iinc 2 1, 3) := by decide +kernel
theorem dX12_cellOf_28 : decode cX12_cellOf 28 = .ok (.goto (-26), 3) := by decide +kernel
theorem dX12_cellOf_31 : decode cX12_cellOf 31 = .ok (.iconst (-1), 1) := by decide +kernel
theorem dX12_cellOf_32 : decode cX12_cellOf 32 = .ok (.ireturn, 1) := by decide +kernel
theorem dX12_told_0 : decode cX12_told 0 = .ok (.iload_n 1, 1) := by decide +kernel
theorem dX12_told_1 : decode cX12_told 1 = .ok (.ifCond .lt 9, 3) := by decide +kernel
theorem dX12_told_4 : decode cX12_told 4 = .ok (.iload_n 1, 1) := by decide +kernel
theorem dX12_told_5 : decode cX12_told 5 = .ok (.bipush 12, 2) := by decide +kernel
theorem dX12_told_7 : decode cX12_told 7 = .ok (.if_icmp .le 11, 3) := by decide +kernel
theorem dX12_told_10 : decode cX12_told 10 = .ok (.aload_n 0, 1) := by decide +kernel
theorem dX12_told_11 : decode cX12_told 11 = .ok (.iconst 1, 1) := by decide +kernel
theorem dX12_told_12 : decode cX12_told 12 = .ok (.invokevirtual 185, 3) := by decide +kernel
theorem dX12_told_15 : decode cX12_told 15 = .ok (.goto 13, 3) := by decide +kernel
theorem dX12_told_18 : decode cX12_told 18 = .ok (.aload_n 0, 1) := by decide +kernel
theorem dX12_told_19 : decode cX12_told 19 = .ok (.aload_n 0, 1) := by decide +kernel
theorem dX12_told_20 : decode cX12_told 20 = .ok (.getfield 7, 3) := by decide +kernel
theorem dX12_told_23 : decode cX12_told 23 = .ok (.iload_n 1, 1) := by decide +kernel
theorem dX12_told_24 : decode cX12_told 24 = .ok (.iaload, 1) := by decide +kernel
theorem dX12_told_25 : decode cX12_told 25 = .ok (.invokevirtual 188, 3) := by decide +kernel
theorem dX12_told_28 : decode cX12_told 28 = .ok (.ireturn, 1) := by decide +kernel
theorem dX12_bar_0 : decode cX12_bar 0 = .ok (.aload_n 0, 1) := by decide +kernel
theorem dX12_bar_1 : decode cX12_bar 1 = .ok (.iload_n 1, 1) := by decide +kernel
theorem dX12_bar_2 : decode cX12_bar 2 = .ok (.invokevirtual 266, 3) := by decide +kernel
theorem dX12_bar_5 : decode cX12_bar 5 = .ok (.ifCond .eq 12, 3) := by decide +kernel
theorem dX12_bar_8 : decode cX12_bar 8 = .ok (.iload_n 2, 1) := by decide +kernel
theorem dX12_bar_9 : decode cX12_bar 9 = .ok (.ifCond .lt 8, 3) := by decide +kernel
theorem dX12_bar_12 : decode cX12_bar 12 = .ok (.iload_n 2, 1) := by decide +kernel
theorem dX12_bar_13 : decode cX12_bar 13 = .ok (.iconst 5, 1) := by decide +kernel
theorem dX12_bar_14 : decode cX12_bar 14 = .ok (.if_icmp .le 9, 3) := by decide +kernel
theorem dX12_bar_17 : decode cX12_bar 17 = .ok (.aload_n 0, 1) := by decide +kernel
theorem dX12_bar_18 : decode cX12_bar 18 = .ok (.iconst 1, 1) := by decide +kernel
theorem dX12_bar_19 : decode cX12_bar 19 = .ok (.invokevirtual 185, 3) := by decide +kernel
theorem dX12_bar_22 : decode cX12_bar 22 = .ok (.ireturn, 1) := by decide +kernel
theorem dX12_bar_23 : decode cX12_bar 23 = .ok (.iload_n 2, 1) := by decide +kernel
theorem dX12_bar_24 : decode cX12_bar 24 = .ok (.iconst 4, 1) := by decide +kernel
theorem dX12_bar_25 : decode cX12_bar 25 = .ok (.if_icmp .ge 14, 3) := by decide +kernel
theorem dX12_bar_28 : decode cX12_bar 28 = .ok (.aload_n 0, 1) := by decide +kernel
theorem dX12_bar_29 : decode cX12_bar 29 = .ok (.aload_n 0, 1) := by decide +kernel
theorem dX12_bar_30 : decode cX12_bar 30 = .ok (.iload_n 1, 1) := by decide +kernel
theorem dX12_bar_31 : decode cX12_bar 31 = .ok (.iload_n 2, 1) := by decide +kernel
theorem dX12_bar_32 : decode cX12_bar 32 = .ok (.invokevirtual 269, 3) := by decide +kernel
theorem dX12_bar_35 : decode cX12_bar 35 = .ok (.invokevirtual 188, 3) := by decide +kernel
theorem dX12_bar_38 : decode cX12_bar 38 = .ok (.ireturn, 1) := by decide +kernel
theorem dX12_bar_39 : decode cX12_bar 39 = .ok (.iload_n 2, 1) := by decide +kernel
theorem dX12_bar_40 : decode cX12_bar 40 = .ok (.iconst 5, 1) := by decide +kernel
theorem dX12_bar_41 : decode cX12_bar 41 = .ok (.if_icmp .ne 31, 3) := by decide +kernel
theorem dX12_bar_44 : decode cX12_bar 44 = .ok (.aload_n 0, 1) := by decide +kernel
theorem dX12_bar_45 : decode cX12_bar 45 = .ok (.iload_n 1, 1) := by decide +kernel
theorem dX12_bar_46 : decode cX12_bar 46 = .ok (.invokevirtual 272, 3) := by decide +kernel
theorem dX12_bar_49 : decode cX12_bar 49 = .ok (.iconst (-1), 1) := by decide +kernel
theorem dX12_bar_50 : decode cX12_bar 50 = .ok (.if_icmp .ne 12, 3) := by decide +kernel
theorem dX12_bar_53 : decode cX12_bar 53 = .ok (.aload_n 0, 1) := by decide +kernel
theorem dX12_bar_54 : decode cX12_bar 54 = .ok (.bipush 6, 2) := by decide +kernel
theorem dX12_bar_56 : decode cX12_bar 56 = .ok (.invokevirtual 185, 3) := by decide +kernel
theorem dX12_bar_59 : decode cX12_bar 59 = .ok (.goto 12, 3) := by decide +kernel
theorem dX12_bar_62 : decode cX12_bar 62 = .ok (.aload_n 0, 1) := by decide +kernel
theorem dX12_bar_63 : decode cX12_bar 63 = .ok (.aload_n 0, 1) := by decide +kernel
theorem dX12_bar_64 : decode cX12_bar 64 = .ok (.iload_n 1, 1) := by decide +kernel
theorem dX12_bar_65 : decode cX12_bar 65 = .ok (.invokevirtual 272, 3) := by decide +kernel
theorem dX12_bar_68 : decode cX12_bar 68 = .ok (.invokevirtual 188, 3) := by decide +kernel
theorem dX12_bar_71 : decode cX12_bar 71 = .ok (.ireturn, 1) := by decide +kernel
theorem dX12_bar_72 : decode cX12_bar 72 = .ok (.iconst 0, 1) := by decide +kernel
theorem dX12_bar_73 : decode cX12_bar 73 = .ok (.istore_n 3, 1) := by decide +kernel
theorem dX12_bar_74 : decode cX12_bar 74 = .ok (.iconst 0, 1) := by decide +kernel
theorem dX12_bar_75 : decode cX12_bar 75 = .ok (.istore 4, 2) := by decide +kernel
theorem dX12_bar_77 : decode cX12_bar 77 = .ok (.iload 4, 2) := by decide +kernel
theorem dX12_bar_79 : decode cX12_bar 79 = .ok (.aload_n 0, 1) := by decide +kernel
theorem dX12_bar_80 : decode cX12_bar 80 = .ok (.invokevirtual 243, 3) := by decide +kernel
theorem dX12_bar_83 : decode cX12_bar 83 = .ok (.if_icmp .ge 31, 3) := by decide +kernel
theorem dX12_bar_86 : decode cX12_bar 86 = .ok (.iload_n 3, 1) := by decide +kernel
theorem dX12_bar_87 : decode cX12_bar 87 = .ok (.aload_n 0, 1) := by decide +kernel
theorem dX12_bar_88 : decode cX12_bar 88 = .ok (.getfield 7, 3) := by decide +kernel
theorem dX12_bar_91 : decode cX12_bar 91 = .ok (.bipush 108, 2) := by decide +kernel
theorem dX12_bar_93 : decode cX12_bar 93 = .ok (.iload 4, 2) := by decide +kernel
theorem dX12_bar_95 : decode cX12_bar 95 = .ok (.iadd, 1) := by decide +kernel
theorem dX12_bar_96 : decode cX12_bar 96 = .ok (.iaload, 1) := by decide +kernel
theorem dX12_bar_97 : decode cX12_bar 97 = .ok (.iload_n 1, 1) := by decide +kernel
theorem dX12_bar_98 : decode cX12_bar 98 = .ok (.if_icmp .ne 7, 3) := by decide +kernel
theorem dX12_bar_101 : decode cX12_bar 101 = .ok (.iconst 1, 1) := by decide +kernel
theorem dX12_bar_102 : decode cX12_bar 102 = .ok (.goto 4, 3) := by decide +kernel
theorem dX12_bar_105 : decode cX12_bar 105 = .ok (.iconst 0, 1) := by decide +kernel
theorem dX12_bar_106 : decode cX12_bar 106 = .ok (.iadd, 1) := by decide +kernel
theorem dX12_bar_107 : decode cX12_bar 107 = .ok (.istore_n 3, 1) := by decide +kernel
theorem dX12_bar_108 : decode cX12_bar 108 = .ok (.iinc 4 1, 3) := by decide +kernel
theorem dX12_bar_111 : decode cX12_bar 111 = .ok (.goto (-34), 3) := by decide +kernel
theorem dX12_bar_114 : decode cX12_bar 114 = .ok (.aload_n 0, 1) := by decide +kernel
theorem dX12_bar_115 : decode cX12_bar 115 = .ok (.iload_n 3, 1) := by decide +kernel
theorem dX12_bar_116 : decode cX12_bar 116 = .ok (.invokevirtual 188, 3) := by decide +kernel
theorem dX12_bar_119 : decode cX12_bar 119 = .ok (.ireturn, 1) := by decide +kernel
theorem dX12_barOf_0 : decode cX12_barOf 0 = .ok (.aload_n 0, 1) := by decide +kernel
theorem dX12_barOf_1 : decode cX12_barOf 1 = .ok (.iload_n 1, 1) := by decide +kernel
theorem dX12_barOf_2 : decode cX12_barOf 2 = .ok (.i2l, 1) := by decide +kernel
theorem dX12_barOf_3 : decode cX12_barOf 3 = .ok (.invokevirtual 275, 3) := by decide +kernel
theorem dX12_barOf_6 : decode cX12_barOf 6 = .ok (.ifCond .ne 11, 3) := by decide +kernel
theorem dX12_barOf_9 : decode cX12_barOf 9 = .ok (.aload_n 0, 1) := by decide +kernel
theorem dX12_barOf_10 : decode cX12_barOf 10 = .ok (.iconst 1, 1) := by decide +kernel
theorem dX12_barOf_11 : decode cX12_barOf 11 = .ok (.invokevirtual 185, 3) := by decide +kernel
theorem dX12_barOf_14 : decode cX12_barOf 14 = .ok (.goto 38, 3) := by decide +kernel
theorem dX12_barOf_17 : decode cX12_barOf 17 = .ok (.aload_n 0, 1) := by decide +kernel
theorem dX12_barOf_18 : decode cX12_barOf 18 = .ok (.getfield 7, 3) := by decide +kernel
theorem dX12_barOf_21 : decode cX12_barOf 21 = .ok (.bipush 108, 2) := by decide +kernel
theorem dX12_barOf_23 : decode cX12_barOf 23 = .ok (.iload_n 1, 1) := by decide +kernel
theorem dX12_barOf_24 : decode cX12_barOf 24 = .ok (.iadd, 1) := by decide +kernel
theorem dX12_barOf_25 : decode cX12_barOf 25 = .ok (.iaload, 1) := by decide +kernel
theorem dX12_barOf_26 : decode cX12_barOf 26 = .ok (.iconst (-1), 1) := by decide +kernel
theorem dX12_barOf_27 : decode cX12_barOf 27 = .ok (.if_icmp .ne 12, 3) := by decide +kernel
theorem dX12_barOf_30 : decode cX12_barOf 30 = .ok (.aload_n 0, 1) := by decide +kernel
theorem dX12_barOf_31 : decode cX12_barOf 31 = .ok (.bipush 6, 2) := by decide +kernel
theorem dX12_barOf_33 : decode cX12_barOf 33 = .ok (.invokevirtual 185, 3) := by decide +kernel
theorem dX12_barOf_36 : decode cX12_barOf 36 = .ok (.goto 16, 3) := by decide +kernel
theorem dX12_barOf_39 : decode cX12_barOf 39 = .ok (.aload_n 0, 1) := by decide +kernel
theorem dX12_barOf_40 : decode cX12_barOf 40 = .ok (.aload_n 0, 1) := by decide +kernel
theorem dX12_barOf_41 : decode cX12_barOf 41 = .ok (.getfield 7, 3) := by decide +kernel
theorem dX12_barOf_44 : decode cX12_barOf 44 = .ok (.bipush 108, 2) := by decide +kernel
theorem dX12_barOf_46 : decode cX12_barOf 46 = .ok (.iload_n 1, 1) := by decide +kernel
theorem dX12_barOf_47 : decode cX12_barOf 47 = .ok (.iadd, 1) := by decide +kernel
theorem dX12_barOf_48 : decode cX12_barOf 48 = .ok (.iaload, 1) := by decide +kernel
theorem dX12_barOf_49 : decode cX12_barOf 49 = .ok (.invokevirtual 188, 3) := by decide +kernel
theorem dX12_barOf_52 : decode cX12_barOf 52 = .ok (.ireturn, 1) := by decide +kernel
theorem dX12_stage_0 : decode cX12_stage 0 = .ok (.iload_n 1, 1) := by decide +kernel
theorem dX12_stage_1 : decode cX12_stage 1 = .ok (.i2l, 1) := by decide +kernel
theorem dX12_stage_2 : decode cX12_stage 2 = .ok (.lconst 0, 1) := by decide +kernel
theorem dX12_stage_3 : decode cX12_stage 3 = .ok (.ldc2_w 279, 3) := by decide +kernel
theorem dX12_stage_6 : decode cX12_stage 6 = .ok (.invokestatic 281, 3) := by decide +kernel
theorem dX12_stage_9 : decode cX12_stage 9 = .ok (.ifCond .eq 15, 3) := by decide +kernel
theorem dX12_stage_12 : decode cX12_stage 12 = .ok (.aload_n 0, 1) := by decide +kernel
theorem dX12_stage_13 : decode cX12_stage 13 = .ok (.aload_n 0, 1) := by decide +kernel
theorem dX12_stage_14 : decode cX12_stage 14 = .ok (.iload_n 1, 1) := by decide +kernel
theorem dX12_stage_15 : decode cX12_stage 15 = .ok (.invokevirtual 285, 3) := by decide +kernel
theorem dX12_stage_18 : decode cX12_stage 18 = .ok (.invokevirtual 188, 3) := by decide +kernel
theorem dX12_stage_21 : decode cX12_stage 21 = .ok (.goto 8, 3) := by decide +kernel
theorem dX12_stage_24 : decode cX12_stage 24 = .ok (.aload_n 0, 1) := by decide +kernel
theorem dX12_stage_25 : decode cX12_stage 25 = .ok (.iconst 1, 1) := by decide +kernel
theorem dX12_stage_26 : decode cX12_stage 26 = .ok (.invokevirtual 185, 3) := by decide +kernel
theorem dX12_stage_29 : decode cX12_stage 29 = .ok (.ireturn, 1) := by decide +kernel
theorem dX12_depthOf_0 : decode cX12_depthOf 0 = .ok (.aload_n 0, 1) := by decide +kernel
theorem dX12_depthOf_1 : decode cX12_depthOf 1 = .ok (.getfield 7, 3) := by decide +kernel
theorem dX12_depthOf_4 : decode cX12_depthOf 4 = .ok (.bipush 108, 2) := by decide +kernel
theorem dX12_depthOf_6 : decode cX12_depthOf 6 = .ok (.iload_n 1, 1) := by decide +kernel
theorem dX12_depthOf_7 : decode cX12_depthOf 7 = .ok (.iadd, 1) := by decide +kernel
theorem dX12_depthOf_8 : decode cX12_depthOf 8 = .ok (.iaload, 1) := by decide +kernel
theorem dX12_depthOf_9 : decode cX12_depthOf 9 = .ok (.istore_n 3, 1) := by decide +kernel
theorem dX12_depthOf_10 : decode cX12_depthOf 10 = .ok (.aload_n 0, 1) := by decide +kernel
theorem dX12_depthOf_11 : decode cX12_depthOf 11 = .ok (.getfield 7, 3) := by decide +kernel
theorem dX12_depthOf_14 : decode cX12_depthOf 14 = .ok (.bipush 48, 2) := by decide +kernel
theorem dX12_depthOf_16 : decode cX12_depthOf 16 = .ok (.iload_n 1, 1) := by decide +kernel
theorem dX12_depthOf_17 : decode cX12_depthOf 17 = .ok (.iadd, 1) := by decide +kernel
theorem dX12_depthOf_18 : decode cX12_depthOf 18 = .ok (.iaload, 1) := by decide +kernel
theorem dX12_depthOf_19 : decode cX12_depthOf 19 = .ok (.aload_n 0, 1) := by decide +kernel
theorem dX12_depthOf_20 : decode cX12_depthOf 20 = .ok (.aload_n 0, 1) := by decide +kernel
theorem dX12_depthOf_21 : decode cX12_depthOf 21 = .ok (.getfield 7, 3) := by decide +kernel
theorem dX12_depthOf_24 : decode cX12_depthOf 24 = .ok (.iconst 3, 1) := by decide +kernel
theorem dX12_depthOf_25 : decode cX12_depthOf 25 = .ok (.iaload, 1) := by decide +kernel
theorem dX12_depthOf_26 : decode cX12_depthOf 26 = .ok (.invokevirtual 285, 3) := by decide +kernel
theorem dX12_depthOf_29 : decode cX12_depthOf 29 = .ok (.iadd, 1) := by decide +kernel
theorem dX12_depthOf_30 : decode cX12_depthOf 30 = .ok (.iload_n 3, 1) := by decide +kernel
theorem dX12_depthOf_31 : decode cX12_depthOf 31 = .ok (.iconst (-1), 1) := by decide +kernel
theorem dX12_depthOf_32 : decode cX12_depthOf 32 = .ok (.if_icmp .eq 21, 3) := by decide +kernel
theorem dX12_depthOf_35 : decode cX12_depthOf 35 = .ok (.iload_n 2, 1) := by decide +kernel
theorem dX12_depthOf_36 : decode cX12_depthOf 36 = .ok (.iload_n 3, 1) := by decide +kernel
theorem dX12_depthOf_37 : decode cX12_depthOf 37 = .ok (.ishr, 1) := by decide +kernel
theorem dX12_depthOf_38 : decode cX12_depthOf 38 = .ok (.iconst 1, 1) := by decide +kernel
theorem dX12_depthOf_39 : decode cX12_depthOf 39 = .ok (.iand, 1) := by decide +kernel
theorem dX12_depthOf_40 : decode cX12_depthOf 40 = .ok (.iconst 1, 1) := by decide +kernel
theorem dX12_depthOf_41 : decode cX12_depthOf 41 = .ok (.if_icmp .ne 12, 3) := by decide +kernel
theorem dX12_depthOf_44 : decode cX12_depthOf 44 = .ok (.aload_n 0, 1) := by decide +kernel
theorem dX12_depthOf_45 : decode cX12_depthOf 45 = .ok (.iload_n 3, 1) := by decide +kernel
theorem dX12_depthOf_46 : decode cX12_depthOf 46 = .ok (.iconst 0, 1) := by decide +kernel
theorem dX12_depthOf_47 : decode cX12_depthOf 47 = .ok (.invokevirtual 269, 3) := by decide +kernel
theorem dX12_depthOf_50 : decode cX12_depthOf 50 = .ok (.goto 4, 3) := by decide +kernel
theorem dX12_depthOf_53 : decode cX12_depthOf 53 = .ok (.iconst 0, 1) := by decide +kernel
theorem dX12_depthOf_54 : decode cX12_depthOf 54 = .ok (.isub, 1) := by decide +kernel
theorem dX12_depthOf_55 : decode cX12_depthOf 55 = .ok (.ireturn, 1) := by decide +kernel
theorem dX12_depth_0 : decode cX12_depth 0 = .ok (.aload_n 0, 1) := by decide +kernel
theorem dX12_depth_1 : decode cX12_depth 1 = .ok (.iload_n 1, 1) := by decide +kernel
theorem dX12_depth_2 : decode cX12_depth 2 = .ok (.i2l, 1) := by decide +kernel
theorem dX12_depth_3 : decode cX12_depth 3 = .ok (.invokevirtual 275, 3) := by decide +kernel
theorem dX12_depth_6 : decode cX12_depth 6 = .ok (.ifCond .eq 24, 3) := by decide +kernel
theorem dX12_depth_9 : decode cX12_depth 9 = .ok (.aload_n 0, 1) := by decide +kernel
theorem dX12_depth_10 : decode cX12_depth 10 = .ok (.iload_n 2, 1) := by decide +kernel
theorem dX12_depth_11 : decode cX12_depth 11 = .ok (.invokevirtual 288, 3) := by decide +kernel
theorem dX12_depth_14 : decode cX12_depth 14 = .ok (.ifCond .eq 16, 3) := by decide +kernel
theorem dX12_depth_17 : decode cX12_depth 17 = .ok (.aload_n 0, 1) := by decide +kernel
theorem dX12_depth_18 : decode cX12_depth 18 = .ok (.aload_n 0, 1) := by decide +kernel
theorem dX12_depth_19 : decode cX12_depth 19 = .ok (.iload_n 1, 1) := by decide +kernel
theorem dX12_depth_20 : decode cX12_depth 20 = .ok (.iload_n 2, 1) := by decide +kernel
theorem dX12_depth_21 : decode cX12_depth 21 = .ok (.invokevirtual 291, 3) := by decide +kernel
theorem dX12_depth_24 : decode cX12_depth 24 = .ok (.invokevirtual 188, 3) := by decide +kernel
theorem dX12_depth_27 : decode cX12_depth 27 = .ok (.goto 8, 3) := by decide +kernel
theorem dX12_depth_30 : decode cX12_depth 30 = .ok (.aload_n 0, 1) := by decide +kernel
theorem dX12_depth_31 : decode cX12_depth 31 = .ok (.iconst 1, 1) := by decide +kernel
theorem dX12_depth_32 : decode cX12_depth 32 = .ok (.invokevirtual 185, 3) := by decide +kernel
theorem dX12_depth_35 : decode cX12_depth 35 = .ok (.ireturn, 1) := by decide +kernel
theorem dX12_passes_0 : decode cX12_passes 0 = .ok (.aload_n 0, 1) := by decide +kernel
theorem dX12_passes_1 : decode cX12_passes 1 = .ok (.iload_n 1, 1) := by decide +kernel
theorem dX12_passes_2 : decode cX12_passes 2 = .ok (.iload_n 2, 1) := by decide +kernel
theorem dX12_passes_3 : decode cX12_passes 3 = .ok (.invokevirtual 291, 3) := by decide +kernel
theorem dX12_passes_6 : decode cX12_passes 6 = .ok (.aload_n 0, 1) := by decide +kernel
theorem dX12_passes_7 : decode cX12_passes 7 = .ok (.getfield 7, 3) := by decide +kernel
theorem dX12_passes_10 : decode cX12_passes 10 = .ok (.iconst 5, 1) := by decide +kernel
theorem dX12_passes_11 : decode cX12_passes 11 = .ok (.iaload, 1) := by decide +kernel
theorem dX12_passes_12 : decode cX12_passes 12 = .ok (.aload_n 0, 1) := by decide +kernel
theorem dX12_passes_13 : decode cX12_passes 13 = .ok (.getfield 7, 3) := by decide +kernel
theorem dX12_passes_16 : decode cX12_passes 16 = .ok (.iconst 4, 1) := by decide +kernel
theorem dX12_passes_17 : decode cX12_passes 17 = .ok (.iaload, 1) := by decide +kernel
theorem dX12_passes_18 : decode cX12_passes 18 = .ok (.isub, 1) := by decide +kernel
theorem dX12_passes_19 : decode cX12_passes 19 = .ok (.if_icmp .lt 7, 3) := by decide +kernel
theorem dX12_passes_22 : decode cX12_passes 22 = .ok (.iconst 1, 1) := by decide +kernel
theorem dX12_passes_23 : decode cX12_passes 23 = .ok (.goto 4, 3) := by decide +kernel
theorem dX12_passes_26 : decode cX12_passes 26 = .ok (.iconst 0, 1) := by decide +kernel
theorem dX12_passes_27 : decode cX12_passes 27 = .ok (.ireturn, 1) := by decide +kernel
theorem dX12_openOf_0 : decode cX12_openOf 0 = .ok (.aload_n 0, 1) := by decide +kernel
theorem dX12_openOf_1 : decode cX12_openOf 1 = .ok (.iload_n 1, 1) := by decide +kernel
theorem dX12_openOf_2 : decode cX12_openOf 2 = .ok (.aload_n 0, 1) := by decide +kernel
theorem dX12_openOf_3 : decode cX12_openOf 3 = .ok (.invokevirtual 263, 3) := by decide +kernel
theorem dX12_openOf_6 : decode cX12_openOf 6 = .ok (.iconst 1, 1) := by decide +kernel
theorem dX12_openOf_7 : decode cX12_openOf 7 = .ok (.isub, 1) := by decide +kernel
theorem dX12_openOf_8 : decode cX12_openOf 8 = .ok (.invokevirtual 294, 3) := by decide +kernel
theorem dX12_openOf_11 : decode cX12_openOf 11 = .ok (.ifCond .eq 7, 3) := by decide +kernel
theorem dX12_openOf_14 : decode cX12_openOf 14 = .ok (.iconst 2, 1) := by decide +kernel
theorem dX12_openOf_15 : decode cX12_openOf 15 = .ok (.goto 17, 3) := by decide +kernel
theorem dX12_openOf_18 : decode cX12_openOf 18 = .ok (.aload_n 0, 1) := by decide +kernel
theorem dX12_openOf_19 : decode cX12_openOf 19 = .ok (.iload_n 1, 1) := by decide +kernel
theorem dX12_openOf_20 : decode cX12_openOf 20 = .ok (.iconst 0, 1) := by decide +kernel
theorem dX12_openOf_21 : decode cX12_openOf 21 = .ok (.invokevirtual 294, 3) := by decide +kernel
theorem dX12_openOf_24 : decode cX12_openOf 24 = .ok (.ifCond .eq 7, 3) := by decide +kernel
theorem dX12_openOf_27 : decode cX12_openOf 27 = .ok (.iconst 1, 1) := by decide +kernel
theorem dX12_openOf_28 : decode cX12_openOf 28 = .ok (.goto 4, 3) := by decide +kernel
theorem dX12_openOf_31 : decode cX12_openOf 31 = .ok (.iconst 0, 1) := by decide +kernel
theorem dX12_openOf_32 : decode cX12_openOf 32 = .ok (.ireturn, 1) := by decide +kernel
theorem dX12_open_0 : decode cX12_open 0 = .ok (.aload_n 0, 1) := by decide +kernel
theorem dX12_open_1 : decode cX12_open 1 = .ok (.iload_n 1, 1) := by decide +kernel
theorem dX12_open_2 : decode cX12_open 2 = .ok (.i2l, 1) := by decide +kernel
theorem dX12_open_3 : decode cX12_open 3 = .ok (.invokevirtual 275, 3) := by decide +kernel
theorem dX12_open_6 : decode cX12_open 6 = .ok (.ifCond .eq 15, 3) := by decide +kernel
theorem dX12_open_9 : decode cX12_open 9 = .ok (.aload_n 0, 1) := by decide +kernel
theorem dX12_open_10 : decode cX12_open 10 = .ok (.aload_n 0, 1) := by decide +kernel
theorem dX12_open_11 : decode cX12_open 11 = .ok (.iload_n 1, 1) := by decide +kernel
theorem dX12_open_12 : decode cX12_open 12 = .ok (.invokevirtual 297, 3) := by decide +kernel
theorem dX12_open_15 : decode cX12_open 15 = .ok (.invokevirtual 188, 3) := by decide +kernel
theorem dX12_open_18 : decode cX12_open 18 = .ok (.goto 8, 3) := by decide +kernel
theorem dX12_open_21 : decode cX12_open 21 = .ok (.aload_n 0, 1) := by decide +kernel
theorem dX12_open_22 : decode cX12_open 22 = .ok (.iconst 1, 1) := by decide +kernel
theorem dX12_open_23 : decode cX12_open 23 = .ok (.invokevirtual 185, 3) := by decide +kernel
theorem dX12_open_26 : decode cX12_open 26 = .ok (.ireturn, 1) := by decide +kernel
theorem dX12_sharesOut_0 : decode cX12_sharesOut 0 = .ok (.lconst 0, 1) := by decide +kernel
theorem dX12_sharesOut_1 : decode cX12_sharesOut 1 = .ok (.lstore_n 1, 1) := by decide +kernel
theorem dX12_sharesOut_2 : decode cX12_sharesOut 2 = .ok (.iconst 0, 1) := by decide +kernel
theorem dX12_sharesOut_3 : decode cX12_sharesOut 3 = .ok (.istore_n 3, 1) := by decide +kernel
theorem dX12_sharesOut_4 : decode cX12_sharesOut 4 = .ok (.iconst 0, 1) := by decide +kernel
theorem dX12_sharesOut_5 : decode cX12_sharesOut 5 = .ok (.istore 4, 2) := by decide +kernel
theorem dX12_sharesOut_7 : decode cX12_sharesOut 7 = .ok (.iload 4, 2) := by decide +kernel
theorem dX12_sharesOut_9 : decode cX12_sharesOut 9 = .ok (.aload_n 0, 1) := by decide +kernel
theorem dX12_sharesOut_10 : decode cX12_sharesOut 10 = .ok (.invokevirtual 263, 3) := by decide +kernel
theorem dX12_sharesOut_13 : decode cX12_sharesOut 13 = .ok (.if_icmp .ge 43, 3) := by decide +kernel
theorem dX12_sharesOut_16 : decode cX12_sharesOut 16 = .ok (.lload_n 1, 1) := by decide +kernel
theorem dX12_sharesOut_17 : decode cX12_sharesOut 17 = .ok (.aload_n 0, 1) := by decide +kernel
theorem dX12_sharesOut_18 : decode cX12_sharesOut 18 = .ok (.getfield 50, 3) := by decide +kernel
theorem dX12_sharesOut_21 : decode cX12_sharesOut 21 = .ok (.iload 4, 2) := by decide +kernel
theorem dX12_sharesOut_23 : decode cX12_sharesOut 23 = .ok (.laload, 1) := by decide +kernel
theorem dX12_sharesOut_24 : decode cX12_sharesOut 24 = .ok (.ladd, 1) := by decide +kernel
theorem dX12_sharesOut_25 : decode cX12_sharesOut 25 = .ok (.lstore_n 1, 1) := by decide +kernel
theorem dX12_sharesOut_26 : decode cX12_sharesOut 26 = .ok (.aload_n 0, 1) := by decide +kernel
theorem dX12_sharesOut_27 : decode cX12_sharesOut 27 = .ok (.getfield 50, 3) := by decide +kernel
theorem dX12_sharesOut_30 : decode cX12_sharesOut 30 = .ok (.iload 4, 2) := by decide +kernel
theorem dX12_sharesOut_32 : decode cX12_sharesOut 32 = .ok (.laload, 1) := by decide +kernel
theorem dX12_sharesOut_33 : decode cX12_sharesOut 33 = .ok (.aload_n 0, 1) := by decide +kernel
theorem dX12_sharesOut_34 : decode cX12_sharesOut 34 = .ok (.getfield 50, 3) := by decide +kernel
theorem dX12_sharesOut_37 : decode cX12_sharesOut 37 = .ok (.iload_n 3, 1) := by decide +kernel
theorem dX12_sharesOut_38 : decode cX12_sharesOut 38 = .ok (.laload, 1) := by decide +kernel
theorem dX12_sharesOut_39 : decode cX12_sharesOut 39 = .ok (.lcmp, 1) := by decide +kernel
theorem dX12_sharesOut_40 : decode cX12_sharesOut 40 = .ok (.ifCond .le 8, 3) := by decide +kernel
theorem dX12_sharesOut_43 : decode cX12_sharesOut 43 = .ok (.iload 4, 2) := by decide +kernel
theorem dX12_sharesOut_45 : decode cX12_sharesOut 45 = .ok (.goto 4, 3) := by decide +kernel
theorem dX12_sharesOut_48 : decode cX12_sharesOut 48 = .ok (.iload_n 3, 1) := by decide +kernel
theorem dX12_sharesOut_49 : decode cX12_sharesOut 49 = .ok (.istore_n 3, 1) := by decide +kernel
theorem dX12_sharesOut_50 : decode cX12_sharesOut 50 = .ok (.iinc 4 1, 3) := by decide +kernel
theorem dX12_sharesOut_53 : decode cX12_sharesOut 53 = .ok (.goto (-46), 3) := by decide +kernel
theorem dX12_sharesOut_56 : decode cX12_sharesOut 56 = .ok (.lload_n 1, 1) := by decide +kernel
theorem dX12_sharesOut_57 : decode cX12_sharesOut 57 = .ok (.lconst 0, 1) := by decide +kernel
theorem dX12_sharesOut_58 : decode cX12_sharesOut 58 = .ok (.lcmp, 1) := by decide +kernel
theorem dX12_sharesOut_59 : decode cX12_sharesOut 59 = .ok (.ifCond .ne 5, 3) := by decide +kernel
theorem dX12_sharesOut_62 : decode cX12_sharesOut 62 = .ok (.iconst 0, 1) := by decide +kernel
theorem dX12_sharesOut_63 : decode cX12_sharesOut 63 = .ok (.ireturn, 1) := by decide +kernel
theorem dX12_sharesOut_64 : decode cX12_sharesOut 64 = .ok (.ldc 91, 2) := by decide +kernel
theorem dX12_sharesOut_66 : decode cX12_sharesOut 66 = .ok (.istore 4, 2) := by decide +kernel
theorem dX12_sharesOut_68 : decode cX12_sharesOut 68 = .ok (.iconst 0, 1) := by decide +kernel
theorem dX12_sharesOut_69 : decode cX12_sharesOut 69 = .ok (.istore 5, 2) := by decide +kernel
theorem dX12_sharesOut_71 : decode cX12_sharesOut 71 = .ok (.iload 5, 2) := by decide +kernel
theorem dX12_sharesOut_73 : decode cX12_sharesOut 73 = .ok (.aload_n 0, 1) := by decide +kernel
theorem dX12_sharesOut_74 : decode cX12_sharesOut 74 = .ok (.invokevirtual 263, 3) := by decide +kernel
theorem dX12_sharesOut_77 : decode cX12_sharesOut 77 = .ok (.if_icmp .ge 50, 3) := by decide +kernel
theorem dX12_sharesOut_80 : decode cX12_sharesOut 80 = .ok (.aload_n 0, 1) := by decide +kernel
theorem dX12_sharesOut_81 : decode cX12_sharesOut 81 = .ok (.getfield 7, 3) := by decide +kernel
theorem dX12_sharesOut_84 : decode cX12_sharesOut 84 = .ok (.sipush 168, 3) := by decide +kernel
theorem dX12_sharesOut_87 : decode cX12_sharesOut 87 = .ok (.iload 5, 2) := by decide +kernel
theorem dX12_sharesOut_89 : decode cX12_sharesOut 89 = .ok (.iadd, 1) := by decide +kernel
theorem dX12_sharesOut_90 : decode cX12_sharesOut 90 = .ok (.ldc2_w 300, 3) := by decide +kernel
theorem dX12_sharesOut_93 : decode cX12_sharesOut 93 = .ok (.aload_n 0, 1) := by decide +kernel
theorem dX12_sharesOut_94 : decode cX12_sharesOut 94 = .ok (.getfield 50, 3) := by decide +kernel
theorem dX12_sharesOut_97 : decode cX12_sharesOut 97 = .ok (.iload 5, 2) := by decide +kernel
theorem dX12_sharesOut_99 : decode cX12_sharesOut 99 = .ok (.laload, 1) := by decide +kernel
theorem dX12_sharesOut_100 : decode cX12_sharesOut 100 = .ok (.lmul, 1) := by decide +kernel
theorem dX12_sharesOut_101 : decode cX12_sharesOut 101 = .ok (.lload_n 1, 1) := by decide +kernel
theorem dX12_sharesOut_102 : decode cX12_sharesOut 102 = .ok (.ldiv, 1) := by decide +kernel
theorem dX12_sharesOut_103 : decode cX12_sharesOut 103 = .ok (.l2i, 1) := by decide +kernel
theorem dX12_sharesOut_104 : decode cX12_sharesOut 104 = .ok (.iastore, 1) := by decide +kernel
theorem dX12_sharesOut_105 : decode cX12_sharesOut 105 = .ok (.iload 4, 2) := by decide +kernel
theorem dX12_sharesOut_107 : decode cX12_sharesOut 107 = .ok (.aload_n 0, 1) := by decide +kernel
theorem dX12_sharesOut_108 : decode cX12_sharesOut 108 = .ok (.getfield 7, 3) := by decide +kernel
theorem dX12_sharesOut_111 : decode cX12_sharesOut 111 = .ok (.sipush 168, 3) := by decide +kernel
theorem dX12_sharesOut_114 : decode cX12_sharesOut 114 = .ok (.iload 5, 2) := by decide +kernel
theorem dX12_sharesOut_116 : decode cX12_sharesOut 116 = .ok (.iadd, 1) := by decide +kernel
theorem dX12_sharesOut_117 : decode cX12_sharesOut 117 = .ok (.iaload, 1) := by decide +kernel
theorem dX12_sharesOut_118 : decode cX12_sharesOut 118 = .ok (.isub, 1) := by decide +kernel
theorem dX12_sharesOut_119 : decode cX12_sharesOut 119 = .ok (.istore 4, 2) := by decide +kernel
theorem dX12_sharesOut_121 : decode cX12_sharesOut 121 = .ok (.iinc 5 1, 3) := by decide +kernel
theorem dX12_sharesOut_124 : decode cX12_sharesOut 124 = .ok (.goto (-53), 3) := by decide +kernel
theorem dX12_sharesOut_127 : decode cX12_sharesOut 127 = .ok (.aload_n 0, 1) := by decide +kernel
theorem dX12_sharesOut_128 : decode cX12_sharesOut 128 = .ok (.getfield 7, 3) := by decide +kernel
theorem dX12_sharesOut_131 : decode cX12_sharesOut 131 = .ok (.sipush 168, 3) := by decide +kernel
theorem dX12_sharesOut_134 : decode cX12_sharesOut 134 = .ok (.iload_n 3, 1) := by decide +kernel
theorem dX12_sharesOut_135 : decode cX12_sharesOut 135 = .ok (.iadd, 1) := by decide +kernel
theorem dX12_sharesOut_136 : decode cX12_sharesOut 136 = .ok (.dup2, 1) := by decide +kernel
theorem dX12_sharesOut_137 : decode cX12_sharesOut 137 = .ok (.iaload, 1) := by decide +kernel
theorem dX12_sharesOut_138 : decode cX12_sharesOut 138 = .ok (.iload 4, 2) := by decide +kernel
theorem dX12_sharesOut_140 : decode cX12_sharesOut 140 = .ok (.iadd, 1) := by decide +kernel
theorem dX12_sharesOut_141 : decode cX12_sharesOut 141 = .ok (.iastore, 1) := by decide +kernel
theorem dX12_sharesOut_142 : decode cX12_sharesOut 142 = .ok (.iconst 1, 1) := by decide +kernel
theorem dX12_sharesOut_143 : decode cX12_sharesOut 143 = .ok (.ireturn, 1) := by decide +kernel
theorem dX12_first_0 : decode cX12_first 0 = .ok (.iconst 0, 1) := by decide +kernel
theorem dX12_first_1 : decode cX12_first 1 = .ok (.istore_n 1, 1) := by decide +kernel
theorem dX12_first_2 : decode cX12_first 2 = .ok (.iload_n 1, 1) := by decide +kernel
theorem dX12_first_3 : decode cX12_first 3 = .ok (.aload_n 0, 1) := by decide +kernel
theorem dX12_first_4 : decode cX12_first 4 = .ok (.invokevirtual 263, 3) := by decide +kernel
theorem dX12_first_7 : decode cX12_first 7 = .ok (.if_icmp .ge 72, 3) := by decide +kernel
theorem dX12_first_10 : decode cX12_first 10 = .ok (.aload_n 0, 1) := by decide +kernel
theorem dX12_first_11 : decode cX12_first 11 = .ok (.getfield 50, 3) := by decide +kernel
theorem dX12_first_14 : decode cX12_first 14 = .ok (.iload_n 1, 1) := by decide +kernel
theorem dX12_first_15 : decode cX12_first 15 = .ok (.lconst 1, 1) := by decide +kernel
theorem dX12_first_16 : decode cX12_first 16 = .ok (.lastore, 1) := by decide +kernel
theorem dX12_first_17 : decode cX12_first 17 = .ok (.iconst 0, 1) := by decide +kernel
theorem dX12_first_18 : decode cX12_first 18 = .ok (.istore_n 2, 1) := by decide +kernel
theorem dX12_first_19 : decode cX12_first 19 = .ok (.iload_n 2, 1) := by decide +kernel
theorem dX12_first_20 : decode cX12_first 20 = .ok (.aload_n 0, 1) := by decide +kernel
theorem dX12_first_21 : decode cX12_first 21 = .ok (.getfield 7, 3) := by decide +kernel
theorem dX12_first_24 : decode cX12_first 24 = .ok (.iconst 2, 1) := by decide +kernel
theorem dX12_first_25 : decode cX12_first 25 = .ok (.iaload, 1) := by decide +kernel
theorem dX12_first_26 : decode cX12_first 26 = .ok (.if_icmp .ge 47, 3) := by decide +kernel
theorem dX12_first_29 : decode cX12_first 29 = .ok (.aload_n 0, 1) := by decide +kernel
theorem dX12_first_30 : decode cX12_first 30 = .ok (.getfield 50, 3) := by decide +kernel
theorem dX12_first_33 : decode cX12_first 33 = .ok (.iload_n 1, 1) := by decide +kernel
theorem dX12_first_34 : decode cX12_first 34 = .ok (.dup2, 1) := by decide +kernel
theorem dX12_first_35 : decode cX12_first 35 = .ok (.laload, 1) := by decide +kernel
theorem dX12_first_36 : decode cX12_first 36 = .ok (.iload_n 1, 1) := by decide +kernel
theorem dX12_first_37 : decode cX12_first 37 = .ok (.iload_n 2, 1) := by decide +kernel
theorem dX12_first_38 : decode cX12_first 38 = .ok (.ishr, 1) := by decide +kernel
theorem dX12_first_39 : decode cX12_first 39 = .ok (.iconst 1, 1) := by decide +kernel
theorem dX12_first_40 : decode cX12_first 40 = .ok (.iand, 1) := by decide +kernel
theorem dX12_first_41 : decode cX12_first 41 = .ok (.iconst 1, 1) := by decide +kernel
theorem dX12_first_42 : decode cX12_first 42 = .ok (.if_icmp .ne 13, 3) := by decide +kernel
theorem dX12_first_45 : decode cX12_first 45 = .ok (.aload_n 0, 1) := by decide +kernel
theorem dX12_first_46 : decode cX12_first 46 = .ok (.iload_n 2, 1) := by decide +kernel
theorem dX12_first_47 : decode cX12_first 47 = .ok (.iconst 1, 1) := by decide +kernel
theorem dX12_first_48 : decode cX12_first 48 = .ok (.invokevirtual 269, 3) := by decide +kernel
theorem dX12_first_51 : decode cX12_first 51 = .ok (.i2l, 1) := by decide +kernel
theorem dX12_first_52 : decode cX12_first 52 = .ok (.goto 13, 3) := by decide +kernel
theorem dX12_first_55 : decode cX12_first 55 = .ok (.bipush 16, 2) := by decide +kernel
theorem dX12_first_57 : decode cX12_first 57 = .ok (.aload_n 0, 1) := by decide +kernel
theorem dX12_first_58 : decode cX12_first 58 = .ok (.iload_n 2, 1) := by decide +kernel
theorem dX12_first_59 : decode cX12_first 59 = .ok (.iconst 1, 1) := by decide +kernel
theorem dX12_first_60 : decode cX12_first 60 = .ok (.invokevirtual 269, 3) := by decide +kernel
theorem dX12_first_63 : decode cX12_first 63 = .ok (.isub, 1) := by decide +kernel
theorem dX12_first_64 : decode cX12_first 64 = .ok (.i2l, 1) := by decide +kernel
theorem dX12_first_65 : decode cX12_first 65 = .ok (.lmul, 1) := by decide +kernel
theorem dX12_first_66 : decode cX12_first 66 = .ok (.lastore, 1) := by decide +kernel
theorem dX12_first_67 : decode cX12_first 67 = .ok (.iinc 2 1, 3) := by decide +kernel
theorem dX12_first_70 : decode cX12_first 70 = .ok (.goto (-51), 3) := by decide +kernel
theorem dX12_first_73 : decode cX12_first 73 = .ok (.iinc 1 1, 3) := by decide +kernel
theorem dX12_first_76 : decode cX12_first 76 = .ok (.goto (-74), 3) := by decide +kernel
theorem dX12_first_79 : decode cX12_first 79 = .ok (.aload_n 0, 1) := by decide +kernel
theorem dX12_first_80 : decode cX12_first 80 = .ok (.invokevirtual 302, 3) := by decide +kernel
theorem dX12_first_83 : decode cX12_first 83 = .ok (.ifCond .ne 13, 3) := by decide +kernel
theorem dX12_first_86 : decode cX12_first 86 = .ok (.aload_n 0, 1) := by decide +kernel
theorem dX12_first_87 : decode cX12_first 87 = .ok (.getfield 7, 3) := by decide +kernel
theorem dX12_first_90 : decode cX12_first 90 = .ok (.sipush 168, 3) := by decide +kernel
theorem dX12_first_93 : decode cX12_first 93 = .ok (.ldc 91, 2) := by decide +kernel
theorem dX12_first_95 : decode cX12_first 95 = .ok (.iastore, 1) := by decide +kernel
theorem dX12_first_96 : decode cX12_first 96 = .ok (.return_, 1) := by decide +kernel
theorem dX12_passDay_0 : decode cX12_passDay 0 = .ok (.iconst 0, 1) := by decide +kernel
theorem dX12_passDay_1 : decode cX12_passDay 1 = .ok (.istore_n 3, 1) := by decide +kernel
theorem dX12_passDay_2 : decode cX12_passDay 2 = .ok (.iload_n 3, 1) := by decide +kernel
theorem dX12_passDay_3 : decode cX12_passDay 3 = .ok (.aload_n 0, 1) := by decide +kernel
theorem dX12_passDay_4 : decode cX12_passDay 4 = .ok (.invokevirtual 263, 3) := by decide +kernel
theorem dX12_passDay_7 : decode cX12_passDay 7 = .ok (.if_icmp .ge 26, 3) := by decide +kernel
theorem dX12_passDay_10 : decode cX12_passDay 10 = .ok (.aload_n 0, 1) := by decide +kernel
theorem dX12_passDay_11 : decode cX12_passDay 11 = .ok (.getfield 50, 3) := by decide +kernel
theorem dX12_passDay_14 : decode cX12_passDay 14 = .ok (.iload_n 3, 1) := by decide +kernel
theorem dX12_passDay_15 : decode cX12_passDay 15 = .ok (.aload_n 0, 1) := by decide +kernel
theorem dX12_passDay_16 : decode cX12_passDay 16 = .ok (.getfield 7, 3) := by decide +kernel
theorem dX12_passDay_19 : decode cX12_passDay 19 = .ok (.sipush 168, 3) := by decide +kernel
theorem dX12_passDay_22 : decode cX12_passDay 22 = .ok (.iload_n 3, 1) := by decide +kernel
theorem dX12_passDay_23 : decode cX12_passDay 23 = .ok (.iadd, 1) := by decide +kernel
theorem dX12_passDay_24 : decode cX12_passDay 24 = .ok (.iaload, 1) := by decide +kernel
theorem dX12_passDay_25 : decode cX12_passDay 25 = .ok (.i2l, 1) := by decide +kernel
theorem dX12_passDay_26 : decode cX12_passDay 26 = .ok (.lastore, 1) := by decide +kernel
theorem dX12_passDay_27 : decode cX12_passDay 27 = .ok (.iinc 3 1, 3) := by decide +kernel
theorem dX12_passDay_30 : decode cX12_passDay 30 = .ok (.goto (-28), 3) := by decide +kernel
theorem dX12_passDay_33 : decode cX12_passDay 33 = .ok (.iconst 0, 1) := by decide +kernel
theorem dX12_passDay_34 : decode cX12_passDay 34 = .ok (.istore_n 3, 1) := by decide +kernel
theorem dX12_passDay_35 : decode cX12_passDay 35 = .ok (.iload_n 3, 1) := by decide +kernel
theorem dX12_passDay_36 : decode cX12_passDay 36 = .ok (.aload_n 0, 1) := by decide +kernel
theorem dX12_passDay_37 : decode cX12_passDay 37 = .ok (.getfield 7, 3) := by decide +kernel
theorem dX12_passDay_40 : decode cX12_passDay 40 = .ok (.iconst 2, 1) := by decide +kernel
theorem dX12_passDay_41 : decode cX12_passDay 41 = .ok (.iaload, 1) := by decide +kernel
theorem dX12_passDay_42 : decode cX12_passDay 42 = .ok (.if_icmp .ge 183, 3) := by decide +kernel
theorem dX12_passDay_45 : decode cX12_passDay 45 = .ok (.iload_n 3, 1) := by decide +kernel
theorem dX12_passDay_46 : decode cX12_passDay 46 = .ok (.iload_n 1, 1) := by decide +kernel
theorem dX12_passDay_47 : decode cX12_passDay 47 = .ok (.if_icmp .ne 19, 3) := by decide +kernel
theorem dX12_passDay_50 : decode cX12_passDay 50 = .ok (.bipush 16, 2) := by decide +kernel
theorem dX12_passDay_52 : decode cX12_passDay 52 = .ok (.aload_n 0, 1) := by decide +kernel
theorem dX12_passDay_53 : decode cX12_passDay 53 = .ok (.iload_n 3, 1) := by decide +kernel
theorem dX12_passDay_54 : decode cX12_passDay 54 = .ok (.iconst 2, 1) := by decide +kernel
theorem dX12_passDay_55 : decode cX12_passDay 55 = .ok (.invokevirtual 269, 3) := by decide +kernel
theorem dX12_passDay_58 : decode cX12_passDay 58 = .ok (.iload_n 2, 1) := by decide +kernel
theorem dX12_passDay_59 : decode cX12_passDay 59 = .ok (.iadd, 1) := by decide +kernel
theorem dX12_passDay_60 : decode cX12_passDay 60 = .ok (.invokestatic 147, 3) := by decide +kernel
theorem dX12_passDay_63 : decode cX12_passDay 63 = .ok (.goto 9, 3) := by decide +kernel
theorem dX12_passDay_66 : decode cX12_passDay 66 = .ok (.aload_n 0, 1) := by decide +kernel
theorem dX12_passDay_67 : decode cX12_passDay 67 = .ok (.iload_n 3, 1) := by decide +kernel
theorem dX12_passDay_68 : decode cX12_passDay 68 = .ok (.iconst 2, 1) := by decide +kernel
theorem dX12_passDay_69 : decode cX12_passDay 69 = .ok (.invokevirtual 269, 3) := by decide +kernel
theorem dX12_passDay_72 : decode cX12_passDay 72 = .ok (.istore 4, 2) := by decide +kernel
theorem dX12_passDay_74 : decode cX12_passDay 74 = .ok (.aload_n 0, 1) := by decide +kernel
theorem dX12_passDay_75 : decode cX12_passDay 75 = .ok (.iload_n 3, 1) := by decide +kernel
theorem dX12_passDay_76 : decode cX12_passDay 76 = .ok (.iconst 3, 1) := by decide +kernel
theorem dX12_passDay_77 : decode cX12_passDay 77 = .ok (.invokevirtual 269, 3) := by decide +kernel
theorem dX12_passDay_80 : decode cX12_passDay 80 = .ok (.istore 5, 2) := by decide +kernel
theorem dX12_passDay_82 : decode cX12_passDay 82 = .ok (.iconst 0, 1) := by decide +kernel
theorem dX12_passDay_83 : decode cX12_passDay 83 = .ok (.istore 6, 2) := by decide +kernel
theorem dX12_passDay_85 : decode cX12_passDay 85 = .ok (.iload 6, 2) := by decide +kernel
theorem dX12_passDay_87 : decode cX12_passDay 87 = .ok (.aload_n 0, 1) := by decide +kernel
theorem dX12_passDay_88 : decode cX12_passDay 88 = .ok (.invokevirtual 263, 3) := by decide +kernel
theorem dX12_passDay_91 : decode cX12_passDay 91 = .ok (.if_icmp .ge 96, 3) := by decide +kernel
theorem dX12_passDay_94 : decode cX12_passDay 94 = .ok (.iload 6, 2) := by decide +kernel
theorem dX12_passDay_96 : decode cX12_passDay 96 = .ok (.iconst 1, 1) := by decide +kernel
theorem dX12_passDay_97 : decode cX12_passDay 97 = .ok (.iload_n 3, 1) := by decide +kernel
theorem dX12_passDay_98 : decode cX12_passDay 98 = .ok (.ishl, 1) := by decide +kernel
theorem dX12_passDay_99 : decode cX12_passDay 99 = .ok (.ior, 1) := by decide +kernel
theorem dX12_passDay_100 : decode cX12_passDay 100 = .ok (.istore 7, 2) := by decide +kernel
theorem dX12_passDay_102 : decode cX12_passDay 102 = .ok (.iload 6, 2) := by decide +kernel
theorem dX12_passDay_104 : decode cX12_passDay 104 = .ok (.iconst 1, 1) := by decide +kernel
theorem dX12_passDay_105 : decode cX12_passDay 105 = .ok (.iload_n 3, 1) := by decide +kernel
theorem dX12_passDay_106 : decode cX12_passDay 106 = .ok (.ishl, 1) := by decide +kernel
theorem dX12_passDay_107 : decode cX12_passDay 107 = .ok (.iconst (-1), 1) := by decide +kernel
theorem dX12_passDay_108 : decode cX12_passDay 108 = .ok (.ixor, 1) := by decide +kernel
theorem dX12_passDay_109 : decode cX12_passDay 109 = .ok (.iand, 1) := by decide +kernel
theorem dX12_passDay_110 : decode cX12_passDay 110 = .ok (.istore 8, 2) := by decide +kernel
theorem dX12_passDay_112 : decode cX12_passDay 112 = .ok (.aload_n 0, 1) := by decide +kernel
theorem dX12_passDay_113 : decode cX12_passDay 113 = .ok (.getfield 53, 3) := by decide +kernel
theorem dX12_passDay_116 : decode cX12_passDay 116 = .ok (.iload 6, 2) := by decide +kernel
theorem dX12_passDay_118 : decode cX12_passDay 118 = .ok (.iload 6, 2) := by decide +kernel
theorem dX12_passDay_120 : decode cX12_passDay 120 = .ok (.iload 7, 2) := by decide +kernel
theorem dX12_passDay_122 : decode cX12_passDay 122 = .ok (.if_icmp .ne 32, 3) := by decide +kernel
theorem dX12_passDay_125 : decode cX12_passDay 125 = .ok (.aload_n 0, 1) := by decide +kernel
theorem dX12_passDay_126 : decode cX12_passDay 126 = .ok (.getfield 50, 3) := by decide +kernel
theorem dX12_passDay_129 : decode cX12_passDay 129 = .ok (.iload 7, 2) := by decide +kernel
theorem dX12_passDay_131 : decode cX12_passDay 131 = .ok (.laload, 1) := by decide +kernel
theorem dX12_passDay_132 : decode cX12_passDay 132 = .ok (.bipush 16, 2) := by decide +kernel
theorem dX12_passDay_134 : decode cX12_passDay 134 = .ok (.iload 4, 2) := by decide +kernel
theorem dX12_passDay_136 : decode cX12_passDay 136 = .ok (.isub, 1) := by decide +kernel
theorem dX12_passDay_137 : decode cX12_passDay 137 = .ok (.i2l, 1) := by decide +kernel
theorem dX12_passDay_138 : decode cX12_passDay 138 = .ok (.lmul, 1) := by decide +kernel
theorem dX12_passDay_139 : decode cX12_passDay 139 = .ok (.aload_n 0, 1) := by decide +kernel
theorem dX12_passDay_140 : decode cX12_passDay 140 = .ok (.getfield 50, 3) := by decide +kernel
theorem dX12_passDay_143 : decode cX12_passDay 143 = .ok (.iload 8, 2) := by decide +kernel
theorem dX12_passDay_145 : decode cX12_passDay 145 = .ok (.laload, 1) := by decide +kernel
theorem dX12_passDay_146 : decode cX12_passDay 146 = .ok (.iload 5, 2) := by decide +kernel
theorem dX12_passDay_148 : decode cX12_passDay 148 = .ok (.i2l, 1) := by decide +kernel
theorem dX12_passDay_149 : decode cX12_passDay 149 = .ok (.lmul, 1) := by decide +kernel
theorem dX12_passDay_150 : decode cX12_passDay 150 = .ok (.ladd, 1) := by decide +kernel
theorem dX12_passDay_151 : decode cX12_passDay 151 = .ok (.goto 29, 3) := by decide +kernel
theorem dX12_passDay_154 : decode cX12_passDay 154 = .ok (.aload_n 0, 1) := by decide +kernel
theorem dX12_passDay_155 : decode cX12_passDay 155 = .ok (.getfield 50, 3) := by decide +kernel
theorem dX12_passDay_158 : decode cX12_passDay 158 = .ok (.iload 7, 2) := by decide +kernel
theorem dX12_passDay_160 : decode cX12_passDay 160 = .ok (.laload, 1) := by decide +kernel
theorem dX12_passDay_161 : decode cX12_passDay 161 = .ok (.iload 4, 2) := by decide +kernel
theorem dX12_passDay_163 : decode cX12_passDay 163 = .ok (.i2l, 1) := by decide +kernel
theorem dX12_passDay_164 : decode cX12_passDay 164 = .ok (.lmul, 1) := by decide +kernel
theorem dX12_passDay_165 : decode cX12_passDay 165 = .ok (.aload_n 0, 1) := by decide +kernel
theorem dX12_passDay_166 : decode cX12_passDay 166 = .ok (.getfield 50, 3) := by decide +kernel
theorem dX12_passDay_169 : decode cX12_passDay 169 = .ok (.iload 8, 2) := by decide +kernel
theorem dX12_passDay_171 : decode cX12_passDay 171 = .ok (.laload, 1) := by decide +kernel
theorem dX12_passDay_172 : decode cX12_passDay 172 = .ok (.bipush 16, 2) := by decide +kernel
theorem dX12_passDay_174 : decode cX12_passDay 174 = .ok (.iload 5, 2) := by decide +kernel
theorem dX12_passDay_176 : decode cX12_passDay 176 = .ok (.isub, 1) := by decide +kernel
theorem dX12_passDay_177 : decode cX12_passDay 177 = .ok (.i2l, 1) := by decide +kernel
theorem dX12_passDay_178 : decode cX12_passDay 178 = .ok (.lmul, 1) := by decide +kernel
theorem dX12_passDay_179 : decode cX12_passDay 179 = .ok (.ladd, 1) := by decide +kernel
theorem dX12_passDay_180 : decode cX12_passDay 180 = .ok (.lastore, 1) := by decide +kernel
theorem dX12_passDay_181 : decode cX12_passDay 181 = .ok (.iinc 6 1, 3) := by decide +kernel
theorem dX12_passDay_184 : decode cX12_passDay 184 = .ok (.goto (-99), 3) := by decide +kernel
theorem dX12_passDay_187 : decode cX12_passDay 187 = .ok (.iconst 0, 1) := by decide +kernel
theorem dX12_passDay_188 : decode cX12_passDay 188 = .ok (.istore 6, 2) := by decide +kernel
theorem dX12_passDay_190 : decode cX12_passDay 190 = .ok (.iload 6, 2) := by decide +kernel
theorem dX12_passDay_192 : decode cX12_passDay 192 = .ok (.aload_n 0, 1) := by decide +kernel
theorem dX12_passDay_193 : decode cX12_passDay 193 = .ok (.invokevirtual 263, 3) := by decide +kernel
theorem dX12_passDay_196 : decode cX12_passDay 196 = .ok (.if_icmp .ge 23, 3) := by decide +kernel
theorem dX12_passDay_199 : decode cX12_passDay 199 = .ok (.aload_n 0, 1) := by decide +kernel
theorem dX12_passDay_200 : decode cX12_passDay 200 = .ok (.getfield 50, 3) := by decide +kernel
theorem dX12_passDay_203 : decode cX12_passDay 203 = .ok (.iload 6, 2) := by decide +kernel
theorem dX12_passDay_205 : decode cX12_passDay 205 = .ok (.aload_n 0, 1) := by decide +kernel
theorem dX12_passDay_206 : decode cX12_passDay 206 = .ok (.getfield 53, 3) := by decide +kernel
theorem dX12_passDay_209 : decode cX12_passDay 209 = .ok (.iload 6, 2) := by decide +kernel
theorem dX12_passDay_211 : decode cX12_passDay 211 = .ok (.laload, 1) := by decide +kernel
theorem dX12_passDay_212 : decode cX12_passDay 212 = .ok (.lastore, 1) := by decide +kernel
theorem dX12_passDay_213 : decode cX12_passDay 213 = .ok (.iinc 6 1, 3) := by decide +kernel
theorem dX12_passDay_216 : decode cX12_passDay 216 = .ok (.goto (-26), 3) := by decide +kernel
theorem dX12_passDay_219 : decode cX12_passDay 219 = .ok (.iinc 3 1, 3) := by decide +kernel
theorem dX12_passDay_222 : decode cX12_passDay 222 = .ok (.goto (-187), 3) := by decide +kernel
theorem dX12_passDay_225 : decode cX12_passDay 225 = .ok (.aload_n 0, 1) := by decide +kernel
theorem dX12_passDay_226 : decode cX12_passDay 226 = .ok (.invokevirtual 302, 3) := by decide +kernel
theorem dX12_passDay_229 : decode cX12_passDay 229 = .ok (.ifCond .eq 13, 3) := by decide +kernel
theorem dX12_passDay_232 : decode cX12_passDay 232 = .ok (.aload_n 0, 1) := by decide +kernel
theorem dX12_passDay_233 : decode cX12_passDay 233 = .ok (.getfield 7, 3) := by decide +kernel
theorem dX12_passDay_236 : decode cX12_passDay 236 = .ok (.iconst 3, 1) := by decide +kernel
theorem dX12_passDay_237 : decode cX12_passDay 237 = .ok (.dup2, 1) := by decide +kernel
theorem dX12_passDay_238 : decode cX12_passDay 238 = .ok (.iaload, 1) := by decide +kernel
theorem dX12_passDay_239 : decode cX12_passDay 239 = .ok (.iconst 1, 1) := by decide +kernel
theorem dX12_passDay_240 : decode cX12_passDay 240 = .ok (.iadd, 1) := by decide +kernel
theorem dX12_passDay_241 : decode cX12_passDay 241 = .ok (.iastore, 1) := by decide +kernel
theorem dX12_passDay_242 : decode cX12_passDay 242 = .ok (.return_, 1) := by decide +kernel
theorem dX12_weighs_0 : decode cX12_weighs 0 = .ok (.iload_n 2, 1) := by decide +kernel
theorem dX12_weighs_1 : decode cX12_weighs 1 = .ok (.iload_n 1, 1) := by decide +kernel
theorem dX12_weighs_2 : decode cX12_weighs 2 = .ok (.if_icmp .ne 15, 3) := by decide +kernel
theorem dX12_weighs_5 : decode cX12_weighs 5 = .ok (.iconst 2, 1) := by decide +kernel
theorem dX12_weighs_6 : decode cX12_weighs 6 = .ok (.aload_n 0, 1) := by decide +kernel
theorem dX12_weighs_7 : decode cX12_weighs 7 = .ok (.getfield 7, 3) := by decide +kernel
theorem dX12_weighs_10 : decode cX12_weighs 10 = .ok (.bipush 11, 2) := by decide +kernel
theorem dX12_weighs_12 : decode cX12_weighs 12 = .ok (.iaload, 1) := by decide +kernel
theorem dX12_weighs_13 : decode cX12_weighs 13 = .ok (.imul, 1) := by decide +kernel
theorem dX12_weighs_14 : decode cX12_weighs 14 = .ok (.goto 31, 3) := by decide +kernel
theorem dX12_weighs_17 : decode cX12_weighs 17 = .ok (.iload_n 2, 1) := by decide +kernel
theorem dX12_weighs_18 : decode cX12_weighs 18 = .ok (.iload_n 1, 1) := by decide +kernel
theorem dX12_weighs_19 : decode cX12_weighs 19 = .ok (.iconst 1, 1) := by decide +kernel
theorem dX12_weighs_20 : decode cX12_weighs 20 = .ok (.isub, 1) := by decide +kernel
theorem dX12_weighs_21 : decode cX12_weighs 21 = .ok (.if_icmp .eq 10, 3) := by decide +kernel
theorem dX12_weighs_24 : decode cX12_weighs 24 = .ok (.iload_n 2, 1) := by decide +kernel
theorem dX12_weighs_25 : decode cX12_weighs 25 = .ok (.iload_n 1, 1) := by decide +kernel
theorem dX12_weighs_26 : decode cX12_weighs 26 = .ok (.iconst 1, 1) := by decide +kernel
theorem dX12_weighs_27 : decode cX12_weighs 27 = .ok (.iadd, 1) := by decide +kernel
theorem dX12_weighs_28 : decode cX12_weighs 28 = .ok (.if_icmp .ne 16, 3) := by decide +kernel
theorem dX12_weighs_31 : decode cX12_weighs 31 = .ok (.bipush 16, 2) := by decide +kernel
theorem dX12_weighs_33 : decode cX12_weighs 33 = .ok (.aload_n 0, 1) := by decide +kernel
theorem dX12_weighs_34 : decode cX12_weighs 34 = .ok (.getfield 7, 3) := by decide +kernel
theorem dX12_weighs_37 : decode cX12_weighs 37 = .ok (.bipush 11, 2) := by decide +kernel
theorem dX12_weighs_39 : decode cX12_weighs 39 = .ok (.iaload, 1) := by decide +kernel
theorem dX12_weighs_40 : decode cX12_weighs 40 = .ok (.isub, 1) := by decide +kernel
theorem dX12_weighs_41 : decode cX12_weighs 41 = .ok (.goto 4, 3) := by decide +kernel
theorem dX12_weighs_44 : decode cX12_weighs 44 = .ok (.iconst 0, 1) := by decide +kernel
theorem dX12_weighs_45 : decode cX12_weighs 45 = .ok (.ireturn, 1) := by decide +kernel
theorem dX12_sounds_0 : decode cX12_sounds 0 = .ok (.iconst 0, 1) := by decide +kernel
theorem dX12_sounds_1 : decode cX12_sounds 1 = .ok (.istore_n 3, 1) := by decide +kernel
theorem dX12_sounds_2 : decode cX12_sounds 2 = .ok (.iload_n 3, 1) := by decide +kernel
theorem dX12_sounds_3 : decode cX12_sounds 3 = .ok (.aload_n 0, 1) := by decide +kernel
theorem dX12_sounds_4 : decode cX12_sounds 4 = .ok (.invokevirtual 263, 3) := by decide +kernel
theorem dX12_sounds_7 : decode cX12_sounds 7 = .ok (.if_icmp .ge 39, 3) := by decide +kernel
theorem dX12_sounds_10 : decode cX12_sounds 10 = .ok (.aload_n 0, 1) := by decide +kernel
theorem dX12_sounds_11 : decode cX12_sounds 11 = .ok (.getfield 50, 3) := by decide +kernel
theorem dX12_sounds_14 : decode cX12_sounds 14 = .ok (.iload_n 3, 1) := by decide +kernel
theorem dX12_sounds_15 : decode cX12_sounds 15 = .ok (.aload_n 0, 1) := by decide +kernel
theorem dX12_sounds_16 : decode cX12_sounds 16 = .ok (.getfield 7, 3) := by decide +kernel
theorem dX12_sounds_19 : decode cX12_sounds 19 = .ok (.sipush 168, 3) := by decide +kernel
theorem dX12_sounds_22 : decode cX12_sounds 22 = .ok (.iload_n 3, 1) := by decide +kernel
theorem dX12_sounds_23 : decode cX12_sounds 23 = .ok (.iadd, 1) := by decide +kernel
theorem dX12_sounds_24 : decode cX12_sounds 24 = .ok (.iaload, 1) := by decide +kernel
theorem dX12_sounds_25 : decode cX12_sounds 25 = .ok (.i2l, 1) := by decide +kernel
theorem dX12_sounds_26 : decode cX12_sounds 26 = .ok (.aload_n 0, 1) := by decide +kernel
theorem dX12_sounds_27 : decode cX12_sounds 27 = .ok (.aload_n 0, 1) := by decide +kernel
theorem dX12_sounds_28 : decode cX12_sounds 28 = .ok (.iload_n 1, 1) := by decide +kernel
theorem dX12_sounds_29 : decode cX12_sounds 29 = .ok (.iload_n 3, 1) := by decide +kernel
theorem dX12_sounds_30 : decode cX12_sounds 30 = .ok (.invokevirtual 291, 3) := by decide +kernel
theorem dX12_sounds_33 : decode cX12_sounds 33 = .ok (.iload_n 2, 1) := by decide +kernel
theorem dX12_sounds_34 : decode cX12_sounds 34 = .ok (.invokevirtual 305, 3) := by decide +kernel
theorem dX12_sounds_37 : decode cX12_sounds 37 = .ok (.i2l, 1) := by decide +kernel
theorem dX12_sounds_38 : decode cX12_sounds 38 = .ok (.lmul, 1) := by decide +kernel
theorem dX12_sounds_39 : decode cX12_sounds 39 = .ok (.lastore, 1) := by decide +kernel
theorem dX12_sounds_40 : decode cX12_sounds 40 = .ok (.iinc 3 1, 3) := by decide +kernel
theorem dX12_sounds_43 : decode cX12_sounds 43 = .ok (.goto (-41), 3) := by decide +kernel
theorem dX12_sounds_46 : decode cX12_sounds 46 = .ok (.aload_n 0, 1) := by decide +kernel
theorem dX12_sounds_47 : decode cX12_sounds 47 = .ok (.invokevirtual 302, 3) := by decide +kernel
theorem dX12_sounds_50 : decode cX12_sounds 50 = .ok (.ireturn, 1) := by decide +kernel
theorem dX12_colours_0 : decode cX12_colours 0 = .ok (.aload_n 0, 1) := by decide +kernel
theorem dX12_colours_1 : decode cX12_colours 1 = .ok (.getfield 7, 3) := by decide +kernel
theorem dX12_colours_4 : decode cX12_colours 4 = .ok (.bipush 108, 2) := by decide +kernel
theorem dX12_colours_6 : decode cX12_colours 6 = .ok (.iload_n 1, 1) := by decide +kernel
theorem dX12_colours_7 : decode cX12_colours 7 = .ok (.iadd, 1) := by decide +kernel
theorem dX12_colours_8 : decode cX12_colours 8 = .ok (.iaload, 1) := by decide +kernel
theorem dX12_colours_9 : decode cX12_colours 9 = .ok (.istore_n 3, 1) := by decide +kernel
theorem dX12_colours_10 : decode cX12_colours 10 = .ok (.iconst 0, 1) := by decide +kernel
theorem dX12_colours_11 : decode cX12_colours 11 = .ok (.istore 4, 2) := by decide +kernel
theorem dX12_colours_13 : decode cX12_colours 13 = .ok (.iload 4, 2) := by decide +kernel
theorem dX12_colours_15 : decode cX12_colours 15 = .ok (.aload_n 0, 1) := by decide +kernel
theorem dX12_colours_16 : decode cX12_colours 16 = .ok (.invokevirtual 263, 3) := by decide +kernel
theorem dX12_colours_19 : decode cX12_colours 19 = .ok (.if_icmp .ge 78, 3) := by decide +kernel
theorem dX12_colours_22 : decode cX12_colours 22 = .ok (.iload_n 3, 1) := by decide +kernel
theorem dX12_colours_23 : decode cX12_colours 23 = .ok (.iconst (-1), 1) := by decide +kernel
theorem dX12_colours_24 : decode cX12_colours 24 = .ok (.if_icmp .eq 17, 3) := by decide +kernel
theorem dX12_colours_27 : decode cX12_colours 27 = .ok (.iload 4, 2) := by decide +kernel
theorem dX12_colours_29 : decode cX12_colours 29 = .ok (.iload_n 3, 1) := by decide +kernel
theorem dX12_colours_30 : decode cX12_colours 30 = .ok (.ishr, 1) := by decide +kernel
theorem dX12_colours_31 : decode cX12_colours 31 = .ok (.iconst 1, 1) := by decide +kernel
theorem dX12_colours_32 : decode cX12_colours 32 = .ok (.iand, 1) := by decide +kernel
theorem dX12_colours_33 : decode cX12_colours 33 = .ok (.iconst 1, 1) := by decide +kernel
theorem dX12_colours_34 : decode cX12_colours 34 = .ok (.if_icmp .ne 7, 3) := by decide +kernel
theorem dX12_colours_37 : decode cX12_colours 37 = .ok (.iconst 1, 1) := by decide +kernel
theorem dX12_colours_38 : decode cX12_colours 38 = .ok (.goto 4, 3) := by decide +kernel
theorem dX12_colours_41 : decode cX12_colours 41 = .ok (.iconst 0, 1) := by decide +kernel
theorem dX12_colours_42 : decode cX12_colours 42 = .ok (.istore 5, 2) := by decide +kernel
theorem dX12_colours_44 : decode cX12_colours 44 = .ok (.aload_n 0, 1) := by decide +kernel
theorem dX12_colours_45 : decode cX12_colours 45 = .ok (.getfield 50, 3) := by decide +kernel
theorem dX12_colours_48 : decode cX12_colours 48 = .ok (.iload 4, 2) := by decide +kernel
theorem dX12_colours_50 : decode cX12_colours 50 = .ok (.aload_n 0, 1) := by decide +kernel
theorem dX12_colours_51 : decode cX12_colours 51 = .ok (.getfield 7, 3) := by decide +kernel
theorem dX12_colours_54 : decode cX12_colours 54 = .ok (.sipush 168, 3) := by decide +kernel
theorem dX12_colours_57 : decode cX12_colours 57 = .ok (.iload 4, 2) := by decide +kernel
theorem dX12_colours_59 : decode cX12_colours 59 = .ok (.iadd, 1) := by decide +kernel
theorem dX12_colours_60 : decode cX12_colours 60 = .ok (.iaload, 1) := by decide +kernel
theorem dX12_colours_61 : decode cX12_colours 61 = .ok (.i2l, 1) := by decide +kernel
theorem dX12_colours_62 : decode cX12_colours 62 = .ok (.iload 5, 2) := by decide +kernel
theorem dX12_colours_64 : decode cX12_colours 64 = .ok (.iload_n 2, 1) := by decide +kernel
theorem dX12_colours_65 : decode cX12_colours 65 = .ok (.if_icmp .ne 13, 3) := by decide +kernel
theorem dX12_colours_68 : decode cX12_colours 68 = .ok (.aload_n 0, 1) := by decide +kernel
theorem dX12_colours_69 : decode cX12_colours 69 = .ok (.getfield 7, 3) := by decide +kernel
theorem dX12_colours_72 : decode cX12_colours 72 = .ok (.bipush 12, 2) := by decide +kernel
theorem dX12_colours_74 : decode cX12_colours 74 = .ok (.iaload, 1) := by decide +kernel
theorem dX12_colours_75 : decode cX12_colours 75 = .ok (.goto 13, 3) := by decide +kernel
theorem dX12_colours_78 : decode cX12_colours 78 = .ok (.bipush 16, 2) := by decide +kernel
theorem dX12_colours_80 : decode cX12_colours 80 = .ok (.aload_n 0, 1) := by decide +kernel
theorem dX12_colours_81 : decode cX12_colours 81 = .ok (.getfield 7, 3) := by decide +kernel
theorem dX12_colours_84 : decode cX12_colours 84 = .ok (.bipush 12, 2) := by decide +kernel
theorem dX12_colours_86 : decode cX12_colours 86 = .ok (.iaload, 1) := by decide +kernel
theorem dX12_colours_87 : decode cX12_colours 87 = .ok (.isub, 1) := by decide +kernel
theorem dX12_colours_88 : decode cX12_colours 88 = .ok (.i2l, 1) := by decide +kernel
theorem dX12_colours_89 : decode cX12_colours 89 = .ok (.lmul, 1) := by decide +kernel
theorem dX12_colours_90 : decode cX12_colours 90 = .ok (.lastore, 1) := by decide +kernel
theorem dX12_colours_91 : decode cX12_colours 91 = .ok (.iinc 4 1, 3) := by decide +kernel
theorem dX12_colours_94 : decode cX12_colours 94 = .ok (.goto (-81), 3) := by decide +kernel
theorem dX12_colours_97 : decode cX12_colours 97 = .ok (.aload_n 0, 1) := by decide +kernel
theorem dX12_colours_98 : decode cX12_colours 98 = .ok (.invokevirtual 302, 3) := by decide +kernel
theorem dX12_colours_101 : decode cX12_colours 101 = .ok (.ireturn, 1) := by decide +kernel
theorem dX12_part_0 : decode cX12_part 0 = .ok (.aload_n 0, 1) := by decide +kernel
theorem dX12_part_1 : decode cX12_part 1 = .ok (.iload_n 1, 1) := by decide +kernel
theorem dX12_part_2 : decode cX12_part 2 = .ok (.invokevirtual 288, 3) := by decide +kernel
theorem dX12_part_5 : decode cX12_part 5 = .ok (.ifCond .eq 20, 3) := by decide +kernel
theorem dX12_part_8 : decode cX12_part 8 = .ok (.aload_n 0, 1) := by decide +kernel
theorem dX12_part_9 : decode cX12_part 9 = .ok (.aload_n 0, 1) := by decide +kernel
theorem dX12_part_10 : decode cX12_part 10 = .ok (.getfield 7, 3) := by decide +kernel
theorem dX12_part_13 : decode cX12_part 13 = .ok (.sipush 168, 3) := by decide +kernel
theorem dX12_part_16 : decode cX12_part 16 = .ok (.iload_n 1, 1) := by decide +kernel
theorem dX12_part_17 : decode cX12_part 17 = .ok (.iadd, 1) := by decide +kernel
theorem dX12_part_18 : decode cX12_part 18 = .ok (.iaload, 1) := by decide +kernel
theorem dX12_part_19 : decode cX12_part 19 = .ok (.invokevirtual 188, 3) := by decide +kernel
theorem dX12_part_22 : decode cX12_part 22 = .ok (.goto 8, 3) := by decide +kernel
theorem dX12_part_25 : decode cX12_part 25 = .ok (.aload_n 0, 1) := by decide +kernel
theorem dX12_part_26 : decode cX12_part 26 = .ok (.iconst 1, 1) := by decide +kernel
theorem dX12_part_27 : decode cX12_part 27 = .ok (.invokevirtual 185, 3) := by decide +kernel
theorem dX12_part_30 : decode cX12_part 30 = .ok (.ireturn, 1) := by decide +kernel
theorem dX12_partsOf_0 : decode cX12_partsOf 0 = .ok (.lconst 0, 1) := by decide +kernel
theorem dX12_partsOf_1 : decode cX12_partsOf 1 = .ok (.lstore_n 3, 1) := by decide +kernel
theorem dX12_partsOf_2 : decode cX12_partsOf 2 = .ok (.iconst 0, 1) := by decide +kernel
theorem dX12_partsOf_3 : decode cX12_partsOf 3 = .ok (.istore 5, 2) := by decide +kernel
theorem dX12_partsOf_5 : decode cX12_partsOf 5 = .ok (.iload 5, 2) := by decide +kernel
theorem dX12_partsOf_7 : decode cX12_partsOf 7 = .ok (.aload_n 0, 1) := by decide +kernel
theorem dX12_partsOf_8 : decode cX12_partsOf 8 = .ok (.invokevirtual 263, 3) := by decide +kernel
theorem dX12_partsOf_11 : decode cX12_partsOf 11 = .ok (.if_icmp .ge 43, 3) := by decide +kernel
theorem dX12_partsOf_14 : decode cX12_partsOf 14 = .ok (.lload_n 3, 1) := by decide +kernel
theorem dX12_partsOf_15 : decode cX12_partsOf 15 = .ok (.iload 5, 2) := by decide +kernel
theorem dX12_partsOf_17 : decode cX12_partsOf 17 = .ok (.iload_n 1, 1) := by decide +kernel
theorem dX12_partsOf_18 : decode cX12_partsOf 18 = .ok (.iand, 1) := by decide +kernel
theorem dX12_partsOf_19 : decode cX12_partsOf 19 = .ok (.iload_n 1, 1) := by decide +kernel
theorem dX12_partsOf_20 : decode cX12_partsOf 20 = .ok (.if_icmp .ne 25, 3) := by decide +kernel
theorem dX12_partsOf_23 : decode cX12_partsOf 23 = .ok (.iload 5, 2) := by decide +kernel
theorem dX12_partsOf_25 : decode cX12_partsOf 25 = .ok (.iload_n 2, 1) := by decide +kernel
theorem dX12_partsOf_26 : decode cX12_partsOf 26 = .ok (.iand, 1) := by decide +kernel
theorem dX12_partsOf_27 : decode cX12_partsOf 27 = .ok (.ifCond .ne 18, 3) := by decide +kernel
theorem dX12_partsOf_30 : decode cX12_partsOf 30 = .ok (.aload_n 0, 1) := by decide +kernel
theorem dX12_partsOf_31 : decode cX12_partsOf 31 = .ok (.getfield 7, 3) := by decide +kernel
theorem dX12_partsOf_34 : decode cX12_partsOf 34 = .ok (.sipush 168, 3) := by decide +kernel
theorem dX12_partsOf_37 : decode cX12_partsOf 37 = .ok (.iload 5, 2) := by decide +kernel
theorem dX12_partsOf_39 : decode cX12_partsOf 39 = .ok (.iadd, 1) := by decide +kernel
theorem dX12_partsOf_40 : decode cX12_partsOf 40 = .ok (.iaload, 1) := by decide +kernel
theorem dX12_partsOf_41 : decode cX12_partsOf 41 = .ok (.i2l, 1) := by decide +kernel
theorem dX12_partsOf_42 : decode cX12_partsOf 42 = .ok (.goto 4, 3) := by decide +kernel
theorem dX12_partsOf_45 : decode cX12_partsOf 45 = .ok (.lconst 0, 1) := by decide +kernel
theorem dX12_partsOf_46 : decode cX12_partsOf 46 = .ok (.ladd, 1) := by decide +kernel
theorem dX12_partsOf_47 : decode cX12_partsOf 47 = .ok (.lstore_n 3, 1) := by decide +kernel
theorem dX12_partsOf_48 : decode cX12_partsOf 48 = .ok (.iinc 5 1, 3) := by decide +kernel
theorem dX12_partsOf_51 : decode cX12_partsOf 51 = .ok (.goto (-46), 3) := by decide +kernel
theorem dX12_partsOf_54 : decode cX12_partsOf 54 = .ok (.lload_n 3, 1) := by decide +kernel
theorem dX12_partsOf_55 : decode cX12_partsOf 55 = .ok (.lreturn, 1) := by decide +kernel
theorem dX12_there_0 : decode cX12_there 0 = .ok (.aload_n 0, 1) := by decide +kernel
theorem dX12_there_1 : decode cX12_there 1 = .ok (.iload_n 1, 1) := by decide +kernel
theorem dX12_there_2 : decode cX12_there 2 = .ok (.invokevirtual 266, 3) := by decide +kernel
theorem dX12_there_5 : decode cX12_there 5 = .ok (.ifCond .eq 21, 3) := by decide +kernel
theorem dX12_there_8 : decode cX12_there 8 = .ok (.aload_n 0, 1) := by decide +kernel
theorem dX12_there_9 : decode cX12_there 9 = .ok (.aload_n 0, 1) := by decide +kernel
theorem dX12_there_10 : decode cX12_there 10 = .ok (.iconst 1, 1) := by decide +kernel
theorem dX12_there_11 : decode cX12_there 11 = .ok (.iload_n 1, 1) := by decide +kernel
theorem dX12_there_12 : decode cX12_there 12 = .ok (.ishl, 1) := by decide +kernel
theorem dX12_there_13 : decode cX12_there 13 = .ok (.iconst 0, 1) := by decide +kernel
theorem dX12_there_14 : decode cX12_there 14 = .ok (.invokevirtual 308, 3) := by decide +kernel
theorem dX12_there_17 : decode cX12_there 17 = .ok (.ldc2_w 300, 3) := by decide +kernel
theorem dX12_there_20 : decode cX12_there 20 = .ok (.invokevirtual 312, 3) := by decide +kernel
theorem dX12_there_23 : decode cX12_there 23 = .ok (.goto 8, 3) := by decide +kernel
theorem dX12_there_26 : decode cX12_there 26 = .ok (.aload_n 0, 1) := by decide +kernel
theorem dX12_there_27 : decode cX12_there 27 = .ok (.iconst 1, 1) := by decide +kernel
theorem dX12_there_28 : decode cX12_there 28 = .ok (.invokevirtual 98, 3) := by decide +kernel
theorem dX12_there_31 : decode cX12_there 31 = .ok (.ireturn, 1) := by decide +kernel
theorem dX12_chance_0 : decode cX12_chance 0 = .ok (.aload_n 0, 1) := by decide +kernel
theorem dX12_chance_1 : decode cX12_chance 1 = .ok (.iload_n 1, 1) := by decide +kernel
theorem dX12_chance_2 : decode cX12_chance 2 = .ok (.invokevirtual 288, 3) := by decide +kernel
theorem dX12_chance_5 : decode cX12_chance 5 = .ok (.ifCond .eq 19, 3) := by decide +kernel
theorem dX12_chance_8 : decode cX12_chance 8 = .ok (.aload_n 0, 1) := by decide +kernel
theorem dX12_chance_9 : decode cX12_chance 9 = .ok (.aload_n 0, 1) := by decide +kernel
theorem dX12_chance_10 : decode cX12_chance 10 = .ok (.iconst 0, 1) := by decide +kernel
theorem dX12_chance_11 : decode cX12_chance 11 = .ok (.iload_n 1, 1) := by decide +kernel
theorem dX12_chance_12 : decode cX12_chance 12 = .ok (.invokevirtual 308, 3) := by decide +kernel
theorem dX12_chance_15 : decode cX12_chance 15 = .ok (.ldc2_w 300, 3) := by decide +kernel
theorem dX12_chance_18 : decode cX12_chance 18 = .ok (.invokevirtual 312, 3) := by decide +kernel
theorem dX12_chance_21 : decode cX12_chance 21 = .ok (.goto 8, 3) := by decide +kernel
theorem dX12_chance_24 : decode cX12_chance 24 = .ok (.aload_n 0, 1) := by decide +kernel
theorem dX12_chance_25 : decode cX12_chance 25 = .ok (.iconst 1, 1) := by decide +kernel
theorem dX12_chance_26 : decode cX12_chance 26 = .ok (.invokevirtual 98, 3) := by decide +kernel
theorem dX12_chance_29 : decode cX12_chance 29 = .ok (.ireturn, 1) := by decide +kernel
theorem dX12_pass_0 : decode cX12_pass 0 = .ok (.iload_n 1, 1) := by decide +kernel
theorem dX12_pass_1 : decode cX12_pass 1 = .ok (.i2l, 1) := by decide +kernel
theorem dX12_pass_2 : decode cX12_pass 2 = .ok (.lconst 1, 1) := by decide +kernel
theorem dX12_pass_3 : decode cX12_pass 3 = .ok (.ldc2_w 316, 3) := by decide +kernel
theorem dX12_pass_6 : decode cX12_pass 6 = .ok (.invokestatic 281, 3) := by decide +kernel
theorem dX12_pass_9 : decode cX12_pass 9 = .ok (.ifCond .ne 9, 3) := by decide +kernel
theorem dX12_pass_12 : decode cX12_pass 12 = .ok (.aload_n 0, 1) := by decide +kernel
theorem dX12_pass_13 : decode cX12_pass 13 = .ok (.iconst 1, 1) := by decide +kernel
theorem dX12_pass_14 : decode cX12_pass 14 = .ok (.invokevirtual 185, 3) := by decide +kernel
theorem dX12_pass_17 : decode cX12_pass 17 = .ok (.ireturn, 1) := by decide +kernel
theorem dX12_pass_18 : decode cX12_pass 18 = .ok (.aload_n 0, 1) := by decide +kernel
theorem dX12_pass_19 : decode cX12_pass 19 = .ok (.getfield 7, 3) := by decide +kernel
theorem dX12_pass_22 : decode cX12_pass 22 = .ok (.iconst 3, 1) := by decide +kernel
theorem dX12_pass_23 : decode cX12_pass 23 = .ok (.iaload, 1) := by decide +kernel
theorem dX12_pass_24 : decode cX12_pass 24 = .ok (.iload_n 1, 1) := by decide +kernel
theorem dX12_pass_25 : decode cX12_pass 25 = .ok (.iadd, 1) := by decide +kernel
theorem dX12_pass_26 : decode cX12_pass 26 = .ok (.bipush 99, 2) := by decide +kernel
theorem dX12_pass_28 : decode cX12_pass 28 = .ok (.if_icmp .le 9, 3) := by decide +kernel
theorem dX12_pass_31 : decode cX12_pass 31 = .ok (.aload_n 0, 1) := by decide +kernel
theorem dX12_pass_32 : decode cX12_pass 32 = .ok (.iconst 4, 1) := by decide +kernel
theorem dX12_pass_33 : decode cX12_pass 33 = .ok (.invokevirtual 185, 3) := by decide +kernel
theorem dX12_pass_36 : decode cX12_pass 36 = .ok (.ireturn, 1) := by decide +kernel
theorem dX12_pass_37 : decode cX12_pass 37 = .ok (.iconst 0, 1) := by decide +kernel
theorem dX12_pass_38 : decode cX12_pass 38 = .ok (.istore_n 2, 1) := by decide +kernel
theorem dX12_pass_39 : decode cX12_pass 39 = .ok (.iload_n 2, 1) := by decide +kernel
theorem dX12_pass_40 : decode cX12_pass 40 = .ok (.iload_n 1, 1) := by decide +kernel
theorem dX12_pass_41 : decode cX12_pass 41 = .ok (.if_icmp .ge 15, 3) := by decide +kernel
theorem dX12_pass_44 : decode cX12_pass 44 = .ok (.aload_n 0, 1) := by decide +kernel
theorem dX12_pass_45 : decode cX12_pass 45 = .ok (.iconst (-1), 1) := by decide +kernel
theorem dX12_pass_46 : decode cX12_pass 46 = .ok (.iconst 0, 1) := by decide +kernel
theorem dX12_pass_47 : decode cX12_pass 47 = .ok (.invokevirtual 318, 3) := by decide +kernel
theorem dX12_pass_50 : decode cX12_pass 50 = .ok (.iinc 2 1, 3) := by decide +kernel
theorem dX12_pass_53 : decode cX12_pass 53 = .ok (.goto (-14), 3) := by decide +kernel
theorem dX12_pass_56 : decode cX12_pass 56 = .ok (.aload_n 0, 1) := by decide +kernel
theorem dX12_pass_57 : decode cX12_pass 57 = .ok (.aload_n 0, 1) := by decide +kernel
theorem dX12_pass_58 : decode cX12_pass 58 = .ok (.getfield 7, 3) := by decide +kernel
theorem dX12_pass_61 : decode cX12_pass 61 = .ok (.iconst 3, 1) := by decide +kernel
theorem dX12_pass_62 : decode cX12_pass 62 = .ok (.iaload, 1) := by decide +kernel
theorem dX12_pass_63 : decode cX12_pass 63 = .ok (.invokevirtual 188, 3) := by decide +kernel
theorem dX12_pass_66 : decode cX12_pass 66 = .ok (.ireturn, 1) := by decide +kernel
theorem dX12_sound_0 : decode cX12_sound 0 = .ok (.aload_n 0, 1) := by decide +kernel
theorem dX12_sound_1 : decode cX12_sound 1 = .ok (.iload_n 1, 1) := by decide +kernel
theorem dX12_sound_2 : decode cX12_sound 2 = .ok (.i2l, 1) := by decide +kernel
theorem dX12_sound_3 : decode cX12_sound 3 = .ok (.invokevirtual 275, 3) := by decide +kernel
theorem dX12_sound_6 : decode cX12_sound 6 = .ok (.ifCond .eq 17, 3) := by decide +kernel
theorem dX12_sound_9 : decode cX12_sound 9 = .ok (.iload_n 2, 1) := by decide +kernel
theorem dX12_sound_10 : decode cX12_sound 10 = .ok (.i2l, 1) := by decide +kernel
theorem dX12_sound_11 : decode cX12_sound 11 = .ok (.ldc2_w 322, 3) := by decide +kernel
theorem dX12_sound_14 : decode cX12_sound 14 = .ok (.ldc2_w 324, 3) := by decide +kernel
theorem dX12_sound_17 : decode cX12_sound 17 = .ok (.invokestatic 281, 3) := by decide +kernel
theorem dX12_sound_20 : decode cX12_sound 20 = .ok (.ifCond .ne 9, 3) := by decide +kernel
theorem dX12_sound_23 : decode cX12_sound 23 = .ok (.aload_n 0, 1) := by decide +kernel
theorem dX12_sound_24 : decode cX12_sound 24 = .ok (.iconst 1, 1) := by decide +kernel
theorem dX12_sound_25 : decode cX12_sound 25 = .ok (.invokevirtual 98, 3) := by decide +kernel
theorem dX12_sound_28 : decode cX12_sound 28 = .ok (.ireturn, 1) := by decide +kernel
theorem dX12_sound_29 : decode cX12_sound 29 = .ok (.aload_n 0, 1) := by decide +kernel
theorem dX12_sound_30 : decode cX12_sound 30 = .ok (.iload_n 1, 1) := by decide +kernel
theorem dX12_sound_31 : decode cX12_sound 31 = .ok (.iload_n 2, 1) := by decide +kernel
theorem dX12_sound_32 : decode cX12_sound 32 = .ok (.invokevirtual 326, 3) := by decide +kernel
theorem dX12_sound_35 : decode cX12_sound 35 = .ok (.ifCond .eq 11, 3) := by decide +kernel
theorem dX12_sound_38 : decode cX12_sound 38 = .ok (.aload_n 0, 1) := by decide +kernel
theorem dX12_sound_39 : decode cX12_sound 39 = .ok (.iconst 0, 1) := by decide +kernel
theorem dX12_sound_40 : decode cX12_sound 40 = .ok (.invokevirtual 98, 3) := by decide +kernel
theorem dX12_sound_43 : decode cX12_sound 43 = .ok (.goto 9, 3) := by decide +kernel
theorem dX12_sound_46 : decode cX12_sound 46 = .ok (.aload_n 0, 1) := by decide +kernel
theorem dX12_sound_47 : decode cX12_sound 47 = .ok (.bipush 7, 2) := by decide +kernel
theorem dX12_sound_49 : decode cX12_sound 49 = .ok (.invokevirtual 98, 3) := by decide +kernel
theorem dX12_sound_52 : decode cX12_sound 52 = .ok (.ireturn, 1) := by decide +kernel
theorem dX12_colour_0 : decode cX12_colour 0 = .ok (.aload_n 0, 1) := by decide +kernel
theorem dX12_colour_1 : decode cX12_colour 1 = .ok (.iload_n 1, 1) := by decide +kernel
theorem dX12_colour_2 : decode cX12_colour 2 = .ok (.i2l, 1) := by decide +kernel
theorem dX12_colour_3 : decode cX12_colour 3 = .ok (.invokevirtual 275, 3) := by decide +kernel
theorem dX12_colour_6 : decode cX12_colour 6 = .ok (.ifCond .ne 9, 3) := by decide +kernel
theorem dX12_colour_9 : decode cX12_colour 9 = .ok (.aload_n 0, 1) := by decide +kernel
theorem dX12_colour_10 : decode cX12_colour 10 = .ok (.iconst 1, 1) := by decide +kernel
theorem dX12_colour_11 : decode cX12_colour 11 = .ok (.invokevirtual 98, 3) := by decide +kernel
theorem dX12_colour_14 : decode cX12_colour 14 = .ok (.ireturn, 1) := by decide +kernel
theorem dX12_colour_15 : decode cX12_colour 15 = .ok (.aload_n 0, 1) := by decide +kernel
theorem dX12_colour_16 : decode cX12_colour 16 = .ok (.iload_n 1, 1) := by decide +kernel
theorem dX12_colour_17 : decode cX12_colour 17 = .ok (.iload_n 2, 1) := by decide +kernel
theorem dX12_colour_18 : decode cX12_colour 18 = .ok (.invokevirtual 329, 3) := by decide +kernel
theorem dX12_colour_21 : decode cX12_colour 21 = .ok (.ifCond .eq 11, 3) := by decide +kernel
theorem dX12_colour_24 : decode cX12_colour 24 = .ok (.aload_n 0, 1) := by decide +kernel
theorem dX12_colour_25 : decode cX12_colour 25 = .ok (.iconst 0, 1) := by decide +kernel
theorem dX12_colour_26 : decode cX12_colour 26 = .ok (.invokevirtual 98, 3) := by decide +kernel
theorem dX12_colour_29 : decode cX12_colour 29 = .ok (.goto 9, 3) := by decide +kernel
theorem dX12_colour_32 : decode cX12_colour 32 = .ok (.aload_n 0, 1) := by decide +kernel
theorem dX12_colour_33 : decode cX12_colour 33 = .ok (.bipush 7, 2) := by decide +kernel
theorem dX12_colour_35 : decode cX12_colour 35 = .ok (.invokevirtual 98, 3) := by decide +kernel
theorem dX12_colour_38 : decode cX12_colour 38 = .ok (.ireturn, 1) := by decide +kernel
theorem dX12_off_0 : decode cX12_off 0 = .ok (.iload_n 1, 1) := by decide +kernel
theorem dX12_off_1 : decode cX12_off 1 = .ok (.ifCond .lt 14, 3) := by decide +kernel
theorem dX12_off_4 : decode cX12_off 4 = .ok (.iload_n 1, 1) := by decide +kernel
theorem dX12_off_5 : decode cX12_off 5 = .ok (.aload_n 0, 1) := by decide +kernel
theorem dX12_off_6 : decode cX12_off 6 = .ok (.getfield 7, 3) := by decide +kernel
theorem dX12_off_9 : decode cX12_off 9 = .ok (.bipush 6, 2) := by decide +kernel
theorem dX12_off_11 : decode cX12_off 11 = .ok (.iaload, 1) := by decide +kernel
