theorem dX8_takeSleeper_20 : decode cX8_takeSleeper 20 = .ok (.iload_n 1, 1) := by decide +kernel
theorem dX8_takeSleeper_21 : decode cX8_takeSleeper 21 = .ok (.iconst 0, 1) := by decide +kernel
theorem dX8_takeSleeper_22 : decode cX8_takeSleeper 22 = .ok (.aload_n 0, 1) := by decide +kernel
theorem dX8_takeSleeper_23 : decode cX8_takeSleeper 23 = .ok (.getfield 183, 3) := by decide +kernel
theorem dX8_takeSleeper_26 : decode cX8_takeSleeper 26 = .ok (.iconst 1, 1) := by decide +kernel
theorem dX8_takeSleeper_27 : decode cX8_takeSleeper 27 = .ok (.isub, 1) := by decide +kernel
theorem dX8_takeSleeper_28 : decode cX8_takeSleeper 28 = .ok (.invokevirtual 186, 3) := by decide +kernel
theorem dX8_takeSleeper_31 : decode cX8_takeSleeper 31 = .ok (.istore_n 2, 1) := by decide +kernel
theorem dX8_takeSleeper_32 : decode cX8_takeSleeper 32 = .ok (.iload_n 2, 1) := by decide +kernel
theorem dX8_takeSleeper_33 : decode cX8_takeSleeper 33 = .ok (.ifCond .le 7, 3) := by decide +kernel
theorem dX8_takeSleeper_36 : decode cX8_takeSleeper 36 = .ok (.iload_n 2, 1) := by decide +kernel
theorem dX8_takeSleeper_37 : decode cX8_takeSleeper 37 = .ok (.goto 17, 3) := by decide +kernel
theorem dX8_takeSleeper_40 : decode cX8_takeSleeper 40 = .ok (.aload_n 0, 1) := by decide +kernel
theorem dX8_takeSleeper_41 : decode cX8_takeSleeper 41 = .ok (.aload_n 0, 1) := by decide +kernel
theorem dX8_takeSleeper_42 : decode cX8_takeSleeper 42 = .ok (.getfield 74, 3) := by decide +kernel
theorem dX8_takeSleeper_45 : decode cX8_takeSleeper 45 = .ok (.iload_n 1, 1) := by decide +kernel
theorem dX8_takeSleeper_46 : decode cX8_takeSleeper 46 = .ok (.bipush 60, 2) := by decide +kernel
theorem dX8_takeSleeper_48 : decode cX8_takeSleeper 48 = .ok (.sipush 600, 3) := by decide +kernel
theorem dX8_takeSleeper_51 : decode cX8_takeSleeper 51 = .ok (.invokevirtual 186, 3) := by decide +kernel
theorem dX8_takeSleeper_54 : decode cX8_takeSleeper 54 = .ok (.istore_n 2, 1) := by decide +kernel
theorem dX8_takeSleeper_55 : decode cX8_takeSleeper 55 = .ok (.iload_n 2, 1) := by decide +kernel
theorem dX8_takeSleeper_56 : decode cX8_takeSleeper 56 = .ok (.ifCond .le 7, 3) := by decide +kernel
theorem dX8_takeSleeper_59 : decode cX8_takeSleeper 59 = .ok (.iload_n 2, 1) := by decide +kernel
theorem dX8_takeSleeper_60 : decode cX8_takeSleeper 60 = .ok (.goto 15, 3) := by decide +kernel
theorem dX8_takeSleeper_63 : decode cX8_takeSleeper 63 = .ok (.aload_n 0, 1) := by decide +kernel
theorem dX8_takeSleeper_64 : decode cX8_takeSleeper 64 = .ok (.aload_n 0, 1) := by decide +kernel
theorem dX8_takeSleeper_65 : decode cX8_takeSleeper 65 = .ok (.getfield 77, 3) := by decide +kernel
theorem dX8_takeSleeper_68 : decode cX8_takeSleeper 68 = .ok (.iload_n 1, 1) := by decide +kernel
theorem dX8_takeSleeper_69 : decode cX8_takeSleeper 69 = .ok (.iconst 0, 1) := by decide +kernel
theorem dX8_takeSleeper_70 : decode cX8_takeSleeper 70 = .ok (.bipush 59, 2) := by decide +kernel
theorem dX8_takeSleeper_72 : decode cX8_takeSleeper 72 = .ok (.invokevirtual 186, 3) := by decide +kernel
theorem dX8_takeSleeper_75 : decode cX8_takeSleeper 75 = .ok (.istore_n 2, 1) := by decide +kernel
theorem dX8_takeSleeper_76 : decode cX8_takeSleeper 76 = .ok (.iload_n 2, 1) := by decide +kernel
theorem dX8_takeSleeper_77 : decode cX8_takeSleeper 77 = .ok (.ifCond .le 7, 3) := by decide +kernel
theorem dX8_takeSleeper_80 : decode cX8_takeSleeper 80 = .ok (.iload_n 2, 1) := by decide +kernel
theorem dX8_takeSleeper_81 : decode cX8_takeSleeper 81 = .ok (.goto 15, 3) := by decide +kernel
theorem dX8_takeSleeper_84 : decode cX8_takeSleeper 84 = .ok (.aload_n 0, 1) := by decide +kernel
theorem dX8_takeSleeper_85 : decode cX8_takeSleeper 85 = .ok (.aload_n 0, 1) := by decide +kernel
theorem dX8_takeSleeper_86 : decode cX8_takeSleeper 86 = .ok (.getfield 80, 3) := by decide +kernel
theorem dX8_takeSleeper_89 : decode cX8_takeSleeper 89 = .ok (.iload_n 1, 1) := by decide +kernel
theorem dX8_takeSleeper_90 : decode cX8_takeSleeper 90 = .ok (.iconst 0, 1) := by decide +kernel
theorem dX8_takeSleeper_91 : decode cX8_takeSleeper 91 = .ok (.bipush 9, 2) := by decide +kernel
theorem dX8_takeSleeper_93 : decode cX8_takeSleeper 93 = .ok (.invokevirtual 186, 3) := by decide +kernel
theorem dX8_takeSleeper_96 : decode cX8_takeSleeper 96 = .ok (.ireturn, 1) := by decide +kernel
theorem dX8_takeClause_0 : decode cX8_takeClause 0 = .ok (.aload_n 0, 1) := by decide +kernel
theorem dX8_takeClause_1 : decode cX8_takeClause 1 = .ok (.invokevirtual 193, 3) := by decide +kernel
theorem dX8_takeClause_4 : decode cX8_takeClause 4 = .ok (.aload_n 0, 1) := by decide +kernel
theorem dX8_takeClause_5 : decode cX8_takeClause 5 = .ok (.getfield 147, 3) := by decide +kernel
theorem dX8_takeClause_8 : decode cX8_takeClause 8 = .ok (.bipush 104, 2) := by decide +kernel
theorem dX8_takeClause_10 : decode cX8_takeClause 10 = .ok (.bipush 111, 2) := by decide +kernel
theorem dX8_takeClause_12 : decode cX8_takeClause 12 = .ok (.bipush 117, 2) := by decide +kernel
theorem dX8_takeClause_14 : decode cX8_takeClause 14 = .ok (.invokestatic 196, 3) := by decide +kernel
theorem dX8_takeClause_17 : decode cX8_takeClause 17 = .ok (.bipush 115, 2) := by decide +kernel
theorem dX8_takeClause_19 : decode cX8_takeClause 19 = .ok (.bipush 101, 2) := by decide +kernel
theorem dX8_takeClause_21 : decode cX8_takeClause 21 = .ok (.invokestatic 200, 3) := by decide +kernel
theorem dX8_takeClause_24 : decode cX8_takeClause 24 = .ok (.lcmp, 1) := by decide +kernel
theorem dX8_takeClause_25 : decode cX8_takeClause 25 = .ok (.ifCond .ne 7, 3) := by decide +kernel
theorem dX8_takeClause_28 : decode cX8_takeClause 28 = .ok (.iconst 1, 1) := by decide +kernel
theorem dX8_takeClause_29 : decode cX8_takeClause 29 = .ok (.goto 4, 3) := by decide +kernel
theorem dX8_takeClause_32 : decode cX8_takeClause 32 = .ok (.iconst 0, 1) := by decide +kernel
theorem dX8_takeClause_33 : decode cX8_takeClause 33 = .ok (.istore_n 1, 1) := by decide +kernel
theorem dX8_takeClause_34 : decode cX8_takeClause 34 = .ok (.iload_n 1, 1) := by decide +kernel
theorem dX8_takeClause_35 : decode cX8_takeClause 35 = .ok (.ifCond .ne 44, 3) := by decide +kernel
theorem dX8_takeClause_38 : decode cX8_takeClause 38 = .ok (.aload_n 0, 1) := by decide +kernel
theorem dX8_takeClause_39 : decode cX8_takeClause 39 = .ok (.getfield 147, 3) := by decide +kernel
theorem dX8_takeClause_42 : decode cX8_takeClause 42 = .ok (.bipush 115, 2) := by decide +kernel
theorem dX8_takeClause_44 : decode cX8_takeClause 44 = .ok (.bipush 108, 2) := by decide +kernel
theorem dX8_takeClause_46 : decode cX8_takeClause 46 = .ok (.bipush 101, 2) := by decide +kernel
theorem dX8_takeClause_48 : decode cX8_takeClause 48 = .ok (.invokestatic 196, 3) := by decide +kernel
theorem dX8_takeClause_51 : decode cX8_takeClause 51 = .ok (.bipush 101, 2) := by decide +kernel
theorem dX8_takeClause_53 : decode cX8_takeClause 53 = .ok (.bipush 112, 2) := by decide +kernel
theorem dX8_takeClause_55 : decode cX8_takeClause 55 = .ok (.invokestatic 200, 3) := by decide +kernel
theorem dX8_takeClause_58 : decode cX8_takeClause 58 = .ok (.bipush 101, 2) := by decide +kernel
theorem dX8_takeClause_60 : decode cX8_takeClause 60 = .ok (.bipush 114, 2) := by decide +kernel
theorem dX8_takeClause_62 : decode cX8_takeClause 62 = .ok (.invokestatic 200, 3) := by decide +kernel
theorem dX8_takeClause_65 : decode cX8_takeClause 65 = .ok (.lcmp, 1) := by decide +kernel
theorem dX8_takeClause_66 : decode cX8_takeClause 66 = .ok (.ifCond .eq 13, 3) := by decide +kernel
theorem dX8_takeClause_69 : decode cX8_takeClause 69 = .ok (.aload_n 0, 1) := by decide +kernel
theorem dX8_takeClause_70 : decode cX8_takeClause 70 = .ok (.iconst 1, 1) := by decide +kernel
theorem dX8_takeClause_71 : decode cX8_takeClause 71 = .ok (.aload_n 0, 1) := by decide +kernel
theorem dX8_takeClause_72 : decode cX8_takeClause 72 = .ok (.getfield 140, 3) := by decide +kernel
theorem dX8_takeClause_75 : decode cX8_takeClause 75 = .ok (.invokevirtual 170, 3) := by decide +kernel
theorem dX8_takeClause_78 : decode cX8_takeClause 78 = .ok (.ireturn, 1) := by decide +kernel
theorem dX8_takeClause_79 : decode cX8_takeClause 79 = .ok (.iload_n 1, 1) := by decide +kernel
theorem dX8_takeClause_80 : decode cX8_takeClause 80 = .ok (.ifCond .eq 14, 3) := by decide +kernel
theorem dX8_takeClause_83 : decode cX8_takeClause 83 = .ok (.aload_n 0, 1) := by decide +kernel
theorem dX8_takeClause_84 : decode cX8_takeClause 84 = .ok (.getfield 183, 3) := by decide +kernel
theorem dX8_takeClause_87 : decode cX8_takeClause 87 = .ok (.iconst 5, 1) := by decide +kernel
theorem dX8_takeClause_88 : decode cX8_takeClause 88 = .ok (.if_icmp .ne 25, 3) := by decide +kernel
theorem dX8_takeClause_91 : decode cX8_takeClause 91 = .ok (.goto 12, 3) := by decide +kernel
theorem dX8_takeClause_94 : decode cX8_takeClause 94 = .ok (.aload_n 0, 1) := by decide +kernel
theorem dX8_takeClause_95 : decode cX8_takeClause 95 = .ok (.getfield 190, 3) := by decide +kernel
theorem dX8_takeClause_98 : decode cX8_takeClause 98 = .ok (.bipush 8, 2) := by decide +kernel
theorem dX8_takeClause_100 : decode cX8_takeClause 100 = .ok (.if_icmp .ne 13, 3) := by decide +kernel
theorem dX8_takeClause_103 : decode cX8_takeClause 103 = .ok (.aload_n 0, 1) := by decide +kernel
theorem dX8_takeClause_104 : decode cX8_takeClause 104 = .ok (.iconst 3, 1) := by decide +kernel
theorem dX8_takeClause_105 : decode cX8_takeClause 105 = .ok (.aload_n 0, 1) := by decide +kernel
theorem dX8_takeClause_106 : decode cX8_takeClause 106 = .ok (.getfield 140, 3) := by decide +kernel
theorem dX8_takeClause_109 : decode cX8_takeClause 109 = .ok (.invokevirtual 170, 3) := by decide +kernel
theorem dX8_takeClause_112 : decode cX8_takeClause 112 = .ok (.ireturn, 1) := by decide +kernel
theorem dX8_takeClause_113 : decode cX8_takeClause 113 = .ok (.aload_n 0, 1) := by decide +kernel
theorem dX8_takeClause_114 : decode cX8_takeClause 114 = .ok (.aload_n 0, 1) := by decide +kernel
theorem dX8_takeClause_115 : decode cX8_takeClause 115 = .ok (.getfield 151, 3) := by decide +kernel
theorem dX8_takeClause_118 : decode cX8_takeClause 118 = .ok (.putfield 140, 3) := by decide +kernel
theorem dX8_takeClause_121 : decode cX8_takeClause 121 = .ok (.iload_n 1, 1) := by decide +kernel
theorem dX8_takeClause_122 : decode cX8_takeClause 122 = .ok (.ifCond .eq 10, 3) := by decide +kernel
theorem dX8_takeClause_125 : decode cX8_takeClause 125 = .ok (.aload_n 0, 1) := by decide +kernel
theorem dX8_takeClause_126 : decode cX8_takeClause 126 = .ok (.invokevirtual 204, 3) := by decide +kernel
theorem dX8_takeClause_129 : decode cX8_takeClause 129 = .ok (.goto 7, 3) := by decide +kernel
theorem dX8_takeClause_132 : decode cX8_takeClause 132 = .ok (.aload_n 0, 1) := by decide +kernel
theorem dX8_takeClause_133 : decode cX8_takeClause 133 = .ok (.invokevirtual 207, 3) := by decide +kernel
theorem dX8_takeClause_136 : decode cX8_takeClause 136 = .ok (.istore_n 2, 1) := by decide +kernel
theorem dX8_takeClause_137 : decode cX8_takeClause 137 = .ok (.iload_n 2, 1) := by decide +kernel
theorem dX8_takeClause_138 : decode cX8_takeClause 138 = .ok (.ifCond .ne 22, 3) := by decide +kernel
theorem dX8_takeClause_141 : decode cX8_takeClause 141 = .ok (.aload_n 0, 1) := by decide +kernel
theorem dX8_takeClause_142 : decode cX8_takeClause 142 = .ok (.invokevirtual 143, 3) := by decide +kernel
theorem dX8_takeClause_145 : decode cX8_takeClause 145 = .ok (.bipush 59, 2) := by decide +kernel
theorem dX8_takeClause_147 : decode cX8_takeClause 147 = .ok (.if_icmp .eq 13, 3) := by decide +kernel
theorem dX8_takeClause_150 : decode cX8_takeClause 150 = .ok (.aload_n 0, 1) := by decide +kernel
theorem dX8_takeClause_151 : decode cX8_takeClause 151 = .ok (.iconst 1, 1) := by decide +kernel
theorem dX8_takeClause_152 : decode cX8_takeClause 152 = .ok (.aload_n 0, 1) := by decide +kernel
theorem dX8_takeClause_153 : decode cX8_takeClause 153 = .ok (.getfield 140, 3) := by decide +kernel
theorem dX8_takeClause_156 : decode cX8_takeClause 156 = .ok (.invokevirtual 170, 3) := by decide +kernel
theorem dX8_takeClause_159 : decode cX8_takeClause 159 = .ok (.ireturn, 1) := by decide +kernel
theorem dX8_takeClause_160 : decode cX8_takeClause 160 = .ok (.aload_n 0, 1) := by decide +kernel
theorem dX8_takeClause_161 : decode cX8_takeClause 161 = .ok (.dup, 1) := by decide +kernel
theorem dX8_takeClause_162 : decode cX8_takeClause 162 = .ok (.getfield 140, 3) := by decide +kernel
theorem dX8_takeClause_165 : decode cX8_takeClause 165 = .ok (.iconst 1, 1) := by decide +kernel
theorem dX8_takeClause_166 : decode cX8_takeClause 166 = .ok (.iadd, 1) := by decide +kernel
theorem dX8_takeClause_167 : decode cX8_takeClause 167 = .ok (.putfield 140, 3) := by decide +kernel
theorem dX8_takeClause_170 : decode cX8_takeClause 170 = .ok (.iload_n 2, 1) := by decide +kernel
theorem dX8_takeClause_171 : decode cX8_takeClause 171 = .ok (.ireturn, 1) := by decide +kernel
theorem dX8_valley_0 : decode cX8_valley 0 = .ok (.aload_n 0, 1) := by decide +kernel
theorem dX8_valley_1 : decode cX8_valley 1 = .ok (.iconst (-1), 1) := by decide +kernel
theorem dX8_valley_2 : decode cX8_valley 2 = .ok (.putfield 59, 3) := by decide +kernel
theorem dX8_valley_5 : decode cX8_valley 5 = .ok (.aload_n 0, 1) := by decide +kernel
theorem dX8_valley_6 : decode cX8_valley 6 = .ok (.iconst 0, 1) := by decide +kernel
theorem dX8_valley_7 : decode cX8_valley 7 = .ok (.putfield 140, 3) := by decide +kernel
theorem dX8_valley_10 : decode cX8_valley 10 = .ok (.aload_n 0, 1) := by decide +kernel
theorem dX8_valley_11 : decode cX8_valley 11 = .ok (.iconst 0, 1) := by decide +kernel
theorem dX8_valley_12 : decode cX8_valley 12 = .ok (.putfield 183, 3) := by decide +kernel
theorem dX8_valley_15 : decode cX8_valley 15 = .ok (.aload_n 0, 1) := by decide +kernel
theorem dX8_valley_16 : decode cX8_valley 16 = .ok (.iconst 0, 1) := by decide +kernel
theorem dX8_valley_17 : decode cX8_valley 17 = .ok (.putfield 190, 3) := by decide +kernel
theorem dX8_valley_20 : decode cX8_valley 20 = .ok (.iconst 0, 1) := by decide +kernel
theorem dX8_valley_21 : decode cX8_valley 21 = .ok (.istore_n 1, 1) := by decide +kernel
theorem dX8_valley_22 : decode cX8_valley 22 = .ok (.iload_n 1, 1) := by decide +kernel
theorem dX8_valley_23 : decode cX8_valley 23 = .ok (.ifCond .ne 18, 3) := by decide +kernel
theorem dX8_valley_26 : decode cX8_valley 26 = .ok (.aload_n 0, 1) := by decide +kernel
theorem dX8_valley_27 : decode cX8_valley 27 = .ok (.invokevirtual 143, 3) := by decide +kernel
theorem dX8_valley_30 : decode cX8_valley 30 = .ok (.ifCond .lt 11, 3) := by decide +kernel
theorem dX8_valley_33 : decode cX8_valley 33 = .ok (.aload_n 0, 1) := by decide +kernel
theorem dX8_valley_34 : decode cX8_valley 34 = .ok (.invokevirtual 210, 3) := by decide +kernel
theorem dX8_valley_37 : decode cX8_valley 37 = .ok (.istore_n 1, 1) := by decide +kernel
theorem dX8_valley_38 : decode cX8_valley 38 = .ok (.goto (-16), 3) := by decide +kernel
theorem dX8_valley_41 : decode cX8_valley 41 = .ok (.aload_n 0, 1) := by decide +kernel
theorem dX8_valley_42 : decode cX8_valley 42 = .ok (.iconst 0, 1) := by decide +kernel
theorem dX8_valley_43 : decode cX8_valley 43 = .ok (.putfield 134, 3) := by decide +kernel
theorem dX8_valley_46 : decode cX8_valley 46 = .ok (.iload_n 1, 1) := by decide +kernel
theorem dX8_valley_47 : decode cX8_valley 47 = .ok (.ifCond .le 8, 3) := by decide +kernel
theorem dX8_valley_50 : decode cX8_valley 50 = .ok (.bipush (-10), 2) := by decide +kernel
theorem dX8_valley_52 : decode cX8_valley 52 = .ok (.iload_n 1, 1) := by decide +kernel
theorem dX8_valley_53 : decode cX8_valley 53 = .ok (.isub, 1) := by decide +kernel
theorem dX8_valley_54 : decode cX8_valley 54 = .ok (.ireturn, 1) := by decide +kernel
theorem dX8_valley_55 : decode cX8_valley 55 = .ok (.aload_n 0, 1) := by decide +kernel
theorem dX8_valley_56 : decode cX8_valley 56 = .ok (.aload_n 0, 1) := by decide +kernel
theorem dX8_valley_57 : decode cX8_valley 57 = .ok (.getfield 183, 3) := by decide +kernel
theorem dX8_valley_60 : decode cX8_valley 60 = .ok (.putfield 109, 3) := by decide +kernel
theorem dX8_valley_63 : decode cX8_valley 63 = .ok (.aload_n 0, 1) := by decide +kernel
theorem dX8_valley_64 : decode cX8_valley 64 = .ok (.aload_n 0, 1) := by decide +kernel
theorem dX8_valley_65 : decode cX8_valley 65 = .ok (.getfield 190, 3) := by decide +kernel
theorem dX8_valley_68 : decode cX8_valley 68 = .ok (.putfield 116, 3) := by decide +kernel
theorem dX8_valley_71 : decode cX8_valley 71 = .ok (.iconst 0, 1) := by decide +kernel
theorem dX8_valley_72 : decode cX8_valley 72 = .ok (.istore_n 2, 1) := by decide +kernel
theorem dX8_valley_73 : decode cX8_valley 73 = .ok (.iload_n 2, 1) := by decide +kernel
theorem dX8_valley_74 : decode cX8_valley 74 = .ok (.iconst 5, 1) := by decide +kernel
theorem dX8_valley_75 : decode cX8_valley 75 = .ok (.if_icmp .ge 45, 3) := by decide +kernel
theorem dX8_valley_78 : decode cX8_valley 78 = .ok (.aload_n 0, 1) := by decide +kernel
theorem dX8_valley_79 : decode cX8_valley 79 = .ok (.getfield 7, 3) := by decide +kernel
theorem dX8_valley_82 : decode cX8_valley 82 = .ok (.iload_n 2, 1) := by decide +kernel
theorem dX8_valley_83 : decode cX8_valley 83 = .ok (.aload_n 0, 1) := by decide +kernel
theorem dX8_valley_84 : decode cX8_valley 84 = .ok (.getfield 62, 3) := by decide +kernel
theorem dX8_valley_87 : decode cX8_valley 87 = .ok (.iload_n 2, 1) := by decide +kernel
theorem dX8_valley_88 : decode cX8_valley 88 = .ok (.iaload, 1) := by decide +kernel
theorem dX8_valley_89 : decode cX8_valley 89 = .ok (.iastore, 1) := by decide +kernel
theorem dX8_valley_90 : decode cX8_valley 90 = .ok (.aload_n 0, 1) := by decide +kernel
theorem dX8_valley_91 : decode cX8_valley 91 = .ok (.getfield 13, 3) := by decide +kernel
theorem dX8_valley_94 : decode cX8_valley 94 = .ok (.iload_n 2, 1) := by decide +kernel
theorem dX8_valley_95 : decode cX8_valley 95 = .ok (.aload_n 0, 1) := by decide +kernel
theorem dX8_valley_96 : decode cX8_valley 96 = .ok (.getfield 65, 3) := by decide +kernel
theorem dX8_valley_99 : decode cX8_valley 99 = .ok (.iload_n 2, 1) := by decide +kernel
theorem dX8_valley_100 : decode cX8_valley 100 = .ok (.iaload, 1) := by decide +kernel
theorem dX8_valley_101 : decode cX8_valley 101 = .ok (.iastore, 1) := by decide +kernel
theorem dX8_valley_102 : decode cX8_valley 102 = .ok (.aload_n 0, 1) := by decide +kernel
theorem dX8_valley_103 : decode cX8_valley 103 = .ok (.getfield 16, 3) := by decide +kernel
theorem dX8_valley_106 : decode cX8_valley 106 = .ok (.iload_n 2, 1) := by decide +kernel
theorem dX8_valley_107 : decode cX8_valley 107 = .ok (.aload_n 0, 1) := by decide +kernel
theorem dX8_valley_108 : decode cX8_valley 108 = .ok (.getfield 68, 3) := by decide +kernel
theorem dX8_valley_111 : decode cX8_valley 111 = .ok (.iload_n 2, 1) := by decide +kernel
theorem dX8_valley_112 : decode cX8_valley 112 = .ok (.iaload, 1) := by decide +kernel
theorem dX8_valley_113 : decode cX8_valley 113 = .ok (.iastore, 1) := by decide +kernel
theorem dX8_valley_114 : decode cX8_valley 114 = .ok (.iinc 2 1, 3) := by decide +kernel
theorem dX8_valley_117 : decode cX8_valley 117 = .ok (.goto (-44), 3) := by decide +kernel
theorem dX8_valley_120 : decode cX8_valley 120 = .ok (.iconst 0, 1) := by decide +kernel
theorem dX8_valley_121 : decode cX8_valley 121 = .ok (.istore_n 2, 1) := by decide +kernel
theorem dX8_valley_122 : decode cX8_valley 122 = .ok (.iload_n 2, 1) := by decide +kernel
theorem dX8_valley_123 : decode cX8_valley 123 = .ok (.bipush 8, 2) := by decide +kernel
theorem dX8_valley_125 : decode cX8_valley 125 = .ok (.if_icmp .ge 57, 3) := by decide +kernel
theorem dX8_valley_128 : decode cX8_valley 128 = .ok (.aload_n 0, 1) := by decide +kernel
theorem dX8_valley_129 : decode cX8_valley 129 = .ok (.getfield 19, 3) := by decide +kernel
theorem dX8_valley_132 : decode cX8_valley 132 = .ok (.iload_n 2, 1) := by decide +kernel
theorem dX8_valley_133 : decode cX8_valley 133 = .ok (.aload_n 0, 1) := by decide +kernel
theorem dX8_valley_134 : decode cX8_valley 134 = .ok (.getfield 71, 3) := by decide +kernel
theorem dX8_valley_137 : decode cX8_valley 137 = .ok (.iload_n 2, 1) := by decide +kernel
theorem dX8_valley_138 : decode cX8_valley 138 = .ok (.iaload, 1) := by decide +kernel
theorem dX8_valley_139 : decode cX8_valley 139 = .ok (.iastore, 1) := by decide +kernel
theorem dX8_valley_140 : decode cX8_valley 140 = .ok (.aload_n 0, 1) := by decide +kernel
theorem dX8_valley_141 : decode cX8_valley 141 = .ok (.getfield 22, 3) := by decide +kernel
theorem dX8_valley_144 : decode cX8_valley 144 = .ok (.iload_n 2, 1) := by decide +kernel
theorem dX8_valley_145 : decode cX8_valley 145 = .ok (.aload_n 0, 1) := by decide +kernel
theorem dX8_valley_146 : decode cX8_valley 146 = .ok (.getfield 74, 3) := by decide +kernel
theorem dX8_valley_149 : decode cX8_valley 149 = .ok (.iload_n 2, 1) := by decide +kernel
theorem dX8_valley_150 : decode cX8_valley 150 = .ok (.iaload, 1) := by decide +kernel
theorem dX8_valley_151 : decode cX8_valley 151 = .ok (.iastore, 1) := by decide +kernel
theorem dX8_valley_152 : decode cX8_valley 152 = .ok (.aload_n 0, 1) := by decide +kernel
theorem dX8_valley_153 : decode cX8_valley 153 = .ok (.getfield 25, 3) := by decide +kernel
theorem dX8_valley_156 : decode cX8_valley 156 = .ok (.iload_n 2, 1) := by decide +kernel
theorem dX8_valley_157 : decode cX8_valley 157 = .ok (.aload_n 0, 1) := by decide +kernel
theorem dX8_valley_158 : decode cX8_valley 158 = .ok (.getfield 77, 3) := by decide +kernel
theorem dX8_valley_161 : decode cX8_valley 161 = .ok (.iload_n 2, 1) := by decide +kernel
theorem dX8_valley_162 : decode cX8_valley 162 = .ok (.iaload, 1) := by decide +kernel
theorem dX8_valley_163 : decode cX8_valley 163 = .ok (.iastore, 1) := by decide +kernel
theorem dX8_valley_164 : decode cX8_valley 164 = .ok (.aload_n 0, 1) := by decide +kernel
theorem dX8_valley_165 : decode cX8_valley 165 = .ok (.getfield 28, 3) := by decide +kernel
theorem dX8_valley_168 : decode cX8_valley 168 = .ok (.iload_n 2, 1) := by decide +kernel
theorem dX8_valley_169 : decode cX8_valley 169 = .ok (.aload_n 0, 1) := by decide +kernel
theorem dX8_valley_170 : decode cX8_valley 170 = .ok (.getfield 80, 3) := by decide +kernel
theorem dX8_valley_173 : decode cX8_valley 173 = .ok (.iload_n 2, 1) := by decide +kernel
theorem dX8_valley_174 : decode cX8_valley 174 = .ok (.iaload, 1) := by decide +kernel
theorem dX8_valley_175 : decode cX8_valley 175 = .ok (.iastore, 1) := by decide +kernel
theorem dX8_valley_176 : decode cX8_valley 176 = .ok (.iinc 2 1, 3) := by decide +kernel
theorem dX8_valley_179 : decode cX8_valley 179 = .ok (.goto (-57), 3) := by decide +kernel
theorem dX8_valley_182 : decode cX8_valley 182 = .ok (.aload_n 0, 1) := by decide +kernel
theorem dX8_valley_183 : decode cX8_valley 183 = .ok (.iconst 0, 1) := by decide +kernel
theorem dX8_valley_184 : decode cX8_valley 184 = .ok (.putfield 213, 3) := by decide +kernel
theorem dX8_valley_187 : decode cX8_valley 187 = .ok (.aload_n 0, 1) := by decide +kernel
theorem dX8_valley_188 : decode cX8_valley 188 = .ok (.getfield 105, 3) := by decide +kernel
theorem dX8_valley_191 : decode cX8_valley 191 = .ok (.iconst 0, 1) := by decide +kernel
theorem dX8_valley_192 : decode cX8_valley 192 = .ok (.iconst 0, 1) := by decide +kernel
theorem dX8_valley_193 : decode cX8_valley 193 = .ok (.bastore, 1) := by decide +kernel
theorem dX8_valley_194 : decode cX8_valley 194 = .ok (.aload_n 0, 1) := by decide +kernel
theorem dX8_valley_195 : decode cX8_valley 195 = .ok (.getfield 105, 3) := by decide +kernel
theorem dX8_valley_198 : decode cX8_valley 198 = .ok (.iconst 1, 1) := by decide +kernel
theorem dX8_valley_199 : decode cX8_valley 199 = .ok (.iconst 0, 1) := by decide +kernel
theorem dX8_valley_200 : decode cX8_valley 200 = .ok (.bastore, 1) := by decide +kernel
theorem dX8_valley_201 : decode cX8_valley 201 = .ok (.aload_n 0, 1) := by decide +kernel
theorem dX8_valley_202 : decode cX8_valley 202 = .ok (.invokevirtual 216, 3) := by decide +kernel
theorem dX8_valley_205 : decode cX8_valley 205 = .ok (.aload_n 0, 1) := by decide +kernel
theorem dX8_valley_206 : decode cX8_valley 206 = .ok (.getfield 116, 3) := by decide +kernel
theorem dX8_valley_209 : decode cX8_valley 209 = .ok (.ireturn, 1) := by decide +kernel
theorem dX8_fault_0 : decode cX8_fault 0 = .ok (.aload_n 0, 1) := by decide +kernel
theorem dX8_fault_1 : decode cX8_fault 1 = .ok (.getfield 59, 3) := by decide +kernel
theorem dX8_fault_4 : decode cX8_fault 4 = .ok (.ireturn, 1) := by decide +kernel
theorem dX8_told_0 : decode cX8_told 0 = .ok (.iload_n 1, 1) := by decide +kernel
theorem dX8_told_1 : decode cX8_told 1 = .ok (.tableswitch 114 0 10 #[59, 64, 69, 74, 79, 84, 89, 94, 99, 104, 109], 59) := by decide +kernel
theorem dX8_told_60 : decode cX8_told 60 = .ok (.aload_n 0, 1) := by decide +kernel
theorem dX8_told_61 : decode cX8_told 61 = .ok (.getfield 109, 3) := by decide +kernel
theorem dX8_told_64 : decode cX8_told 64 = .ok (.ireturn, 1) := by decide +kernel
theorem dX8_told_65 : decode cX8_told 65 = .ok (.aload_n 0, 1) := by decide +kernel
theorem dX8_told_66 : decode cX8_told 66 = .ok (.getfield 116, 3) := by decide +kernel
theorem dX8_told_69 : decode cX8_told 69 = .ok (.ireturn, 1) := by decide +kernel
theorem dX8_told_70 : decode cX8_told 70 = .ok (.aload_n 0, 1) := by decide +kernel
theorem dX8_told_71 : decode cX8_told 71 = .ok (.getfield 134, 3) := by decide +kernel
theorem dX8_told_74 : decode cX8_told 74 = .ok (.ireturn, 1) := by decide +kernel
theorem dX8_told_75 : decode cX8_told 75 = .ok (.aload_n 0, 1) := by decide +kernel
theorem dX8_told_76 : decode cX8_told 76 = .ok (.getfield 122, 3) := by decide +kernel
theorem dX8_told_79 : decode cX8_told 79 = .ok (.ireturn, 1) := by decide +kernel
theorem dX8_told_80 : decode cX8_told 80 = .ok (.aload_n 0, 1) := by decide +kernel
theorem dX8_told_81 : decode cX8_told 81 = .ok (.getfield 119, 3) := by decide +kernel
theorem dX8_told_84 : decode cX8_told 84 = .ok (.ireturn, 1) := by decide +kernel
theorem dX8_told_85 : decode cX8_told 85 = .ok (.aload_n 0, 1) := by decide +kernel
theorem dX8_told_86 : decode cX8_told 86 = .ok (.getfield 34, 3) := by decide +kernel
theorem dX8_told_89 : decode cX8_told 89 = .ok (.ireturn, 1) := by decide +kernel
theorem dX8_told_90 : decode cX8_told 90 = .ok (.aload_n 0, 1) := by decide +kernel
theorem dX8_told_91 : decode cX8_told 91 = .ok (.getfield 38, 3) := by decide +kernel
theorem dX8_told_94 : decode cX8_told 94 = .ok (.ireturn, 1) := by decide +kernel
theorem dX8_told_95 : decode cX8_told 95 = .ok (.aload_n 0, 1) := by decide +kernel
theorem dX8_told_96 : decode cX8_told 96 = .ok (.getfield 41, 3) := by decide +kernel
theorem dX8_told_99 : decode cX8_told 99 = .ok (.ireturn, 1) := by decide +kernel
theorem dX8_told_100 : decode cX8_told 100 = .ok (.aload_n 0, 1) := by decide +kernel
theorem dX8_told_101 : decode cX8_told 101 = .ok (.getfield 128, 3) := by decide +kernel
theorem dX8_told_104 : decode cX8_told 104 = .ok (.ireturn, 1) := by decide +kernel
theorem dX8_told_105 : decode cX8_told 105 = .ok (.aload_n 0, 1) := by decide +kernel
theorem dX8_told_106 : decode cX8_told 106 = .ok (.getfield 125, 3) := by decide +kernel
theorem dX8_told_109 : decode cX8_told 109 = .ok (.ireturn, 1) := by decide +kernel
theorem dX8_told_110 : decode cX8_told 110 = .ok (.aload_n 0, 1) := by decide +kernel
theorem dX8_told_111 : decode cX8_told 111 = .ok (.getfield 213, 3) := by decide +kernel
theorem dX8_told_114 : decode cX8_told 114 = .ok (.ireturn, 1) := by decide +kernel
theorem dX8_told_115 : decode cX8_told 115 = .ok (.ldc 133, 2) := by decide +kernel
theorem dX8_told_117 : decode cX8_told 117 = .ok (.ireturn, 1) := by decide +kernel
theorem dX8_sleepersOf_0 : decode cX8_sleepersOf 0 = .ok (.iconst 0, 1) := by decide +kernel
theorem dX8_sleepersOf_1 : decode cX8_sleepersOf 1 = .ok (.istore_n 2, 1) := by decide +kernel
theorem dX8_sleepersOf_2 : decode cX8_sleepersOf 2 = .ok (.iconst 0, 1) := by decide +kernel
theorem dX8_sleepersOf_3 : decode cX8_sleepersOf 3 = .ok (.istore_n 3, 1) := by decide +kernel
theorem dX8_sleepersOf_4 : decode cX8_sleepersOf 4 = .ok (.iload_n 3, 1) := by decide +kernel
theorem dX8_sleepersOf_5 : decode cX8_sleepersOf 5 = .ok (.aload_n 0, 1) := by decide +kernel
theorem dX8_sleepersOf_6 : decode cX8_sleepersOf 6 = .ok (.getfield 116, 3) := by decide +kernel
theorem dX8_sleepersOf_9 : decode cX8_sleepersOf 9 = .ok (.if_icmp .ge 29, 3) := by decide +kernel
theorem dX8_sleepersOf_12 : decode cX8_sleepersOf 12 = .ok (.iload_n 2, 1) := by decide +kernel
theorem dX8_sleepersOf_13 : decode cX8_sleepersOf 13 = .ok (.aload_n 0, 1) := by decide +kernel
theorem dX8_sleepersOf_14 : decode cX8_sleepersOf 14 = .ok (.getfield 19, 3) := by decide +kernel
theorem dX8_sleepersOf_17 : decode cX8_sleepersOf 17 = .ok (.iload_n 3, 1) := by decide +kernel
theorem dX8_sleepersOf_18 : decode cX8_sleepersOf 18 = .ok (.iaload, 1) := by decide +kernel
theorem dX8_sleepersOf_19 : decode cX8_sleepersOf 19 = .ok (.iload_n 1, 1) := by decide +kernel
theorem dX8_sleepersOf_20 : decode cX8_sleepersOf 20 = .ok (.if_icmp .ne 9, 3) := by decide +kernel
theorem dX8_sleepersOf_23 : decode cX8_sleepersOf 23 = .ok (.iconst 1, 1) := by decide +kernel
theorem dX8_sleepersOf_24 : decode cX8_sleepersOf 24 = .ok (.iload_n 3, 1) := by decide +kernel
theorem dX8_sleepersOf_25 : decode cX8_sleepersOf 25 = .ok (.ishl, 1) := by decide +kernel
theorem dX8_sleepersOf_26 : decode cX8_sleepersOf 26 = .ok (.goto 4, 3) := by decide +kernel
theorem dX8_sleepersOf_29 : decode cX8_sleepersOf 29 = .ok (.iconst 0, 1) := by decide +kernel
theorem dX8_sleepersOf_30 : decode cX8_sleepersOf 30 = .ok (.ior, 1) := by decide +kernel
theorem dX8_sleepersOf_31 : decode cX8_sleepersOf 31 = .ok (.istore_n 2, 1) := by decide +kernel
theorem dX8_sleepersOf_32 : decode cX8_sleepersOf 32 = .ok (.iinc 3 1, 3) := by decide +kernel
theorem dX8_sleepersOf_35 : decode cX8_sleepersOf 35 = .ok (.goto (-31), 3) := by decide +kernel
theorem dX8_sleepersOf_38 : decode cX8_sleepersOf 38 = .ok (.iload_n 2, 1) := by decide +kernel
theorem dX8_sleepersOf_39 : decode cX8_sleepersOf 39 = .ok (.ireturn, 1) := by decide +kernel
theorem dX8_house_0 : decode cX8_house 0 = .ok (.aload_n 0, 1) := by decide +kernel
theorem dX8_house_1 : decode cX8_house 1 = .ok (.iload_n 1, 1) := by decide +kernel
theorem dX8_house_2 : decode cX8_house 2 = .ok (.invokevirtual 219, 3) := by decide +kernel
theorem dX8_house_5 : decode cX8_house 5 = .ok (.ifCond .ne 6, 3) := by decide +kernel
theorem dX8_house_8 : decode cX8_house 8 = .ok (.ldc 223, 2) := by decide +kernel
theorem dX8_house_10 : decode cX8_house 10 = .ok (.ireturn, 1) := by decide +kernel
theorem dX8_house_11 : decode cX8_house 11 = .ok (.iload_n 2, 1) := by decide +kernel
theorem dX8_house_12 : decode cX8_house 12 = .ok (.tableswitch 81 0 5 #[40, 47, 54, 61, 68, 75], 40) := by decide +kernel
theorem dX8_house_52 : decode cX8_house 52 = .ok (.aload_n 0, 1) := by decide +kernel
theorem dX8_house_53 : decode cX8_house 53 = .ok (.getfield 7, 3) := by decide +kernel
theorem dX8_house_56 : decode cX8_house 56 = .ok (.iload_n 1, 1) := by decide +kernel
theorem dX8_house_57 : decode cX8_house 57 = .ok (.iaload, 1) := by decide +kernel
theorem dX8_house_58 : decode cX8_house 58 = .ok (.ireturn, 1) := by decide +kernel
theorem dX8_house_59 : decode cX8_house 59 = .ok (.aload_n 0, 1) := by decide +kernel
theorem dX8_house_60 : decode cX8_house 60 = .ok (.getfield 13, 3) := by decide +kernel
theorem dX8_house_63 : decode cX8_house 63 = .ok (.iload_n 1, 1) := by decide +kernel
theorem dX8_house_64 : decode cX8_house 64 = .ok (.iaload, 1) := by decide +kernel
theorem dX8_house_65 : decode cX8_house 65 = .ok (.ireturn, 1) := by decide +kernel
theorem dX8_house_66 : decode cX8_house 66 = .ok (.aload_n 0, 1) := by decide +kernel
theorem dX8_house_67 : decode cX8_house 67 = .ok (.getfield 16, 3) := by decide +kernel
theorem dX8_house_70 : decode cX8_house 70 = .ok (.iload_n 1, 1) := by decide +kernel
theorem dX8_house_71 : decode cX8_house 71 = .ok (.iaload, 1) := by decide +kernel
theorem dX8_house_72 : decode cX8_house 72 = .ok (.ireturn, 1) := by decide +kernel
theorem dX8_house_73 : decode cX8_house 73 = .ok (.aload_n 0, 1) := by decide +kernel
theorem dX8_house_74 : decode cX8_house 74 = .ok (.getfield 44, 3) := by decide +kernel
theorem dX8_house_77 : decode cX8_house 77 = .ok (.iload_n 1, 1) := by decide +kernel
theorem dX8_house_78 : decode cX8_house 78 = .ok (.iaload, 1) := by decide +kernel
theorem dX8_house_79 : decode cX8_house 79 = .ok (.ireturn, 1) := by decide +kernel
theorem dX8_house_80 : decode cX8_house 80 = .ok (.aload_n 0, 1) := by decide +kernel
theorem dX8_house_81 : decode cX8_house 81 = .ok (.getfield 47, 3) := by decide +kernel
theorem dX8_house_84 : decode cX8_house 84 = .ok (.iload_n 1, 1) := by decide +kernel
theorem dX8_house_85 : decode cX8_house 85 = .ok (.iaload, 1) := by decide +kernel
theorem dX8_house_86 : decode cX8_house 86 = .ok (.ireturn, 1) := by decide +kernel
theorem dX8_house_87 : decode cX8_house 87 = .ok (.aload_n 0, 1) := by decide +kernel
theorem dX8_house_88 : decode cX8_house 88 = .ok (.iload_n 1, 1) := by decide +kernel
theorem dX8_house_89 : decode cX8_house 89 = .ok (.invokevirtual 224, 3) := by decide +kernel
theorem dX8_house_92 : decode cX8_house 92 = .ok (.ireturn, 1) := by decide +kernel
theorem dX8_house_93 : decode cX8_house 93 = .ok (.ldc 133, 2) := by decide +kernel
theorem dX8_house_95 : decode cX8_house 95 = .ok (.ireturn, 1) := by decide +kernel
theorem dX8_isStartled_0 : decode cX8_isStartled 0 = .ok (.aload_n 0, 1) := by decide +kernel
theorem dX8_isStartled_1 : decode cX8_isStartled 1 = .ok (.getfield 34, 3) := by decide +kernel
theorem dX8_isStartled_4 : decode cX8_isStartled 4 = .ok (.ifCond .lt 33, 3) := by decide +kernel
theorem dX8_isStartled_7 : decode cX8_isStartled 7 = .ok (.aload_n 0, 1) := by decide +kernel
theorem dX8_isStartled_8 : decode cX8_isStartled 8 = .ok (.getfield 28, 3) := by decide +kernel
theorem dX8_isStartled_11 : decode cX8_isStartled 11 = .ok (.iload_n 1, 1) := by decide +kernel
theorem dX8_isStartled_12 : decode cX8_isStartled 12 = .ok (.iaload, 1) := by decide +kernel
theorem dX8_isStartled_13 : decode cX8_isStartled 13 = .ok (.aload_n 0, 1) := by decide +kernel
theorem dX8_isStartled_14 : decode cX8_isStartled 14 = .ok (.getfield 38, 3) := by decide +kernel
theorem dX8_isStartled_17 : decode cX8_isStartled 17 = .ok (.if_icmp .ge 20, 3) := by decide +kernel
theorem dX8_isStartled_20 : decode cX8_isStartled 20 = .ok (.aload_n 0, 1) := by decide +kernel
theorem dX8_isStartled_21 : decode cX8_isStartled 21 = .ok (.getfield 19, 3) := by decide +kernel
theorem dX8_isStartled_24 : decode cX8_isStartled 24 = .ok (.iload_n 1, 1) := by decide +kernel
theorem dX8_isStartled_25 : decode cX8_isStartled 25 = .ok (.iaload, 1) := by decide +kernel
theorem dX8_isStartled_26 : decode cX8_isStartled 26 = .ok (.aload_n 0, 1) := by decide +kernel
theorem dX8_isStartled_27 : decode cX8_isStartled 27 = .ok (.getfield 41, 3) := by decide +kernel
theorem dX8_isStartled_30 : decode cX8_isStartled 30 = .ok (.if_icmp .eq 7, 3) := by decide +kernel
theorem dX8_isStartled_33 : decode cX8_isStartled 33 = .ok (.iconst 1, 1) := by decide +kernel
theorem dX8_isStartled_34 : decode cX8_isStartled 34 = .ok (.goto 4, 3) := by decide +kernel
theorem dX8_isStartled_37 : decode cX8_isStartled 37 = .ok (.iconst 0, 1) := by decide +kernel
theorem dX8_isStartled_38 : decode cX8_isStartled 38 = .ok (.ireturn, 1) := by decide +kernel
theorem dX8_heard_0 : decode cX8_heard 0 = .ok (.aload_n 0, 1) := by decide +kernel
theorem dX8_heard_1 : decode cX8_heard 1 = .ok (.iload_n 1, 1) := by decide +kernel
theorem dX8_heard_2 : decode cX8_heard 2 = .ok (.invokevirtual 228, 3) := by decide +kernel
theorem dX8_heard_5 : decode cX8_heard 5 = .ok (.ifCond .eq 18, 3) := by decide +kernel
theorem dX8_heard_8 : decode cX8_heard 8 = .ok (.iload_n 2, 1) := by decide +kernel
theorem dX8_heard_9 : decode cX8_heard 9 = .ok (.aload_n 0, 1) := by decide +kernel
theorem dX8_heard_10 : decode cX8_heard 10 = .ok (.getfield 34, 3) := by decide +kernel
theorem dX8_heard_13 : decode cX8_heard 13 = .ok (.if_icmp .le 10, 3) := by decide +kernel
theorem dX8_heard_16 : decode cX8_heard 16 = .ok (.aload_n 0, 1) := by decide +kernel
theorem dX8_heard_17 : decode cX8_heard 17 = .ok (.getfield 34, 3) := by decide +kernel
theorem dX8_heard_20 : decode cX8_heard 20 = .ok (.goto 4, 3) := by decide +kernel
theorem dX8_heard_23 : decode cX8_heard 23 = .ok (.iload_n 2, 1) := by decide +kernel
theorem dX8_heard_24 : decode cX8_heard 24 = .ok (.ireturn, 1) := by decide +kernel
theorem dX8_firstOf_0 : decode cX8_firstOf 0 = .ok (.aload_n 0, 1) := by decide +kernel
theorem dX8_firstOf_1 : decode cX8_firstOf 1 = .ok (.getfield 22, 3) := by decide +kernel
theorem dX8_firstOf_4 : decode cX8_firstOf 4 = .ok (.iload_n 1, 1) := by decide +kernel
theorem dX8_firstOf_5 : decode cX8_firstOf 5 = .ok (.iaload, 1) := by decide +kernel
theorem dX8_firstOf_6 : decode cX8_firstOf 6 = .ok (.aload_n 0, 1) := by decide +kernel
theorem dX8_firstOf_7 : decode cX8_firstOf 7 = .ok (.getfield 31, 3) := by decide +kernel
theorem dX8_firstOf_10 : decode cX8_firstOf 10 = .ok (.iload_n 1, 1) := by decide +kernel
theorem dX8_firstOf_11 : decode cX8_firstOf 11 = .ok (.iaload, 1) := by decide +kernel
theorem dX8_firstOf_12 : decode cX8_firstOf 12 = .ok (.isub, 1) := by decide +kernel
theorem dX8_firstOf_13 : decode cX8_firstOf 13 = .ok (.aload_n 0, 1) := by decide +kernel
theorem dX8_firstOf_14 : decode cX8_firstOf 14 = .ok (.getfield 25, 3) := by decide +kernel
theorem dX8_firstOf_17 : decode cX8_firstOf 17 = .ok (.iload_n 1, 1) := by decide +kernel
theorem dX8_firstOf_18 : decode cX8_firstOf 18 = .ok (.iaload, 1) := by decide +kernel
theorem dX8_firstOf_19 : decode cX8_firstOf 19 = .ok (.isub, 1) := by decide +kernel
theorem dX8_firstOf_20 : decode cX8_firstOf 20 = .ok (.ireturn, 1) := by decide +kernel
theorem dX8_lastOf_0 : decode cX8_lastOf 0 = .ok (.aload_n 0, 1) := by decide +kernel
theorem dX8_lastOf_1 : decode cX8_lastOf 1 = .ok (.getfield 22, 3) := by decide +kernel
theorem dX8_lastOf_4 : decode cX8_lastOf 4 = .ok (.iload_n 1, 1) := by decide +kernel
theorem dX8_lastOf_5 : decode cX8_lastOf 5 = .ok (.iaload, 1) := by decide +kernel
theorem dX8_lastOf_6 : decode cX8_lastOf 6 = .ok (.aload_n 0, 1) := by decide +kernel
theorem dX8_lastOf_7 : decode cX8_lastOf 7 = .ok (.getfield 31, 3) := by decide +kernel
theorem dX8_lastOf_10 : decode cX8_lastOf 10 = .ok (.iload_n 1, 1) := by decide +kernel
theorem dX8_lastOf_11 : decode cX8_lastOf 11 = .ok (.iaload, 1) := by decide +kernel
theorem dX8_lastOf_12 : decode cX8_lastOf 12 = .ok (.isub, 1) := by decide +kernel
theorem dX8_lastOf_13 : decode cX8_lastOf 13 = .ok (.aload_n 0, 1) := by decide +kernel
theorem dX8_lastOf_14 : decode cX8_lastOf 14 = .ok (.getfield 25, 3) := by decide +kernel
theorem dX8_lastOf_17 : decode cX8_lastOf 17 = .ok (.iload_n 1, 1) := by decide +kernel
theorem dX8_lastOf_18 : decode cX8_lastOf 18 = .ok (.iaload, 1) := by decide +kernel
theorem dX8_lastOf_19 : decode cX8_lastOf 19 = .ok (.iadd, 1) := by decide +kernel
theorem dX8_lastOf_20 : decode cX8_lastOf 20 = .ok (.ireturn, 1) := by decide +kernel
theorem dX8_sleeper_0 : decode cX8_sleeper 0 = .ok (.aload_n 0, 1) := by decide +kernel
theorem dX8_sleeper_1 : decode cX8_sleeper 1 = .ok (.iload_n 1, 1) := by decide +kernel
theorem dX8_sleeper_2 : decode cX8_sleeper 2 = .ok (.invokevirtual 231, 3) := by decide +kernel
theorem dX8_sleeper_5 : decode cX8_sleeper 5 = .ok (.ifCond .ne 6, 3) := by decide +kernel
theorem dX8_sleeper_8 : decode cX8_sleeper 8 = .ok (.ldc 223, 2) := by decide +kernel
theorem dX8_sleeper_10 : decode cX8_sleeper 10 = .ok (.ireturn, 1) := by decide +kernel
theorem dX8_sleeper_11 : decode cX8_sleeper 11 = .ok (.iload_n 2, 1) := by decide +kernel
theorem dX8_sleeper_12 : decode cX8_sleeper 12 = .ok (.tableswitch 101 0 6 #[44, 51, 58, 65, 72, 79, 90], 44) := by decide +kernel
theorem dX8_sleeper_56 : decode cX8_sleeper 56 = .ok (.aload_n 0, 1) := by decide +kernel
theorem dX8_sleeper_57 : decode cX8_sleeper 57 = .ok (.getfield 19, 3) := by decide +kernel
theorem dX8_sleeper_60 : decode cX8_sleeper 60 = .ok (.iload_n 1, 1) := by decide +kernel
theorem dX8_sleeper_61 : decode cX8_sleeper 61 = .ok (.iaload, 1) := by decide +kernel
theorem dX8_sleeper_62 : decode cX8_sleeper 62 = .ok (.ireturn, 1) := by decide +kernel
theorem dX8_sleeper_63 : decode cX8_sleeper 63 = .ok (.aload_n 0, 1) := by decide +kernel
theorem dX8_sleeper_64 : decode cX8_sleeper 64 = .ok (.getfield 22, 3) := by decide +kernel
theorem dX8_sleeper_67 : decode cX8_sleeper 67 = .ok (.iload_n 1, 1) := by decide +kernel
theorem dX8_sleeper_68 : decode cX8_sleeper 68 = .ok (.iaload, 1) := by decide +kernel
theorem dX8_sleeper_69 : decode cX8_sleeper 69 = .ok (.ireturn, 1) := by decide +kernel
theorem dX8_sleeper_70 : decode cX8_sleeper 70 = .ok (.aload_n 0, 1) := by decide +kernel
theorem dX8_sleeper_71 : decode cX8_sleeper 71 = .ok (.getfield 25, 3) := by decide +kernel
theorem dX8_sleeper_74 : decode cX8_sleeper 74 = .ok (.iload_n 1, 1) := by decide +kernel
theorem dX8_sleeper_75 : decode cX8_sleeper 75 = .ok (.iaload, 1) := by decide +kernel
theorem dX8_sleeper_76 : decode cX8_sleeper 76 = .ok (.ireturn, 1) := by decide +kernel
theorem dX8_sleeper_77 : decode cX8_sleeper 77 = .ok (.aload_n 0, 1) := by decide +kernel
theorem dX8_sleeper_78 : decode cX8_sleeper 78 = .ok (.getfield 28, 3) := by decide +kernel
theorem dX8_sleeper_81 : decode cX8_sleeper 81 = .ok (.iload_n 1, 1) := by decide +kernel
theorem dX8_sleeper_82 : decode cX8_sleeper 82 = .ok (.iaload, 1) := by decide +kernel
theorem dX8_sleeper_83 : decode cX8_sleeper 83 = .ok (.ireturn, 1) := by decide +kernel
theorem dX8_sleeper_84 : decode cX8_sleeper 84 = .ok (.aload_n 0, 1) := by decide +kernel
theorem dX8_sleeper_85 : decode cX8_sleeper 85 = .ok (.getfield 31, 3) := by decide +kernel
theorem dX8_sleeper_88 : decode cX8_sleeper 88 = .ok (.iload_n 1, 1) := by decide +kernel
theorem dX8_sleeper_89 : decode cX8_sleeper 89 = .ok (.iaload, 1) := by decide +kernel
theorem dX8_sleeper_90 : decode cX8_sleeper 90 = .ok (.ireturn, 1) := by decide +kernel
theorem dX8_sleeper_91 : decode cX8_sleeper 91 = .ok (.aload_n 0, 1) := by decide +kernel
theorem dX8_sleeper_92 : decode cX8_sleeper 92 = .ok (.iload_n 1, 1) := by decide +kernel
theorem dX8_sleeper_93 : decode cX8_sleeper 93 = .ok (.aload_n 0, 1) := by decide +kernel
theorem dX8_sleeper_94 : decode cX8_sleeper 94 = .ok (.iload_n 1, 1) := by decide +kernel
theorem dX8_sleeper_95 : decode cX8_sleeper 95 = .ok (.invokevirtual 234, 3) := by decide +kernel
theorem dX8_sleeper_98 : decode cX8_sleeper 98 = .ok (.invokevirtual 237, 3) := by decide +kernel
theorem dX8_sleeper_101 : decode cX8_sleeper 101 = .ok (.ireturn, 1) := by decide +kernel
theorem dX8_sleeper_102 : decode cX8_sleeper 102 = .ok (.aload_n 0, 1) := by decide +kernel
theorem dX8_sleeper_103 : decode cX8_sleeper 103 = .ok (.iload_n 1, 1) := by decide +kernel
theorem dX8_sleeper_104 : decode cX8_sleeper 104 = .ok (.aload_n 0, 1) := by decide +kernel
theorem dX8_sleeper_105 : decode cX8_sleeper 105 = .ok (.iload_n 1, 1) := by decide +kernel
theorem dX8_sleeper_106 : decode cX8_sleeper 106 = .ok (.invokevirtual 240, 3) := by decide +kernel
theorem dX8_sleeper_109 : decode cX8_sleeper 109 = .ok (.invokevirtual 237, 3) := by decide +kernel
theorem dX8_sleeper_112 : decode cX8_sleeper 112 = .ok (.ireturn, 1) := by decide +kernel
theorem dX8_sleeper_113 : decode cX8_sleeper 113 = .ok (.ldc 133, 2) := by decide +kernel
theorem dX8_sleeper_115 : decode cX8_sleeper 115 = .ok (.ireturn, 1) := by decide +kernel
theorem dX8_shift_0 : decode cX8_shift 0 = .ok (.aload_n 0, 1) := by decide +kernel
theorem dX8_shift_1 : decode cX8_shift 1 = .ok (.iload_n 1, 1) := by decide +kernel
theorem dX8_shift_2 : decode cX8_shift 2 = .ok (.invokevirtual 231, 3) := by decide +kernel
theorem dX8_shift_5 : decode cX8_shift 5 = .ok (.ifCond .ne 6, 3) := by decide +kernel
theorem dX8_shift_8 : decode cX8_shift 8 = .ok (.ldc 223, 2) := by decide +kernel
theorem dX8_shift_10 : decode cX8_shift 10 = .ok (.ireturn, 1) := by decide +kernel
theorem dX8_shift_11 : decode cX8_shift 11 = .ok (.iload_n 2, 1) := by decide +kernel
theorem dX8_shift_12 : decode cX8_shift 12 = .ok (.i2l, 1) := by decide +kernel
theorem dX8_shift_13 : decode cX8_shift 13 = .ok (.lconst 0, 1) := by decide +kernel
theorem dX8_shift_14 : decode cX8_shift 14 = .ok (.aload_n 0, 1) := by decide +kernel
theorem dX8_shift_15 : decode cX8_shift 15 = .ok (.getfield 16, 3) := by decide +kernel
theorem dX8_shift_18 : decode cX8_shift 18 = .ok (.aload_n 0, 1) := by decide +kernel
theorem dX8_shift_19 : decode cX8_shift 19 = .ok (.getfield 19, 3) := by decide +kernel
theorem dX8_shift_22 : decode cX8_shift 22 = .ok (.iload_n 1, 1) := by decide +kernel
theorem dX8_shift_23 : decode cX8_shift 23 = .ok (.iaload, 1) := by decide +kernel
theorem dX8_shift_24 : decode cX8_shift 24 = .ok (.iaload, 1) := by decide +kernel
theorem dX8_shift_25 : decode cX8_shift 25 = .ok (.i2l, 1) := by decide +kernel
theorem dX8_shift_26 : decode cX8_shift 26 = .ok (.invokestatic 112, 3) := by decide +kernel
theorem dX8_shift_29 : decode cX8_shift 29 = .ok (.ifCond .ne 6, 3) := by decide +kernel
theorem dX8_shift_32 : decode cX8_shift 32 = .ok (.ldc 133, 2) := by decide +kernel
theorem dX8_shift_34 : decode cX8_shift 34 = .ok (.ireturn, 1) := by decide +kernel
theorem dX8_shift_35 : decode cX8_shift 35 = .ok (.aload_n 0, 1) := by decide +kernel
theorem dX8_shift_36 : decode cX8_shift 36 = .ok (.getfield 31, 3) := by decide +kernel
theorem dX8_shift_39 : decode cX8_shift 39 = .ok (.iload_n 1, 1) := by decide +kernel
theorem dX8_shift_40 : decode cX8_shift 40 = .ok (.iaload, 1) := by decide +kernel
theorem dX8_shift_41 : decode cX8_shift 41 = .ok (.istore_n 3, 1) := by decide +kernel
theorem dX8_shift_42 : decode cX8_shift 42 = .ok (.aload_n 0, 1) := by decide +kernel
theorem dX8_shift_43 : decode cX8_shift 43 = .ok (.getfield 31, 3) := by decide +kernel
theorem dX8_shift_46 : decode cX8_shift 46 = .ok (.iload_n 1, 1) := by decide +kernel
theorem dX8_shift_47 : decode cX8_shift 47 = .ok (.iload_n 2, 1) := by decide +kernel
theorem dX8_shift_48 : decode cX8_shift 48 = .ok (.iastore, 1) := by decide +kernel
theorem dX8_shift_49 : decode cX8_shift 49 = .ok (.iload_n 3, 1) := by decide +kernel
theorem dX8_shift_50 : decode cX8_shift 50 = .ok (.ireturn, 1) := by decide +kernel
theorem dX8_setNoise_0 : decode cX8_setNoise 0 = .ok (.aload_n 0, 1) := by decide +kernel
theorem dX8_setNoise_1 : decode cX8_setNoise 1 = .ok (.iload_n 1, 1) := by decide +kernel
theorem dX8_setNoise_2 : decode cX8_setNoise 2 = .ok (.putfield 41, 3) := by decide +kernel
theorem dX8_setNoise_5 : decode cX8_setNoise 5 = .ok (.aload_n 0, 1) := by decide +kernel
theorem dX8_setNoise_6 : decode cX8_setNoise 6 = .ok (.iload_n 2, 1) := by decide +kernel
theorem dX8_setNoise_7 : decode cX8_setNoise 7 = .ok (.putfield 34, 3) := by decide +kernel
theorem dX8_setNoise_10 : decode cX8_setNoise 10 = .ok (.aload_n 0, 1) := by decide +kernel
theorem dX8_setNoise_11 : decode cX8_setNoise 11 = .ok (.iload_n 3, 1) := by decide +kernel
theorem dX8_setNoise_12 : decode cX8_setNoise 12 = .ok (.putfield 38, 3) := by decide +kernel
theorem dX8_setNoise_15 : decode cX8_setNoise 15 = .ok (.return_, 1) := by decide +kernel
theorem dX8_noise_0 : decode cX8_noise 0 = .ok (.aload_n 0, 1) := by decide +kernel
theorem dX8_noise_1 : decode cX8_noise 1 = .ok (.iload_n 1, 1) := by decide +kernel
theorem dX8_noise_2 : decode cX8_noise 2 = .ok (.invokevirtual 219, 3) := by decide +kernel
theorem dX8_noise_5 : decode cX8_noise 5 = .ok (.ifCond .ne 6, 3) := by decide +kernel
theorem dX8_noise_8 : decode cX8_noise 8 = .ok (.ldc 223, 2) := by decide +kernel
theorem dX8_noise_10 : decode cX8_noise 10 = .ok (.ireturn, 1) := by decide +kernel
theorem dX8_noise_11 : decode cX8_noise 11 = .ok (.iload_n 2, 1) := by decide +kernel
theorem dX8_noise_12 : decode cX8_noise 12 = .ok (.i2l, 1) := by decide +kernel
theorem dX8_noise_13 : decode cX8_noise 13 = .ok (.lconst 0, 1) := by decide +kernel
theorem dX8_noise_14 : decode cX8_noise 14 = .ok (.ldc2_w 243, 3) := by decide +kernel
theorem dX8_noise_17 : decode cX8_noise 17 = .ok (.invokestatic 112, 3) := by decide +kernel
theorem dX8_noise_20 : decode cX8_noise 20 = .ok (.ifCond .eq 15, 3) := by decide +kernel
theorem dX8_noise_23 : decode cX8_noise 23 = .ok (.iload_n 3, 1) := by decide +kernel
theorem dX8_noise_24 : decode cX8_noise 24 = .ok (.i2l, 1) := by decide +kernel
theorem dX8_noise_25 : decode cX8_noise 25 = .ok (.lconst 0, 1) := by decide +kernel
theorem dX8_noise_26 : decode cX8_noise 26 = .ok (.ldc2_w 245, 3) := by decide +kernel
theorem dX8_noise_29 : decode cX8_noise 29 = .ok (.invokestatic 112, 3) := by decide +kernel
theorem dX8_noise_32 : decode cX8_noise 32 = .ok (.ifCond .ne 6, 3) := by decide +kernel
theorem dX8_noise_35 : decode cX8_noise 35 = .ok (.ldc 133, 2) := by decide +kernel
theorem dX8_noise_37 : decode cX8_noise 37 = .ok (.ireturn, 1) := by decide +kernel
theorem dX8_noise_38 : decode cX8_noise 38 = .ok (.aload_n 0, 1) := by decide +kernel
theorem dX8_noise_39 : decode cX8_noise 39 = .ok (.getfield 34, 3) := by decide +kernel
theorem dX8_noise_42 : decode cX8_noise 42 = .ok (.ifCond .ge 7, 3) := by decide +kernel
theorem dX8_noise_45 : decode cX8_noise 45 = .ok (.iconst 0, 1) := by decide +kernel
theorem dX8_noise_46 : decode cX8_noise 46 = .ok (.goto 4, 3) := by decide +kernel
theorem dX8_noise_49 : decode cX8_noise 49 = .ok (.iconst 1, 1) := by decide +kernel
theorem dX8_noise_50 : decode cX8_noise 50 = .ok (.istore 4, 2) := by decide +kernel
theorem dX8_noise_52 : decode cX8_noise 52 = .ok (.aload_n 0, 1) := by decide +kernel
theorem dX8_noise_53 : decode cX8_noise 53 = .ok (.iload_n 1, 1) := by decide +kernel
theorem dX8_noise_54 : decode cX8_noise 54 = .ok (.iload_n 2, 1) := by decide +kernel
theorem dX8_noise_55 : decode cX8_noise 55 = .ok (.iload_n 3, 1) := by decide +kernel
theorem dX8_noise_56 : decode cX8_noise 56 = .ok (.invokevirtual 247, 3) := by decide +kernel
theorem dX8_noise_59 : decode cX8_noise 59 = .ok (.iload 4, 2) := by decide +kernel
theorem dX8_noise_61 : decode cX8_noise 61 = .ok (.ireturn, 1) := by decide +kernel
theorem dX8_hush_0 : decode cX8_hush 0 = .ok (.aload_n 0, 1) := by decide +kernel
theorem dX8_hush_1 : decode cX8_hush 1 = .ok (.getfield 34, 3) := by decide +kernel
theorem dX8_hush_4 : decode cX8_hush 4 = .ok (.ifCond .ge 7, 3) := by decide +kernel
theorem dX8_hush_7 : decode cX8_hush 7 = .ok (.iconst 0, 1) := by decide +kernel
theorem dX8_hush_8 : decode cX8_hush 8 = .ok (.goto 4, 3) := by decide +kernel
theorem dX8_hush_11 : decode cX8_hush 11 = .ok (.iconst 1, 1) := by decide +kernel
theorem dX8_hush_12 : decode cX8_hush 12 = .ok (.istore_n 1, 1) := by decide +kernel
theorem dX8_hush_13 : decode cX8_hush 13 = .ok (.aload_n 0, 1) := by decide +kernel
theorem dX8_hush_14 : decode cX8_hush 14 = .ok (.iconst (-1), 1) := by decide +kernel
theorem dX8_hush_15 : decode cX8_hush 15 = .ok (.iconst (-1), 1) := by decide +kernel
theorem dX8_hush_16 : decode cX8_hush 16 = .ok (.iconst (-1), 1) := by decide +kernel
theorem dX8_hush_17 : decode cX8_hush 17 = .ok (.invokevirtual 247, 3) := by decide +kernel
theorem dX8_hush_20 : decode cX8_hush 20 = .ok (.iload_n 1, 1) := by decide +kernel
theorem dX8_hush_21 : decode cX8_hush 21 = .ok (.ireturn, 1) := by decide +kernel
theorem dX8_law_0 : decode cX8_law 0 = .ok (.iload_n 1, 1) := by decide +kernel
theorem dX8_law_1 : decode cX8_law 1 = .ok (.i2l, 1) := by decide +kernel
theorem dX8_law_2 : decode cX8_law 2 = .ok (.lconst 0, 1) := by decide +kernel
theorem dX8_law_3 : decode cX8_law 3 = .ok (.ldc2_w 251, 3) := by decide +kernel
theorem dX8_law_6 : decode cX8_law 6 = .ok (.invokestatic 112, 3) := by decide +kernel
theorem dX8_law_9 : decode cX8_law 9 = .ok (.ifCond .ne 6, 3) := by decide +kernel
theorem dX8_law_12 : decode cX8_law 12 = .ok (.ldc 133, 2) := by decide +kernel
theorem dX8_law_14 : decode cX8_law 14 = .ok (.ireturn, 1) := by decide +kernel
theorem dX8_law_15 : decode cX8_law 15 = .ok (.aload_n 0, 1) := by decide +kernel
theorem dX8_law_16 : decode cX8_law 16 = .ok (.getfield 119, 3) := by decide +kernel
theorem dX8_law_19 : decode cX8_law 19 = .ok (.istore_n 2, 1) := by decide +kernel
theorem dX8_law_20 : decode cX8_law 20 = .ok (.aload_n 0, 1) := by decide +kernel
theorem dX8_law_21 : decode cX8_law 21 = .ok (.iload_n 1, 1) := by decide +kernel
theorem dX8_law_22 : decode cX8_law 22 = .ok (.putfield 119, 3) := by decide +kernel
theorem dX8_law_25 : decode cX8_law 25 = .ok (.iload_n 2, 1) := by decide +kernel
theorem dX8_law_26 : decode cX8_law 26 = .ok (.ireturn, 1) := by decide +kernel
theorem dX8_draw_0 : decode cX8_draw 0 = .ok (.aload_n 0, 1) := by decide +kernel
theorem dX8_draw_1 : decode cX8_draw 1 = .ok (.aload_n 0, 1) := by decide +kernel
theorem dX8_draw_2 : decode cX8_draw 2 = .ok (.getfield 253, 3) := by decide +kernel
theorem dX8_draw_5 : decode cX8_draw 5 = .ok (.i2l, 1) := by decide +kernel
theorem dX8_draw_6 : decode cX8_draw 6 = .ok (.ldc2_w 256, 3) := by decide +kernel
theorem dX8_draw_9 : decode cX8_draw 9 = .ok (.lmul, 1) := by decide +kernel
theorem dX8_draw_10 : decode cX8_draw 10 = .ok (.ldc2_w 258, 3) := by decide +kernel
theorem dX8_draw_13 : decode cX8_draw 13 = .ok (.ladd, 1) := by decide +kernel
theorem dX8_draw_14 : decode cX8_draw 14 = .ok (.ldc2_w 260, 3) := by decide +kernel
theorem dX8_draw_17 : decode cX8_draw 17 = .ok (.lrem, 1) := by decide +kernel
theorem dX8_draw_18 : decode cX8_draw 18 = .ok (.l2i, 1) := by decide +kernel
theorem dX8_draw_19 : decode cX8_draw 19 = .ok (.putfield 253, 3) := by decide +kernel
theorem dX8_draw_22 : decode cX8_draw 22 = .ok (.aload_n 0, 1) := by decide +kernel
theorem dX8_draw_23 : decode cX8_draw 23 = .ok (.getfield 253, 3) := by decide +kernel
theorem dX8_draw_26 : decode cX8_draw 26 = .ok (.ldc_w 262, 3) := by decide +kernel
theorem dX8_draw_29 : decode cX8_draw 29 = .ok (.idiv, 1) := by decide +kernel
theorem dX8_draw_30 : decode cX8_draw 30 = .ok (.iload_n 1, 1) := by decide +kernel
theorem dX8_draw_31 : decode cX8_draw 31 = .ok (.irem, 1) := by decide +kernel
theorem dX8_draw_32 : decode cX8_draw 32 = .ok (.ireturn, 1) := by decide +kernel
theorem dX8_dawnNow_0 : decode cX8_dawnNow 0 = .ok (.iconst 0, 1) := by decide +kernel
theorem dX8_dawnNow_1 : decode cX8_dawnNow 1 = .ok (.istore_n 1, 1) := by decide +kernel
theorem dX8_dawnNow_2 : decode cX8_dawnNow 2 = .ok (.iconst 0, 1) := by decide +kernel
theorem dX8_dawnNow_3 : decode cX8_dawnNow 3 = .ok (.istore_n 2, 1) := by decide +kernel
theorem dX8_dawnNow_4 : decode cX8_dawnNow 4 = .ok (.iload_n 2, 1) := by decide +kernel
theorem dX8_dawnNow_5 : decode cX8_dawnNow 5 = .ok (.aload_n 0, 1) := by decide +kernel
theorem dX8_dawnNow_6 : decode cX8_dawnNow 6 = .ok (.getfield 116, 3) := by decide +kernel
theorem dX8_dawnNow_9 : decode cX8_dawnNow 9 = .ok (.if_icmp .ge 105, 3) := by decide +kernel
theorem dX8_dawnNow_12 : decode cX8_dawnNow 12 = .ok (.aload_n 0, 1) := by decide +kernel
theorem dX8_dawnNow_13 : decode cX8_dawnNow 13 = .ok (.iconst 2, 1) := by decide +kernel
theorem dX8_dawnNow_14 : decode cX8_dawnNow 14 = .ok (.aload_n 0, 1) := by decide +kernel
theorem dX8_dawnNow_15 : decode cX8_dawnNow 15 = .ok (.getfield 25, 3) := by decide +kernel
theorem dX8_dawnNow_18 : decode cX8_dawnNow 18 = .ok (.iload_n 2, 1) := by decide +kernel
theorem dX8_dawnNow_19 : decode cX8_dawnNow 19 = .ok (.iaload, 1) := by decide +kernel
theorem dX8_dawnNow_20 : decode cX8_dawnNow 20 = .ok (.imul, 1) := by decide +kernel
theorem dX8_dawnNow_21 : decode cX8_dawnNow 21 = .ok (.iconst 1, 1) := by decide +kernel
theorem dX8_dawnNow_22 : decode cX8_dawnNow 22 = .ok (.iadd, 1) := by decide +kernel
theorem dX8_dawnNow_23 : decode cX8_dawnNow 23 = .ok (.invokevirtual 263, 3) := by decide +kernel
theorem dX8_dawnNow_26 : decode cX8_dawnNow 26 = .ok (.istore_n 3, 1) := by decide +kernel
theorem dX8_dawnNow_27 : decode cX8_dawnNow 27 = .ok (.aload_n 0, 1) := by decide +kernel
theorem dX8_dawnNow_28 : decode cX8_dawnNow 28 = .ok (.getfield 83, 3) := by decide +kernel
theorem dX8_dawnNow_31 : decode cX8_dawnNow 31 = .ok (.iload_n 2, 1) := by decide +kernel
theorem dX8_dawnNow_32 : decode cX8_dawnNow 32 = .ok (.aload_n 0, 1) := by decide +kernel
theorem dX8_dawnNow_33 : decode cX8_dawnNow 33 = .ok (.iload_n 2, 1) := by decide +kernel
theorem dX8_dawnNow_34 : decode cX8_dawnNow 34 = .ok (.aload_n 0, 1) := by decide +kernel
theorem dX8_dawnNow_35 : decode cX8_dawnNow 35 = .ok (.iload_n 2, 1) := by decide +kernel
theorem dX8_dawnNow_36 : decode cX8_dawnNow 36 = .ok (.invokevirtual 234, 3) := by decide +kernel
theorem dX8_dawnNow_39 : decode cX8_dawnNow 39 = .ok (.iload_n 3, 1) := by decide +kernel
theorem dX8_dawnNow_40 : decode cX8_dawnNow 40 = .ok (.iadd, 1) := by decide +kernel
theorem dX8_dawnNow_41 : decode cX8_dawnNow 41 = .ok (.invokevirtual 237, 3) := by decide +kernel
theorem dX8_dawnNow_44 : decode cX8_dawnNow 44 = .ok (.iastore, 1) := by decide +kernel
theorem dX8_dawnNow_45 : decode cX8_dawnNow 45 = .ok (.aload_n 0, 1) := by decide +kernel
theorem dX8_dawnNow_46 : decode cX8_dawnNow 46 = .ok (.getfield 119, 3) := by decide +kernel
theorem dX8_dawnNow_49 : decode cX8_dawnNow 49 = .ok (.ifCond .ne 26, 3) := by decide +kernel
theorem dX8_dawnNow_52 : decode cX8_dawnNow 52 = .ok (.aload_n 0, 1) := by decide +kernel
theorem dX8_dawnNow_53 : decode cX8_dawnNow 53 = .ok (.getfield 83, 3) := by decide +kernel
theorem dX8_dawnNow_56 : decode cX8_dawnNow 56 = .ok (.iload_n 2, 1) := by decide +kernel
theorem dX8_dawnNow_57 : decode cX8_dawnNow 57 = .ok (.iaload, 1) := by decide +kernel
theorem dX8_dawnNow_58 : decode cX8_dawnNow 58 = .ok (.aload_n 0, 1) := by decide +kernel
theorem dX8_dawnNow_59 : decode cX8_dawnNow 59 = .ok (.getfield 83, 3) := by decide +kernel
theorem dX8_dawnNow_62 : decode cX8_dawnNow 62 = .ok (.iload_n 1, 1) := by decide +kernel
theorem dX8_dawnNow_63 : decode cX8_dawnNow 63 = .ok (.iaload, 1) := by decide +kernel
theorem dX8_dawnNow_64 : decode cX8_dawnNow 64 = .ok (.if_icmp .ge 7, 3) := by decide +kernel
theorem dX8_dawnNow_67 : decode cX8_dawnNow 67 = .ok (.iconst 1, 1) := by decide +kernel
theorem dX8_dawnNow_68 : decode cX8_dawnNow 68 = .ok (.goto 27, 3) := by decide +kernel
theorem dX8_dawnNow_71 : decode cX8_dawnNow 71 = .ok (.iconst 0, 1) := by decide +kernel
theorem dX8_dawnNow_72 : decode cX8_dawnNow 72 = .ok (.goto 23, 3) := by decide +kernel
theorem dX8_dawnNow_75 : decode cX8_dawnNow 75 = .ok (.aload_n 0, 1) := by decide +kernel
theorem dX8_dawnNow_76 : decode cX8_dawnNow 76 = .ok (.getfield 83, 3) := by decide +kernel
theorem dX8_dawnNow_79 : decode cX8_dawnNow 79 = .ok (.iload_n 2, 1) := by decide +kernel
theorem dX8_dawnNow_80 : decode cX8_dawnNow 80 = .ok (.iaload, 1) := by decide +kernel
theorem dX8_dawnNow_81 : decode cX8_dawnNow 81 = .ok (.aload_n 0, 1) := by decide +kernel
theorem dX8_dawnNow_82 : decode cX8_dawnNow 82 = .ok (.getfield 83, 3) := by decide +kernel
theorem dX8_dawnNow_85 : decode cX8_dawnNow 85 = .ok (.iload_n 1, 1) := by decide +kernel
theorem dX8_dawnNow_86 : decode cX8_dawnNow 86 = .ok (.iaload, 1) := by decide +kernel
theorem dX8_dawnNow_87 : decode cX8_dawnNow 87 = .ok (.if_icmp .le 7, 3) := by decide +kernel
theorem dX8_dawnNow_90 : decode cX8_dawnNow 90 = .ok (.iconst 1, 1) := by decide +kernel
theorem dX8_dawnNow_91 : decode cX8_dawnNow 91 = .ok (.goto 4, 3) := by decide +kernel
theorem dX8_dawnNow_94 : decode cX8_dawnNow 94 = .ok (.iconst 0, 1) := by decide +kernel
theorem dX8_dawnNow_95 : decode cX8_dawnNow 95 = .ok (.istore 4, 2) := by decide +kernel
theorem dX8_dawnNow_97 : decode cX8_dawnNow 97 = .ok (.iload 4, 2) := by decide +kernel
theorem dX8_dawnNow_99 : decode cX8_dawnNow 99 = .ok (.ifCond .eq 7, 3) := by decide +kernel
theorem dX8_dawnNow_102 : decode cX8_dawnNow 102 = .ok (.iload_n 2, 1) := by decide +kernel
theorem dX8_dawnNow_103 : decode cX8_dawnNow 103 = .ok (.goto 4, 3) := by decide +kernel
theorem dX8_dawnNow_106 : decode cX8_dawnNow 106 = .ok (.iload_n 1, 1) := by decide +kernel
theorem dX8_dawnNow_107 : decode cX8_dawnNow 107 = .ok (.istore_n 1, 1) := by decide +kernel
theorem dX8_dawnNow_108 : decode cX8_dawnNow 108 = .ok (.iinc 2 1, 3) := by decide +kernel
theorem dX8_dawnNow_111 : decode cX8_dawnNow 111 = .ok (.goto (-107), 3) := by decide +kernel
theorem dX8_dawnNow_114 : decode cX8_dawnNow 114 = .ok (.aload_n 0, 1) := by decide +kernel
theorem dX8_dawnNow_115 : decode cX8_dawnNow 115 = .ok (.getfield 119, 3) := by decide +kernel
theorem dX8_dawnNow_118 : decode cX8_dawnNow 118 = .ok (.iconst 2, 1) := by decide +kernel
theorem dX8_dawnNow_119 : decode cX8_dawnNow 119 = .ok (.if_icmp .ne 14, 3) := by decide +kernel
theorem dX8_dawnNow_122 : decode cX8_dawnNow 122 = .ok (.aload_n 0, 1) := by decide +kernel
theorem dX8_dawnNow_123 : decode cX8_dawnNow 123 = .ok (.aload_n 0, 1) := by decide +kernel
theorem dX8_dawnNow_124 : decode cX8_dawnNow 124 = .ok (.getfield 116, 3) := by decide +kernel
theorem dX8_dawnNow_127 : decode cX8_dawnNow 127 = .ok (.invokevirtual 263, 3) := by decide +kernel
theorem dX8_dawnNow_130 : decode cX8_dawnNow 130 = .ok (.goto 4, 3) := by decide +kernel
theorem dX8_dawnNow_133 : decode cX8_dawnNow 133 = .ok (.iload_n 1, 1) := by decide +kernel
theorem dX8_dawnNow_134 : decode cX8_dawnNow 134 = .ok (.istore_n 1, 1) := by decide +kernel
theorem dX8_dawnNow_135 : decode cX8_dawnNow 135 = .ok (.aload_n 0, 1) := by decide +kernel
theorem dX8_dawnNow_136 : decode cX8_dawnNow 136 = .ok (.getfield 128, 3) := by decide +kernel
theorem dX8_dawnNow_139 : decode cX8_dawnNow 139 = .ok (.sipush 200, 3) := by decide +kernel
theorem dX8_dawnNow_142 : decode cX8_dawnNow 142 = .ok (.if_icmp .ge 38, 3) := by decide +kernel
theorem dX8_dawnNow_145 : decode cX8_dawnNow 145 = .ok (.aload_n 0, 1) := by decide +kernel
theorem dX8_dawnNow_146 : decode cX8_dawnNow 146 = .ok (.getfield 50, 3) := by decide +kernel
theorem dX8_dawnNow_149 : decode cX8_dawnNow 149 = .ok (.aload_n 0, 1) := by decide +kernel
theorem dX8_dawnNow_150 : decode cX8_dawnNow 150 = .ok (.getfield 128, 3) := by decide +kernel
theorem dX8_dawnNow_153 : decode cX8_dawnNow 153 = .ok (.iload_n 1, 1) := by decide +kernel
theorem dX8_dawnNow_154 : decode cX8_dawnNow 154 = .ok (.iastore, 1) := by decide +kernel
theorem dX8_dawnNow_155 : decode cX8_dawnNow 155 = .ok (.aload_n 0, 1) := by decide +kernel
theorem dX8_dawnNow_156 : decode cX8_dawnNow 156 = .ok (.getfield 53, 3) := by decide +kernel
theorem dX8_dawnNow_159 : decode cX8_dawnNow 159 = .ok (.aload_n 0, 1) := by decide +kernel
theorem dX8_dawnNow_160 : decode cX8_dawnNow 160 = .ok (.getfield 128, 3) := by decide +kernel
theorem dX8_dawnNow_163 : decode cX8_dawnNow 163 = .ok (.aload_n 0, 1) := by decide +kernel
theorem dX8_dawnNow_164 : decode cX8_dawnNow 164 = .ok (.getfield 83, 3) := by decide +kernel
theorem dX8_dawnNow_167 : decode cX8_dawnNow 167 = .ok (.iload_n 1, 1) := by decide +kernel
theorem dX8_dawnNow_168 : decode cX8_dawnNow 168 = .ok (.iaload, 1) := by decide +kernel
theorem dX8_dawnNow_169 : decode cX8_dawnNow 169 = .ok (.iastore, 1) := by decide +kernel
theorem dX8_dawnNow_170 : decode cX8_dawnNow 170 = .ok (.aload_n 0, 1) := by decide +kernel
theorem dX8_dawnNow_171 : decode cX8_dawnNow 171 = .ok (.dup, 1) := by decide +kernel
theorem dX8_dawnNow_172 : decode cX8_dawnNow 172 = .ok (.getfield 128, 3) := by decide +kernel
theorem dX8_dawnNow_175 : decode cX8_dawnNow 175 = .ok (.iconst 1, 1) := by decide +kernel
theorem dX8_dawnNow_176 : decode cX8_dawnNow 176 = .ok (.iadd, 1) := by decide +kernel
theorem dX8_dawnNow_177 : decode cX8_dawnNow 177 = .ok (.putfield 128, 3) := by decide +kernel
theorem dX8_dawnNow_180 : decode cX8_dawnNow 180 = .ok (.aload_n 0, 1) := by decide +kernel
theorem dX8_dawnNow_181 : decode cX8_dawnNow 181 = .ok (.dup, 1) := by decide +kernel
theorem dX8_dawnNow_182 : decode cX8_dawnNow 182 = .ok (.getfield 122, 3) := by decide +kernel
theorem dX8_dawnNow_185 : decode cX8_dawnNow 185 = .ok (.iconst 1, 1) := by decide +kernel
theorem dX8_dawnNow_186 : decode cX8_dawnNow 186 = .ok (.iadd, 1) := by decide +kernel
theorem dX8_dawnNow_187 : decode cX8_dawnNow 187 = .ok (.putfield 122, 3) := by decide +kernel
theorem dX8_dawnNow_190 : decode cX8_dawnNow 190 = .ok (.aload_n 0, 1) := by decide +kernel
theorem dX8_dawnNow_191 : decode cX8_dawnNow 191 = .ok (.getfield 19, 3) := by decide +kernel
theorem dX8_dawnNow_194 : decode cX8_dawnNow 194 = .ok (.iload_n 1, 1) := by decide +kernel
theorem dX8_dawnNow_195 : decode cX8_dawnNow 195 = .ok (.iaload, 1) := by decide +kernel
theorem dX8_dawnNow_196 : decode cX8_dawnNow 196 = .ok (.istore_n 2, 1) := by decide +kernel
theorem dX8_dawnNow_197 : decode cX8_dawnNow 197 = .ok (.iconst 0, 1) := by decide +kernel
theorem dX8_dawnNow_198 : decode cX8_dawnNow 198 = .ok (.istore_n 3, 1) := by decide +kernel
theorem dX8_dawnNow_199 : decode cX8_dawnNow 199 = .ok (.iload_n 3, 1) := by decide +kernel
theorem dX8_dawnNow_200 : decode cX8_dawnNow 200 = .ok (.aload_n 0, 1) := by decide +kernel
theorem dX8_dawnNow_201 : decode cX8_dawnNow 201 = .ok (.getfield 109, 3) := by decide +kernel
theorem dX8_dawnNow_204 : decode cX8_dawnNow 204 = .ok (.if_icmp .ge 32, 3) := by decide +kernel
theorem dX8_dawnNow_207 : decode cX8_dawnNow 207 = .ok (.aload_n 0, 1) := by decide +kernel
theorem dX8_dawnNow_208 : decode cX8_dawnNow 208 = .ok (.getfield 44, 3) := by decide +kernel
theorem dX8_dawnNow_211 : decode cX8_dawnNow 211 = .ok (.iload_n 3, 1) := by decide +kernel
theorem dX8_dawnNow_212 : decode cX8_dawnNow 212 = .ok (.iload_n 3, 1) := by decide +kernel
theorem dX8_dawnNow_213 : decode cX8_dawnNow 213 = .ok (.iload_n 2, 1) := by decide +kernel
theorem dX8_dawnNow_214 : decode cX8_dawnNow 214 = .ok (.if_icmp .ne 14, 3) := by decide +kernel
theorem dX8_dawnNow_217 : decode cX8_dawnNow 217 = .ok (.aload_n 0, 1) := by decide +kernel
theorem dX8_dawnNow_218 : decode cX8_dawnNow 218 = .ok (.getfield 44, 3) := by decide +kernel
theorem dX8_dawnNow_221 : decode cX8_dawnNow 221 = .ok (.iload_n 3, 1) := by decide +kernel
theorem dX8_dawnNow_222 : decode cX8_dawnNow 222 = .ok (.iaload, 1) := by decide +kernel
theorem dX8_dawnNow_223 : decode cX8_dawnNow 223 = .ok (.iconst 1, 1) := by decide +kernel
theorem dX8_dawnNow_224 : decode cX8_dawnNow 224 = .ok (.iadd, 1) := by decide +kernel
theorem dX8_dawnNow_225 : decode cX8_dawnNow 225 = .ok (.goto 4, 3) := by decide +kernel
theorem dX8_dawnNow_228 : decode cX8_dawnNow 228 = .ok (.iconst 0, 1) := by decide +kernel
theorem dX8_dawnNow_229 : decode cX8_dawnNow 229 = .ok (.iastore, 1) := by decide +kernel
theorem dX8_dawnNow_230 : decode cX8_dawnNow 230 = .ok (.iinc 3 1, 3) := by decide +kernel
theorem dX8_dawnNow_233 : decode cX8_dawnNow 233 = .ok (.goto (-34), 3) := by decide +kernel
theorem dX8_dawnNow_236 : decode cX8_dawnNow 236 = .ok (.aload_n 0, 1) := by decide +kernel
theorem dX8_dawnNow_237 : decode cX8_dawnNow 237 = .ok (.getfield 44, 3) := by decide +kernel
theorem dX8_dawnNow_240 : decode cX8_dawnNow 240 = .ok (.iload_n 2, 1) := by decide +kernel
theorem dX8_dawnNow_241 : decode cX8_dawnNow 241 = .ok (.iaload, 1) := by decide +kernel
theorem dX8_dawnNow_242 : decode cX8_dawnNow 242 = .ok (.aload_n 0, 1) := by decide +kernel
theorem dX8_dawnNow_243 : decode cX8_dawnNow 243 = .ok (.getfield 7, 3) := by decide +kernel
theorem dX8_dawnNow_246 : decode cX8_dawnNow 246 = .ok (.iload_n 2, 1) := by decide +kernel
theorem dX8_dawnNow_247 : decode cX8_dawnNow 247 = .ok (.iaload, 1) := by decide +kernel
theorem dX8_dawnNow_248 : decode cX8_dawnNow 248 = .ok (.if_icmp .lt 35, 3) := by decide +kernel
theorem dX8_dawnNow_251 : decode cX8_dawnNow 251 = .ok (.aload_n 0, 1) := by decide +kernel
theorem dX8_dawnNow_252 : decode cX8_dawnNow 252 = .ok (.getfield 44, 3) := by decide +kernel
theorem dX8_dawnNow_255 : decode cX8_dawnNow 255 = .ok (.iload_n 2, 1) := by decide +kernel
theorem dX8_dawnNow_256 : decode cX8_dawnNow 256 = .ok (.iconst 0, 1) := by decide +kernel
theorem dX8_dawnNow_257 : decode cX8_dawnNow 257 = .ok (.iastore, 1) := by decide +kernel
theorem dX8_dawnNow_258 : decode cX8_dawnNow 258 = .ok (.aload_n 0, 1) := by decide +kernel
theorem dX8_dawnNow_259 : decode cX8_dawnNow 259 = .ok (.getfield 47, 3) := by decide +kernel
theorem dX8_dawnNow_262 : decode cX8_dawnNow 262 = .ok (.iload_n 2, 1) := by decide +kernel
theorem dX8_dawnNow_263 : decode cX8_dawnNow 263 = .ok (.dup2, 1) := by decide +kernel
theorem dX8_dawnNow_264 : decode cX8_dawnNow 264 = .ok (.iaload, 1) := by decide +kernel
theorem dX8_dawnNow_265 : decode cX8_dawnNow 265 = .ok (.iconst 1, 1) := by decide +kernel
theorem dX8_dawnNow_266 : decode cX8_dawnNow 266 = .ok (.iadd, 1) := by decide +kernel
theorem dX8_dawnNow_267 : decode cX8_dawnNow 267 = .ok (.iastore, 1) := by decide +kernel
theorem dX8_dawnNow_268 : decode cX8_dawnNow 268 = .ok (.aload_n 0, 1) := by decide +kernel
theorem dX8_dawnNow_269 : decode cX8_dawnNow 269 = .ok (.dup, 1) := by decide +kernel
theorem dX8_dawnNow_270 : decode cX8_dawnNow 270 = .ok (.getfield 125, 3) := by decide +kernel
theorem dX8_dawnNow_273 : decode cX8_dawnNow 273 = .ok (.aload_n 0, 1) := by decide +kernel
theorem dX8_dawnNow_274 : decode cX8_dawnNow 274 = .ok (.getfield 13, 3) := by decide +kernel
theorem dX8_dawnNow_277 : decode cX8_dawnNow 277 = .ok (.iload_n 2, 1) := by decide +kernel
theorem dX8_dawnNow_278 : decode cX8_dawnNow 278 = .ok (.iaload, 1) := by decide +kernel
theorem dX8_dawnNow_279 : decode cX8_dawnNow 279 = .ok (.iadd, 1) := by decide +kernel
theorem dX8_dawnNow_280 : decode cX8_dawnNow 280 = .ok (.putfield 125, 3) := by decide +kernel
theorem dX8_dawnNow_283 : decode cX8_dawnNow 283 = .ok (.iload_n 1, 1) := by decide +kernel
theorem dX8_dawnNow_284 : decode cX8_dawnNow 284 = .ok (.ireturn, 1) := by decide +kernel
theorem dX8_dawn_0 : decode cX8_dawn 0 = .ok (.iload_n 1, 1) := by decide +kernel
theorem dX8_dawn_1 : decode cX8_dawn 1 = .ok (.i2l, 1) := by decide +kernel
theorem dX8_dawn_2 : decode cX8_dawn 2 = .ok (.lconst 1, 1) := by decide +kernel
theorem dX8_dawn_3 : decode cX8_dawn 3 = .ok (.ldc2_w 266, 3) := by decide +kernel
theorem dX8_dawn_6 : decode cX8_dawn 6 = .ok (.invokestatic 112, 3) := by decide +kernel
theorem dX8_dawn_9 : decode cX8_dawn 9 = .ok (.ifCond .ne 6, 3) := by decide +kernel
theorem dX8_dawn_12 : decode cX8_dawn 12 = .ok (.ldc 133, 2) := by decide +kernel
theorem dX8_dawn_14 : decode cX8_dawn 14 = .ok (.ireturn, 1) := by decide +kernel
theorem dX8_dawn_15 : decode cX8_dawn 15 = .ok (.aload_n 0, 1) := by decide +kernel
theorem dX8_dawn_16 : decode cX8_dawn 16 = .ok (.getfield 116, 3) := by decide +kernel
theorem dX8_dawn_19 : decode cX8_dawn 19 = .ok (.ifCond .ne 7, 3) := by decide +kernel
theorem dX8_dawn_22 : decode cX8_dawn 22 = .ok (.ldc_w 268, 3) := by decide +kernel
theorem dX8_dawn_25 : decode cX8_dawn 25 = .ok (.ireturn, 1) := by decide +kernel
theorem dX8_dawn_26 : decode cX8_dawn 26 = .ok (.iconst (-1), 1) := by decide +kernel
theorem dX8_dawn_27 : decode cX8_dawn 27 = .ok (.istore_n 2, 1) := by decide +kernel
theorem dX8_dawn_28 : decode cX8_dawn 28 = .ok (.iconst 0, 1) := by decide +kernel
theorem dX8_dawn_29 : decode cX8_dawn 29 = .ok (.istore_n 3, 1) := by decide +kernel
theorem dX8_dawn_30 : decode cX8_dawn 30 = .ok (.iload_n 3, 1) := by decide +kernel
theorem dX8_dawn_31 : decode cX8_dawn 31 = .ok (.iload_n 1, 1) := by decide +kernel
theorem dX8_dawn_32 : decode cX8_dawn 32 = .ok (.if_icmp .ge 14, 3) := by decide +kernel
theorem dX8_dawn_35 : decode cX8_dawn 35 = .ok (.aload_n 0, 1) := by decide +kernel
theorem dX8_dawn_36 : decode cX8_dawn 36 = .ok (.invokevirtual 269, 3) := by decide +kernel
theorem dX8_dawn_39 : decode cX8_dawn 39 = .ok (.istore_n 2, 1) := by decide +kernel
theorem dX8_dawn_40 : decode cX8_dawn 40 = .ok (.iinc 3 1, 3) := by decide +kernel
theorem dX8_dawn_43 : decode cX8_dawn 43 = .ok (.goto (-13), 3) := by decide +kernel
theorem dX8_dawn_46 : decode cX8_dawn 46 = .ok (.iload_n 2, 1) := by decide +kernel
theorem dX8_dawn_47 : decode cX8_dawn 47 = .ok (.ireturn, 1) := by decide +kernel
theorem dX8_ruler_0 : decode cX8_ruler 0 = .ok (.iload_n 2, 1) := by decide +kernel
theorem dX8_ruler_1 : decode cX8_ruler 1 = .ok (.i2l, 1) := by decide +kernel
theorem dX8_ruler_2 : decode cX8_ruler 2 = .ok (.lconst 0, 1) := by decide +kernel
theorem dX8_ruler_3 : decode cX8_ruler 3 = .ok (.lconst 1, 1) := by decide +kernel
theorem dX8_ruler_4 : decode cX8_ruler 4 = .ok (.invokestatic 112, 3) := by decide +kernel
theorem dX8_ruler_7 : decode cX8_ruler 7 = .ok (.ifCond .ne 6, 3) := by decide +kernel
theorem dX8_ruler_10 : decode cX8_ruler 10 = .ok (.ldc 133, 2) := by decide +kernel
theorem dX8_ruler_12 : decode cX8_ruler 12 = .ok (.ireturn, 1) := by decide +kernel
theorem dX8_ruler_13 : decode cX8_ruler 13 = .ok (.iload_n 1, 1) := by decide +kernel
theorem dX8_ruler_14 : decode cX8_ruler 14 = .ok (.i2l, 1) := by decide +kernel
theorem dX8_ruler_15 : decode cX8_ruler 15 = .ok (.lconst 0, 1) := by decide +kernel
theorem dX8_ruler_16 : decode cX8_ruler 16 = .ok (.aload_n 0, 1) := by decide +kernel
theorem dX8_ruler_17 : decode cX8_ruler 17 = .ok (.getfield 128, 3) := by decide +kernel
theorem dX8_ruler_20 : decode cX8_ruler 20 = .ok (.iconst 1, 1) := by decide +kernel
theorem dX8_ruler_21 : decode cX8_ruler 21 = .ok (.isub, 1) := by decide +kernel
theorem dX8_ruler_22 : decode cX8_ruler 22 = .ok (.i2l, 1) := by decide +kernel
theorem dX8_ruler_23 : decode cX8_ruler 23 = .ok (.invokestatic 112, 3) := by decide +kernel
theorem dX8_ruler_26 : decode cX8_ruler 26 = .ok (.ifCond .ne 7, 3) := by decide +kernel
theorem dX8_ruler_29 : decode cX8_ruler 29 = .ok (.iconst (-1), 1) := by decide +kernel
theorem dX8_ruler_30 : decode cX8_ruler 30 = .ok (.goto 22, 3) := by decide +kernel
theorem dX8_ruler_33 : decode cX8_ruler 33 = .ok (.iload_n 2, 1) := by decide +kernel
theorem dX8_ruler_34 : decode cX8_ruler 34 = .ok (.ifCond .ne 12, 3) := by decide +kernel
theorem dX8_ruler_37 : decode cX8_ruler 37 = .ok (.aload_n 0, 1) := by decide +kernel
theorem dX8_ruler_38 : decode cX8_ruler 38 = .ok (.getfield 50, 3) := by decide +kernel
theorem dX8_ruler_41 : decode cX8_ruler 41 = .ok (.iload_n 1, 1) := by decide +kernel
theorem dX8_ruler_42 : decode cX8_ruler 42 = .ok (.iaload, 1) := by decide +kernel
theorem dX8_ruler_43 : decode cX8_ruler 43 = .ok (.goto 9, 3) := by decide +kernel
theorem dX8_ruler_46 : decode cX8_ruler 46 = .ok (.aload_n 0, 1) := by decide +kernel
theorem dX8_ruler_47 : decode cX8_ruler 47 = .ok (.getfield 53, 3) := by decide +kernel
theorem dX8_ruler_50 : decode cX8_ruler 50 = .ok (.iload_n 1, 1) := by decide +kernel
theorem dX8_ruler_51 : decode cX8_ruler 51 = .ok (.iaload, 1) := by decide +kernel
theorem dX8_ruler_52 : decode cX8_ruler 52 = .ok (.ireturn, 1) := by decide +kernel
theorem dX8_laterRaw_0 : decode cX8_laterRaw 0 = .ok (.aload_n 0, 1) := by decide +kernel
theorem dX8_laterRaw_1 : decode cX8_laterRaw 1 = .ok (.iload_n 1, 1) := by decide +kernel
theorem dX8_laterRaw_2 : decode cX8_laterRaw 2 = .ok (.invokevirtual 240, 3) := by decide +kernel
theorem dX8_laterRaw_5 : decode cX8_laterRaw 5 = .ok (.iload_n 2, 1) := by decide +kernel
theorem dX8_laterRaw_6 : decode cX8_laterRaw 6 = .ok (.isub, 1) := by decide +kernel
theorem dX8_laterRaw_7 : decode cX8_laterRaw 7 = .ok (.istore_n 3, 1) := by decide +kernel
theorem dX8_laterRaw_8 : decode cX8_laterRaw 8 = .ok (.iconst 2, 1) := by decide +kernel
theorem dX8_laterRaw_9 : decode cX8_laterRaw 9 = .ok (.aload_n 0, 1) := by decide +kernel
theorem dX8_laterRaw_10 : decode cX8_laterRaw 10 = .ok (.getfield 25, 3) := by decide +kernel
theorem dX8_laterRaw_13 : decode cX8_laterRaw 13 = .ok (.iload_n 1, 1) := by decide +kernel
theorem dX8_laterRaw_14 : decode cX8_laterRaw 14 = .ok (.iaload, 1) := by decide +kernel
theorem dX8_laterRaw_15 : decode cX8_laterRaw 15 = .ok (.imul, 1) := by decide +kernel
theorem dX8_laterRaw_16 : decode cX8_laterRaw 16 = .ok (.iconst 1, 1) := by decide +kernel
theorem dX8_laterRaw_17 : decode cX8_laterRaw 17 = .ok (.iadd, 1) := by decide +kernel
theorem dX8_laterRaw_18 : decode cX8_laterRaw 18 = .ok (.istore 4, 2) := by decide +kernel
theorem dX8_laterRaw_20 : decode cX8_laterRaw 20 = .ok (.iload_n 3, 1) := by decide +kernel
theorem dX8_laterRaw_21 : decode cX8_laterRaw 21 = .ok (.ifCond .ge 7, 3) := by decide +kernel
theorem dX8_laterRaw_24 : decode cX8_laterRaw 24 = .ok (.iconst 0, 1) := by decide +kernel
theorem dX8_laterRaw_25 : decode cX8_laterRaw 25 = .ok (.goto 15, 3) := by decide +kernel
theorem dX8_laterRaw_28 : decode cX8_laterRaw 28 = .ok (.iload_n 3, 1) := by decide +kernel
theorem dX8_laterRaw_29 : decode cX8_laterRaw 29 = .ok (.iload 4, 2) := by decide +kernel
theorem dX8_laterRaw_31 : decode cX8_laterRaw 31 = .ok (.if_icmp .le 8, 3) := by decide +kernel
theorem dX8_laterRaw_34 : decode cX8_laterRaw 34 = .ok (.iload 4, 2) := by decide +kernel
theorem dX8_laterRaw_36 : decode cX8_laterRaw 36 = .ok (.goto 4, 3) := by decide +kernel
theorem dX8_laterRaw_39 : decode cX8_laterRaw 39 = .ok (.iload_n 3, 1) := by decide +kernel
theorem dX8_laterRaw_40 : decode cX8_laterRaw 40 = .ok (.ireturn, 1) := by decide +kernel
theorem dX8_later_0 : decode cX8_later 0 = .ok (.aload_n 0, 1) := by decide +kernel
theorem dX8_later_1 : decode cX8_later 1 = .ok (.iload_n 1, 1) := by decide +kernel
theorem dX8_later_2 : decode cX8_later 2 = .ok (.invokevirtual 228, 3) := by decide +kernel
theorem dX8_later_5 : decode cX8_later 5 = .ok (.ifCond .eq 15, 3) := by decide +kernel
theorem dX8_later_8 : decode cX8_later 8 = .ok (.iload_n 2, 1) := by decide +kernel
theorem dX8_later_9 : decode cX8_later 9 = .ok (.aload_n 0, 1) := by decide +kernel
theorem dX8_later_10 : decode cX8_later 10 = .ok (.getfield 34, 3) := by decide +kernel
theorem dX8_later_13 : decode cX8_later 13 = .ok (.if_icmp .lt 7, 3) := by decide +kernel
theorem dX8_later_16 : decode cX8_later 16 = .ok (.iconst 0, 1) := by decide +kernel
theorem dX8_later_17 : decode cX8_later 17 = .ok (.goto 9, 3) := by decide +kernel
theorem dX8_later_20 : decode cX8_later 20 = .ok (.aload_n 0, 1) := by decide +kernel
theorem dX8_later_21 : decode cX8_later 21 = .ok (.iload_n 1, 1) := by decide +kernel
theorem dX8_later_22 : decode cX8_later 22 = .ok (.iload_n 2, 1) := by decide +kernel
theorem dX8_later_23 : decode cX8_later 23 = .ok (.invokevirtual 272, 3) := by decide +kernel
theorem dX8_later_26 : decode cX8_later 26 = .ok (.ireturn, 1) := by decide +kernel
theorem dX8_lets_0 : decode cX8_lets 0 = .ok (.aload_n 0, 1) := by decide +kernel
theorem dX8_lets_1 : decode cX8_lets 1 = .ok (.iload_n 1, 1) := by decide +kernel
theorem dX8_lets_2 : decode cX8_lets 2 = .ok (.iload_n 3, 1) := by decide +kernel
theorem dX8_lets_3 : decode cX8_lets 3 = .ok (.invokevirtual 275, 3) := by decide +kernel
theorem dX8_lets_6 : decode cX8_lets 6 = .ok (.istore 4, 2) := by decide +kernel
theorem dX8_lets_8 : decode cX8_lets 8 = .ok (.aload_n 0, 1) := by decide +kernel
theorem dX8_lets_9 : decode cX8_lets 9 = .ok (.iload_n 1, 1) := by decide +kernel
theorem dX8_lets_10 : decode cX8_lets 10 = .ok (.iload_n 3, 1) := by decide +kernel
theorem dX8_lets_11 : decode cX8_lets 11 = .ok (.iconst 1, 1) := by decide +kernel
theorem dX8_lets_12 : decode cX8_lets 12 = .ok (.isub, 1) := by decide +kernel
theorem dX8_lets_13 : decode cX8_lets 13 = .ok (.invokevirtual 275, 3) := by decide +kernel
theorem dX8_lets_16 : decode cX8_lets 16 = .ok (.istore 5, 2) := by decide +kernel
theorem dX8_lets_18 : decode cX8_lets 18 = .ok (.aload_n 0, 1) := by decide +kernel
theorem dX8_lets_19 : decode cX8_lets 19 = .ok (.getfield 119, 3) := by decide +kernel
theorem dX8_lets_22 : decode cX8_lets 22 = .ok (.ifCond .ne 16, 3) := by decide +kernel
theorem dX8_lets_25 : decode cX8_lets 25 = .ok (.iload_n 1, 1) := by decide +kernel
theorem dX8_lets_26 : decode cX8_lets 26 = .ok (.iload_n 2, 1) := by decide +kernel
theorem dX8_lets_27 : decode cX8_lets 27 = .ok (.if_icmp .le 8, 3) := by decide +kernel
theorem dX8_lets_30 : decode cX8_lets 30 = .ok (.iload 5, 2) := by decide +kernel
theorem dX8_lets_32 : decode cX8_lets 32 = .ok (.goto 5, 3) := by decide +kernel
theorem dX8_lets_35 : decode cX8_lets 35 = .ok (.iload 4, 2) := by decide +kernel
theorem dX8_lets_37 : decode cX8_lets 37 = .ok (.ireturn, 1) := by decide +kernel
theorem dX8_lets_38 : decode cX8_lets 38 = .ok (.iconst 2, 1) := by decide +kernel
theorem dX8_lets_39 : decode cX8_lets 39 = .ok (.aload_n 0, 1) := by decide +kernel
theorem dX8_lets_40 : decode cX8_lets 40 = .ok (.getfield 25, 3) := by decide +kernel
theorem dX8_lets_43 : decode cX8_lets 43 = .ok (.iload_n 1, 1) := by decide +kernel
theorem dX8_lets_44 : decode cX8_lets 44 = .ok (.iaload, 1) := by decide +kernel
theorem dX8_lets_45 : decode cX8_lets 45 = .ok (.imul, 1) := by decide +kernel
theorem dX8_lets_46 : decode cX8_lets 46 = .ok (.iconst 1, 1) := by decide +kernel
theorem dX8_lets_47 : decode cX8_lets 47 = .ok (.iadd, 1) := by decide +kernel
theorem dX8_lets_48 : decode cX8_lets 48 = .ok (.istore 6, 2) := by decide +kernel
theorem dX8_lets_50 : decode cX8_lets 50 = .ok (.iload_n 1, 1) := by decide +kernel
theorem dX8_lets_51 : decode cX8_lets 51 = .ok (.iload_n 2, 1) := by decide +kernel
theorem dX8_lets_52 : decode cX8_lets 52 = .ok (.if_icmp .le 11, 3) := by decide +kernel
theorem dX8_lets_55 : decode cX8_lets 55 = .ok (.iload 6, 2) := by decide +kernel
theorem dX8_lets_57 : decode cX8_lets 57 = .ok (.iload 4, 2) := by decide +kernel
theorem dX8_lets_59 : decode cX8_lets 59 = .ok (.isub, 1) := by decide +kernel
theorem dX8_lets_60 : decode cX8_lets 60 = .ok (.goto 8, 3) := by decide +kernel
theorem dX8_lets_63 : decode cX8_lets 63 = .ok (.iload 6, 2) := by decide +kernel
theorem dX8_lets_65 : decode cX8_lets 65 = .ok (.iload 5, 2) := by decide +kernel
theorem dX8_lets_67 : decode cX8_lets 67 = .ok (.isub, 1) := by decide +kernel
theorem dX8_lets_68 : decode cX8_lets 68 = .ok (.ireturn, 1) := by decide +kernel
theorem dX8_oddsOf_0 : decode cX8_oddsOf 0 = .ok (.aload_n 0, 1) := by decide +kernel
theorem dX8_oddsOf_1 : decode cX8_oddsOf 1 = .ok (.getfield 119, 3) := by decide +kernel
theorem dX8_oddsOf_4 : decode cX8_oddsOf 4 = .ok (.iconst 2, 1) := by decide +kernel
theorem dX8_oddsOf_5 : decode cX8_oddsOf 5 = .ok (.if_icmp .ne 14, 3) := by decide +kernel
theorem dX8_oddsOf_8 : decode cX8_oddsOf 8 = .ok (.ldc2_w 278, 3) := by decide +kernel
theorem dX8_oddsOf_11 : decode cX8_oddsOf 11 = .ok (.aload_n 0, 1) := by decide +kernel
theorem dX8_oddsOf_12 : decode cX8_oddsOf 12 = .ok (.getfield 116, 3) := by decide +kernel
theorem dX8_oddsOf_15 : decode cX8_oddsOf 15 = .ok (.i2l, 1) := by decide +kernel
theorem dX8_oddsOf_16 : decode cX8_oddsOf 16 = .ok (.ldiv, 1) := by decide +kernel
theorem dX8_oddsOf_17 : decode cX8_oddsOf 17 = .ok (.l2i, 1) := by decide +kernel
theorem dX8_oddsOf_18 : decode cX8_oddsOf 18 = .ok (.ireturn, 1) := by decide +kernel
theorem dX8_oddsOf_19 : decode cX8_oddsOf 19 = .ok (.lconst 0, 1) := by decide +kernel
theorem dX8_oddsOf_20 : decode cX8_oddsOf 20 = .ok (.lstore_n 2, 1) := by decide +kernel
theorem dX8_oddsOf_21 : decode cX8_oddsOf 21 = .ok (.aload_n 0, 1) := by decide +kernel
theorem dX8_oddsOf_22 : decode cX8_oddsOf 22 = .ok (.iload_n 1, 1) := by decide +kernel
theorem dX8_oddsOf_23 : decode cX8_oddsOf 23 = .ok (.invokevirtual 234, 3) := by decide +kernel
theorem dX8_oddsOf_26 : decode cX8_oddsOf 26 = .ok (.istore 4, 2) := by decide +kernel
theorem dX8_oddsOf_28 : decode cX8_oddsOf 28 = .ok (.iload 4, 2) := by decide +kernel
theorem dX8_oddsOf_30 : decode cX8_oddsOf 30 = .ok (.aload_n 0, 1) := by decide +kernel
theorem dX8_oddsOf_31 : decode cX8_oddsOf 31 = .ok (.iload_n 1, 1) := by decide +kernel
theorem dX8_oddsOf_32 : decode cX8_oddsOf 32 = .ok (.invokevirtual 240, 3) := by decide +kernel
theorem dX8_oddsOf_35 : decode cX8_oddsOf 35 = .ok (.if_icmp .gt 97, 3) := by decide +kernel
theorem dX8_oddsOf_38 : decode cX8_oddsOf 38 = .ok (.aload_n 0, 1) := by decide +kernel
theorem dX8_oddsOf_39 : decode cX8_oddsOf 39 = .ok (.iload_n 1, 1) := by decide +kernel
theorem dX8_oddsOf_40 : decode cX8_oddsOf 40 = .ok (.iload 4, 2) := by decide +kernel
theorem dX8_oddsOf_42 : decode cX8_oddsOf 42 = .ok (.invokevirtual 237, 3) := by decide +kernel
theorem dX8_oddsOf_45 : decode cX8_oddsOf 45 = .ok (.istore 5, 2) := by decide +kernel
theorem dX8_oddsOf_47 : decode cX8_oddsOf 47 = .ok (.ldc2_w 278, 3) := by decide +kernel
theorem dX8_oddsOf_50 : decode cX8_oddsOf 50 = .ok (.iconst 2, 1) := by decide +kernel
theorem dX8_oddsOf_51 : decode cX8_oddsOf 51 = .ok (.aload_n 0, 1) := by decide +kernel
theorem dX8_oddsOf_52 : decode cX8_oddsOf 52 = .ok (.getfield 25, 3) := by decide +kernel
theorem dX8_oddsOf_55 : decode cX8_oddsOf 55 = .ok (.iload_n 1, 1) := by decide +kernel
theorem dX8_oddsOf_56 : decode cX8_oddsOf 56 = .ok (.iaload, 1) := by decide +kernel
theorem dX8_oddsOf_57 : decode cX8_oddsOf 57 = .ok (.imul, 1) := by decide +kernel
theorem dX8_oddsOf_58 : decode cX8_oddsOf 58 = .ok (.iconst 1, 1) := by decide +kernel
theorem dX8_oddsOf_59 : decode cX8_oddsOf 59 = .ok (.iadd, 1) := by decide +kernel
theorem dX8_oddsOf_60 : decode cX8_oddsOf 60 = .ok (.i2l, 1) := by decide +kernel
theorem dX8_oddsOf_61 : decode cX8_oddsOf 61 = .ok (.ldiv, 1) := by decide +kernel
theorem dX8_oddsOf_62 : decode cX8_oddsOf 62 = .ok (.lstore 6, 2) := by decide +kernel
theorem dX8_oddsOf_64 : decode cX8_oddsOf 64 = .ok (.iconst 0, 1) := by decide +kernel
theorem dX8_oddsOf_65 : decode cX8_oddsOf 65 = .ok (.istore 8, 2) := by decide +kernel
theorem dX8_oddsOf_67 : decode cX8_oddsOf 67 = .ok (.iload 8, 2) := by decide +kernel
theorem dX8_oddsOf_69 : decode cX8_oddsOf 69 = .ok (.aload_n 0, 1) := by decide +kernel
theorem dX8_oddsOf_70 : decode cX8_oddsOf 70 = .ok (.getfield 116, 3) := by decide +kernel
theorem dX8_oddsOf_73 : decode cX8_oddsOf 73 = .ok (.if_icmp .ge 48, 3) := by decide +kernel
theorem dX8_oddsOf_76 : decode cX8_oddsOf 76 = .ok (.iload 8, 2) := by decide +kernel
theorem dX8_oddsOf_78 : decode cX8_oddsOf 78 = .ok (.iload_n 1, 1) := by decide +kernel
theorem dX8_oddsOf_79 : decode cX8_oddsOf 79 = .ok (.if_icmp .ne 8, 3) := by decide +kernel
theorem dX8_oddsOf_82 : decode cX8_oddsOf 82 = .ok (.lload 6, 2) := by decide +kernel
theorem dX8_oddsOf_84 : decode cX8_oddsOf 84 = .ok (.goto 29, 3) := by decide +kernel
theorem dX8_oddsOf_87 : decode cX8_oddsOf 87 = .ok (.lload 6, 2) := by decide +kernel
theorem dX8_oddsOf_89 : decode cX8_oddsOf 89 = .ok (.aload_n 0, 1) := by decide +kernel
theorem dX8_oddsOf_90 : decode cX8_oddsOf 90 = .ok (.iload 8, 2) := by decide +kernel
theorem dX8_oddsOf_92 : decode cX8_oddsOf 92 = .ok (.iload_n 1, 1) := by decide +kernel
theorem dX8_oddsOf_93 : decode cX8_oddsOf 93 = .ok (.iload 5, 2) := by decide +kernel
theorem dX8_oddsOf_95 : decode cX8_oddsOf 95 = .ok (.invokevirtual 280, 3) := by decide +kernel
theorem dX8_oddsOf_98 : decode cX8_oddsOf 98 = .ok (.i2l, 1) := by decide +kernel
theorem dX8_oddsOf_99 : decode cX8_oddsOf 99 = .ok (.lmul, 1) := by decide +kernel
theorem dX8_oddsOf_100 : decode cX8_oddsOf 100 = .ok (.iconst 2, 1) := by decide +kernel
theorem dX8_oddsOf_101 : decode cX8_oddsOf 101 = .ok (.aload_n 0, 1) := by decide +kernel
theorem dX8_oddsOf_102 : decode cX8_oddsOf 102 = .ok (.getfield 25, 3) := by decide +kernel
theorem dX8_oddsOf_105 : decode cX8_oddsOf 105 = .ok (.iload 8, 2) := by decide +kernel
theorem dX8_oddsOf_107 : decode cX8_oddsOf 107 = .ok (.iaload, 1) := by decide +kernel
theorem dX8_oddsOf_108 : decode cX8_oddsOf 108 = .ok (.imul, 1) := by decide +kernel
theorem dX8_oddsOf_109 : decode cX8_oddsOf 109 = .ok (.iconst 1, 1) := by decide +kernel
theorem dX8_oddsOf_110 : decode cX8_oddsOf 110 = .ok (.iadd, 1) := by decide +kernel
theorem dX8_oddsOf_111 : decode cX8_oddsOf 111 = .ok (.i2l, 1) := by decide +kernel
theorem dX8_oddsOf_112 : decode cX8_oddsOf 112 = .ok (.ldiv, 1) := by decide +kernel
theorem dX8_oddsOf_113 : decode cX8_oddsOf 113 = .ok (.lstore 6, 2) := by decide +kernel
theorem dX8_oddsOf_115 : decode cX8_oddsOf 115 = .ok (.iinc 8 1, 3) := by decide +kernel
theorem dX8_oddsOf_118 : decode cX8_oddsOf 118 = .ok (.goto (-51), 3) := by decide +kernel
theorem dX8_oddsOf_121 : decode cX8_oddsOf 121 = .ok (.lload_n 2, 1) := by decide +kernel
theorem dX8_oddsOf_122 : decode cX8_oddsOf 122 = .ok (.lload 6, 2) := by decide +kernel
theorem dX8_oddsOf_124 : decode cX8_oddsOf 124 = .ok (.ladd, 1) := by decide +kernel
theorem dX8_oddsOf_125 : decode cX8_oddsOf 125 = .ok (.lstore_n 2, 1) := by decide +kernel
theorem dX8_oddsOf_126 : decode cX8_oddsOf 126 = .ok (.iinc 4 1, 3) := by decide +kernel
theorem dX8_oddsOf_129 : decode cX8_oddsOf 129 = .ok (.goto (-101), 3) := by decide +kernel
theorem dX8_oddsOf_132 : decode cX8_oddsOf 132 = .ok (.lload_n 2, 1) := by decide +kernel
theorem dX8_oddsOf_133 : decode cX8_oddsOf 133 = .ok (.l2i, 1) := by decide +kernel
theorem dX8_oddsOf_134 : decode cX8_oddsOf 134 = .ok (.ireturn, 1) := by decide +kernel
theorem dX8_odds_0 : decode cX8_odds 0 = .ok (.aload_n 0, 1) := by decide +kernel
theorem dX8_odds_1 : decode cX8_odds 1 = .ok (.iload_n 1, 1) := by decide +kernel
theorem dX8_odds_2 : decode cX8_odds 2 = .ok (.invokevirtual 231, 3) := by decide +kernel
theorem dX8_odds_5 : decode cX8_odds 5 = .ok (.ifCond .eq 11, 3) := by decide +kernel
theorem dX8_odds_8 : decode cX8_odds 8 = .ok (.aload_n 0, 1) := by decide +kernel
theorem dX8_odds_9 : decode cX8_odds 9 = .ok (.iload_n 1, 1) := by decide +kernel
theorem dX8_odds_10 : decode cX8_odds 10 = .ok (.invokevirtual 284, 3) := by decide +kernel
theorem dX8_odds_13 : decode cX8_odds 13 = .ok (.goto 5, 3) := by decide +kernel
theorem dX8_odds_16 : decode cX8_odds 16 = .ok (.ldc 223, 2) := by decide +kernel
theorem dX8_odds_18 : decode cX8_odds 18 = .ok (.ireturn, 1) := by decide +kernel
theorem dX8_oddsOfHouses_0 : decode cX8_oddsOfHouses 0 = .ok (.iconst 0, 1) := by decide +kernel
theorem dX8_oddsOfHouses_1 : decode cX8_oddsOfHouses 1 = .ok (.istore_n 2, 1) := by decide +kernel
theorem dX8_oddsOfHouses_2 : decode cX8_oddsOfHouses 2 = .ok (.iconst 0, 1) := by decide +kernel
theorem dX8_oddsOfHouses_3 : decode cX8_oddsOfHouses 3 = .ok (.istore_n 3, 1) := by decide +kernel
theorem dX8_oddsOfHouses_4 : decode cX8_oddsOfHouses 4 = .ok (.iload_n 3, 1) := by decide +kernel
theorem dX8_oddsOfHouses_5 : decode cX8_oddsOfHouses 5 = .ok (.aload_n 0, 1) := by decide +kernel
theorem dX8_oddsOfHouses_6 : decode cX8_oddsOfHouses 6 = .ok (.getfield 116, 3) := by decide +kernel
theorem dX8_oddsOfHouses_9 : decode cX8_oddsOfHouses 9 = .ok (.if_icmp .ge 34, 3) := by decide +kernel
theorem dX8_oddsOfHouses_12 : decode cX8_oddsOfHouses 12 = .ok (.iload_n 2, 1) := by decide +kernel
theorem dX8_oddsOfHouses_13 : decode cX8_oddsOfHouses 13 = .ok (.iload_n 1, 1) := by decide +kernel
theorem dX8_oddsOfHouses_14 : decode cX8_oddsOfHouses 14 = .ok (.aload_n 0, 1) := by decide +kernel
theorem dX8_oddsOfHouses_15 : decode cX8_oddsOfHouses 15 = .ok (.getfield 19, 3) := by decide +kernel
theorem dX8_oddsOfHouses_18 : decode cX8_oddsOfHouses 18 = .ok (.iload_n 3, 1) := by decide +kernel
theorem dX8_oddsOfHouses_19 : decode cX8_oddsOfHouses 19 = .ok (.iaload, 1) := by decide +kernel
theorem dX8_oddsOfHouses_20 : decode cX8_oddsOfHouses 20 = .ok (.invokestatic 287, 3) := by decide +kernel
theorem dX8_oddsOfHouses_23 : decode cX8_oddsOfHouses 23 = .ok (.ifCond .eq 11, 3) := by decide +kernel
theorem dX8_oddsOfHouses_26 : decode cX8_oddsOfHouses 26 = .ok (.aload_n 0, 1) := by decide +kernel
theorem dX8_oddsOfHouses_27 : decode cX8_oddsOfHouses 27 = .ok (.iload_n 3, 1) := by decide +kernel
theorem dX8_oddsOfHouses_28 : decode cX8_oddsOfHouses 28 = .ok (.invokevirtual 284, 3) := by decide +kernel
theorem dX8_oddsOfHouses_31 : decode cX8_oddsOfHouses 31 = .ok (.goto 4, 3) := by decide +kernel
theorem dX8_oddsOfHouses_34 : decode cX8_oddsOfHouses 34 = .ok (.iconst 0, 1) := by decide +kernel
theorem dX8_oddsOfHouses_35 : decode cX8_oddsOfHouses 35 = .ok (.iadd, 1) := by decide +kernel
theorem dX8_oddsOfHouses_36 : decode cX8_oddsOfHouses 36 = .ok (.istore_n 2, 1) := by decide +kernel
theorem dX8_oddsOfHouses_37 : decode cX8_oddsOfHouses 37 = .ok (.iinc 3 1, 3) := by decide +kernel
theorem dX8_oddsOfHouses_40 : decode cX8_oddsOfHouses 40 = .ok (.goto (-36), 3) := by decide +kernel
theorem dX8_oddsOfHouses_43 : decode cX8_oddsOfHouses 43 = .ok (.iload_n 2, 1) := by decide +kernel
theorem dX8_oddsOfHouses_44 : decode cX8_oddsOfHouses 44 = .ok (.ireturn, 1) := by decide +kernel
theorem dX8_together_0 : decode cX8_together 0 = .ok (.iload_n 1, 1) := by decide +kernel
theorem dX8_together_1 : decode cX8_together 1 = .ok (.i2l, 1) := by decide +kernel
theorem dX8_together_2 : decode cX8_together 2 = .ok (.lconst 0, 1) := by decide +kernel
theorem dX8_together_3 : decode cX8_together 3 = .ok (.iconst 1, 1) := by decide +kernel
theorem dX8_together_4 : decode cX8_together 4 = .ok (.aload_n 0, 1) := by decide +kernel
theorem dX8_together_5 : decode cX8_together 5 = .ok (.getfield 109, 3) := by decide +kernel
theorem dX8_together_8 : decode cX8_together 8 = .ok (.ishl, 1) := by decide +kernel
theorem dX8_together_9 : decode cX8_together 9 = .ok (.iconst 1, 1) := by decide +kernel
theorem dX8_together_10 : decode cX8_together 10 = .ok (.isub, 1) := by decide +kernel
theorem dX8_together_11 : decode cX8_together 11 = .ok (.i2l, 1) := by decide +kernel
theorem dX8_together_12 : decode cX8_together 12 = .ok (.invokestatic 112, 3) := by decide +kernel
theorem dX8_together_15 : decode cX8_together 15 = .ok (.ifCond .eq 11, 3) := by decide +kernel
theorem dX8_together_18 : decode cX8_together 18 = .ok (.aload_n 0, 1) := by decide +kernel
theorem dX8_together_19 : decode cX8_together 19 = .ok (.iload_n 1, 1) := by decide +kernel
theorem dX8_together_20 : decode cX8_together 20 = .ok (.invokevirtual 291, 3) := by decide +kernel
theorem dX8_together_23 : decode cX8_together 23 = .ok (.goto 5, 3) := by decide +kernel
theorem dX8_together_26 : decode cX8_together 26 = .ok (.ldc 223, 2) := by decide +kernel
theorem dX8_together_28 : decode cX8_together 28 = .ok (.ireturn, 1) := by decide +kernel
theorem dX8_shiftHouse_0 : decode cX8_shiftHouse 0 = .ok (.iconst 0, 1) := by decide +kernel
theorem dX8_shiftHouse_1 : decode cX8_shiftHouse 1 = .ok (.istore_n 3, 1) := by decide +kernel
theorem dX8_shiftHouse_2 : decode cX8_shiftHouse 2 = .ok (.iload_n 3, 1) := by decide +kernel
theorem dX8_shiftHouse_3 : decode cX8_shiftHouse 3 = .ok (.aload_n 0, 1) := by decide +kernel
theorem dX8_shiftHouse_4 : decode cX8_shiftHouse 4 = .ok (.getfield 116, 3) := by decide +kernel
theorem dX8_shiftHouse_7 : decode cX8_shiftHouse 7 = .ok (.if_icmp .ge 35, 3) := by decide +kernel
theorem dX8_shiftHouse_10 : decode cX8_shiftHouse 10 = .ok (.aload_n 0, 1) := by decide +kernel
theorem dX8_shiftHouse_11 : decode cX8_shiftHouse 11 = .ok (.getfield 31, 3) := by decide +kernel
theorem dX8_shiftHouse_14 : decode cX8_shiftHouse 14 = .ok (.iload_n 3, 1) := by decide +kernel
theorem dX8_shiftHouse_15 : decode cX8_shiftHouse 15 = .ok (.aload_n 0, 1) := by decide +kernel
theorem dX8_shiftHouse_16 : decode cX8_shiftHouse 16 = .ok (.getfield 19, 3) := by decide +kernel
theorem dX8_shiftHouse_19 : decode cX8_shiftHouse 19 = .ok (.iload_n 3, 1) := by decide +kernel
theorem dX8_shiftHouse_20 : decode cX8_shiftHouse 20 = .ok (.iaload, 1) := by decide +kernel
theorem dX8_shiftHouse_21 : decode cX8_shiftHouse 21 = .ok (.iload_n 1, 1) := by decide +kernel
theorem dX8_shiftHouse_22 : decode cX8_shiftHouse 22 = .ok (.if_icmp .ne 7, 3) := by decide +kernel
theorem dX8_shiftHouse_25 : decode cX8_shiftHouse 25 = .ok (.iload_n 2, 1) := by decide +kernel
theorem dX8_shiftHouse_26 : decode cX8_shiftHouse 26 = .ok (.goto 9, 3) := by decide +kernel
theorem dX8_shiftHouse_29 : decode cX8_shiftHouse 29 = .ok (.aload_n 0, 1) := by decide +kernel
theorem dX8_shiftHouse_30 : decode cX8_shiftHouse 30 = .ok (.getfield 31, 3) := by decide +kernel
theorem dX8_shiftHouse_33 : decode cX8_shiftHouse 33 = .ok (.iload_n 3, 1) := by decide +kernel
theorem dX8_shiftHouse_34 : decode cX8_shiftHouse 34 = .ok (.iaload, 1) := by decide +kernel
theorem dX8_shiftHouse_35 : decode cX8_shiftHouse 35 = .ok (.iastore, 1) := by decide +kernel
theorem dX8_shiftHouse_36 : decode cX8_shiftHouse 36 = .ok (.iinc 3 1, 3) := by decide +kernel
theorem dX8_shiftHouse_39 : decode cX8_shiftHouse 39 = .ok (.goto (-37), 3) := by decide +kernel
theorem dX8_shiftHouse_42 : decode cX8_shiftHouse 42 = .ok (.return_, 1) := by decide +kernel
theorem dX8_bestShift_0 : decode cX8_bestShift 0 = .ok (.iconst (-1), 1) := by decide +kernel
theorem dX8_bestShift_1 : decode cX8_bestShift 1 = .ok (.istore_n 2, 1) := by decide +kernel
theorem dX8_bestShift_2 : decode cX8_bestShift 2 = .ok (.lconst 0, 1) := by decide +kernel
theorem dX8_bestShift_3 : decode cX8_bestShift 3 = .ok (.lstore_n 3, 1) := by decide +kernel
theorem dX8_bestShift_4 : decode cX8_bestShift 4 = .ok (.iconst 0, 1) := by decide +kernel
theorem dX8_bestShift_5 : decode cX8_bestShift 5 = .ok (.istore 5, 2) := by decide +kernel
theorem dX8_bestShift_7 : decode cX8_bestShift 7 = .ok (.iload 5, 2) := by decide +kernel
theorem dX8_bestShift_9 : decode cX8_bestShift 9 = .ok (.aload_n 0, 1) := by decide +kernel
theorem dX8_bestShift_10 : decode cX8_bestShift 10 = .ok (.getfield 116, 3) := by decide +kernel
theorem dX8_bestShift_13 : decode cX8_bestShift 13 = .ok (.if_icmp .ge 23, 3) := by decide +kernel
theorem dX8_bestShift_16 : decode cX8_bestShift 16 = .ok (.aload_n 0, 1) := by decide +kernel
theorem dX8_bestShift_17 : decode cX8_bestShift 17 = .ok (.getfield 86, 3) := by decide +kernel
theorem dX8_bestShift_20 : decode cX8_bestShift 20 = .ok (.iload 5, 2) := by decide +kernel
theorem dX8_bestShift_22 : decode cX8_bestShift 22 = .ok (.aload_n 0, 1) := by decide +kernel
theorem dX8_bestShift_23 : decode cX8_bestShift 23 = .ok (.getfield 31, 3) := by decide +kernel
theorem dX8_bestShift_26 : decode cX8_bestShift 26 = .ok (.iload 5, 2) := by decide +kernel
theorem dX8_bestShift_28 : decode cX8_bestShift 28 = .ok (.iaload, 1) := by decide +kernel
theorem dX8_bestShift_29 : decode cX8_bestShift 29 = .ok (.iastore, 1) := by decide +kernel
theorem dX8_bestShift_30 : decode cX8_bestShift 30 = .ok (.iinc 5 1, 3) := by decide +kernel
theorem dX8_bestShift_33 : decode cX8_bestShift 33 = .ok (.goto (-26), 3) := by decide +kernel
theorem dX8_bestShift_36 : decode cX8_bestShift 36 = .ok (.iconst 0, 1) := by decide +kernel
theorem dX8_bestShift_37 : decode cX8_bestShift 37 = .ok (.istore 5, 2) := by decide +kernel
theorem dX8_bestShift_39 : decode cX8_bestShift 39 = .ok (.iload 5, 2) := by decide +kernel
theorem dX8_bestShift_41 : decode cX8_bestShift 41 = .ok (.aload_n 0, 1) := by decide +kernel
theorem dX8_bestShift_42 : decode cX8_bestShift 42 = .ok (.getfield 16, 3) := by decide +kernel
theorem dX8_bestShift_45 : decode cX8_bestShift 45 = .ok (.iload_n 1, 1) := by decide +kernel
theorem dX8_bestShift_46 : decode cX8_bestShift 46 = .ok (.iaload, 1) := by decide +kernel
theorem dX8_bestShift_47 : decode cX8_bestShift 47 = .ok (.if_icmp .gt 106, 3) := by decide +kernel
theorem dX8_bestShift_50 : decode cX8_bestShift 50 = .ok (.aload_n 0, 1) := by decide +kernel
theorem dX8_bestShift_51 : decode cX8_bestShift 51 = .ok (.iload_n 1, 1) := by decide +kernel
theorem dX8_bestShift_52 : decode cX8_bestShift 52 = .ok (.iload 5, 2) := by decide +kernel
theorem dX8_bestShift_54 : decode cX8_bestShift 54 = .ok (.invokevirtual 294, 3) := by decide +kernel
theorem dX8_bestShift_57 : decode cX8_bestShift 57 = .ok (.aload_n 0, 1) := by decide +kernel
theorem dX8_bestShift_58 : decode cX8_bestShift 58 = .ok (.iconst 1, 1) := by decide +kernel
theorem dX8_bestShift_59 : decode cX8_bestShift 59 = .ok (.iload_n 1, 1) := by decide +kernel
theorem dX8_bestShift_60 : decode cX8_bestShift 60 = .ok (.ishl, 1) := by decide +kernel
theorem dX8_bestShift_61 : decode cX8_bestShift 61 = .ok (.invokevirtual 291, 3) := by decide +kernel
theorem dX8_bestShift_64 : decode cX8_bestShift 64 = .ok (.istore 6, 2) := by decide +kernel
theorem dX8_bestShift_66 : decode cX8_bestShift 66 = .ok (.iload 6, 2) := by decide +kernel
theorem dX8_bestShift_68 : decode cX8_bestShift 68 = .ok (.i2l, 1) := by decide +kernel
theorem dX8_bestShift_69 : decode cX8_bestShift 69 = .ok (.aload_n 0, 1) := by decide +kernel
theorem dX8_bestShift_70 : decode cX8_bestShift 70 = .ok (.getfield 13, 3) := by decide +kernel
theorem dX8_bestShift_73 : decode cX8_bestShift 73 = .ok (.iload_n 1, 1) := by decide +kernel
theorem dX8_bestShift_74 : decode cX8_bestShift 74 = .ok (.iaload, 1) := by decide +kernel
theorem dX8_bestShift_75 : decode cX8_bestShift 75 = .ok (.i2l, 1) := by decide +kernel
theorem dX8_bestShift_76 : decode cX8_bestShift 76 = .ok (.lmul, 1) := by decide +kernel
theorem dX8_bestShift_77 : decode cX8_bestShift 77 = .ok (.ldc2_w 278, 3) := by decide +kernel
theorem dX8_bestShift_80 : decode cX8_bestShift 80 = .ok (.ldiv, 1) := by decide +kernel
theorem dX8_bestShift_81 : decode cX8_bestShift 81 = .ok (.iload 5, 2) := by decide +kernel
theorem dX8_bestShift_83 : decode cX8_bestShift 83 = .ok (.i2l, 1) := by decide +kernel
theorem dX8_bestShift_84 : decode cX8_bestShift 84 = .ok (.lsub, 1) := by decide +kernel
theorem dX8_bestShift_85 : decode cX8_bestShift 85 = .ok (.lstore 7, 2) := by decide +kernel
theorem dX8_bestShift_87 : decode cX8_bestShift 87 = .ok (.iload_n 2, 1) := by decide +kernel
theorem dX8_bestShift_88 : decode cX8_bestShift 88 = .ok (.ifCond .lt 10, 3) := by decide +kernel
theorem dX8_bestShift_91 : decode cX8_bestShift 91 = .ok (.lload 7, 2) := by decide +kernel
theorem dX8_bestShift_93 : decode cX8_bestShift 93 = .ok (.lload_n 3, 1) := by decide +kernel
theorem dX8_bestShift_94 : decode cX8_bestShift 94 = .ok (.lcmp, 1) := by decide +kernel
theorem dX8_bestShift_95 : decode cX8_bestShift 95 = .ok (.ifCond .le 7, 3) := by decide +kernel
theorem dX8_bestShift_98 : decode cX8_bestShift 98 = .ok (.iconst 1, 1) := by decide +kernel
theorem dX8_bestShift_99 : decode cX8_bestShift 99 = .ok (.goto 4, 3) := by decide +kernel
theorem dX8_bestShift_102 : decode cX8_bestShift 102 = .ok (.iconst 0, 1) := by decide +kernel
theorem dX8_bestShift_103 : decode cX8_bestShift 103 = .ok (.istore 9, 2) := by decide +kernel
theorem dX8_bestShift_105 : decode cX8_bestShift 105 = .ok (.iload 9, 2) := by decide +kernel
theorem dX8_bestShift_107 : decode cX8_bestShift 107 = .ok (.ifCond .eq 8, 3) := by decide +kernel
theorem dX8_bestShift_110 : decode cX8_bestShift 110 = .ok (.iload 5, 2) := by decide +kernel
theorem dX8_bestShift_112 : decode cX8_bestShift 112 = .ok (.goto 4, 3) := by decide +kernel
theorem dX8_bestShift_115 : decode cX8_bestShift 115 = .ok (.iload_n 2, 1) := by decide +kernel
theorem dX8_bestShift_116 : decode cX8_bestShift 116 = .ok (.istore_n 2, 1) := by decide +kernel
theorem dX8_bestShift_117 : decode cX8_bestShift 117 = .ok (.aload_n 0, 1) := by decide +kernel
theorem dX8_bestShift_118 : decode cX8_bestShift 118 = .ok (.iload 9, 2) := by decide +kernel
theorem dX8_bestShift_120 : decode cX8_bestShift 120 = .ok (.ifCond .eq 8, 3) := by decide +kernel
theorem dX8_bestShift_123 : decode cX8_bestShift 123 = .ok (.iload 6, 2) := by decide +kernel
theorem dX8_bestShift_125 : decode cX8_bestShift 125 = .ok (.goto 7, 3) := by decide +kernel
theorem dX8_bestShift_128 : decode cX8_bestShift 128 = .ok (.aload_n 0, 1) := by decide +kernel
theorem dX8_bestShift_129 : decode cX8_bestShift 129 = .ok (.getfield 298, 3) := by decide +kernel
theorem dX8_bestShift_132 : decode cX8_bestShift 132 = .ok (.putfield 298, 3) := by decide +kernel
theorem dX8_bestShift_135 : decode cX8_bestShift 135 = .ok (.iload 9, 2) := by decide +kernel
theorem dX8_bestShift_137 : decode cX8_bestShift 137 = .ok (.ifCond .eq 8, 3) := by decide +kernel
theorem dX8_bestShift_140 : decode cX8_bestShift 140 = .ok (.lload 7, 2) := by decide +kernel
theorem dX8_bestShift_142 : decode cX8_bestShift 142 = .ok (.goto 4, 3) := by decide +kernel
theorem dX8_bestShift_145 : decode cX8_bestShift 145 = .ok (.lload_n 3, 1) := by decide +kernel
theorem dX8_bestShift_146 : decode cX8_bestShift 146 = .ok (.lstore_n 3, 1) := by decide +kernel
theorem dX8_bestShift_147 : decode cX8_bestShift 147 = .ok (.iinc 5 10, 3) := by decide +kernel
theorem dX8_bestShift_150 : decode cX8_bestShift 150 = .ok (.goto (-111), 3) := by decide +kernel
theorem dX8_bestShift_153 : decode cX8_bestShift 153 = .ok (.iconst 0, 1) := by decide +kernel
theorem dX8_bestShift_154 : decode cX8_bestShift 154 = .ok (.istore 5, 2) := by decide +kernel
theorem dX8_bestShift_156 : decode cX8_bestShift 156 = .ok (.iload 5, 2) := by decide +kernel
theorem dX8_bestShift_158 : decode cX8_bestShift 158 = .ok (.aload_n 0, 1) := by decide +kernel
theorem dX8_bestShift_159 : decode cX8_bestShift 159 = .ok (.getfield 116, 3) := by decide +kernel
theorem dX8_bestShift_162 : decode cX8_bestShift 162 = .ok (.if_icmp .ge 23, 3) := by decide +kernel
theorem dX8_bestShift_165 : decode cX8_bestShift 165 = .ok (.aload_n 0, 1) := by decide +kernel
theorem dX8_bestShift_166 : decode cX8_bestShift 166 = .ok (.getfield 31, 3) := by decide +kernel
theorem dX8_bestShift_169 : decode cX8_bestShift 169 = .ok (.iload 5, 2) := by decide +kernel
theorem dX8_bestShift_171 : decode cX8_bestShift 171 = .ok (.aload_n 0, 1) := by decide +kernel
theorem dX8_bestShift_172 : decode cX8_bestShift 172 = .ok (.getfield 86, 3) := by decide +kernel
theorem dX8_bestShift_175 : decode cX8_bestShift 175 = .ok (.iload 5, 2) := by decide +kernel
theorem dX8_bestShift_177 : decode cX8_bestShift 177 = .ok (.iaload, 1) := by decide +kernel
theorem dX8_bestShift_178 : decode cX8_bestShift 178 = .ok (.iastore, 1) := by decide +kernel
theorem dX8_bestShift_179 : decode cX8_bestShift 179 = .ok (.iinc 5 1, 3) := by decide +kernel
theorem dX8_bestShift_182 : decode cX8_bestShift 182 = .ok (.goto (-26), 3) := by decide +kernel
theorem dX8_bestShift_185 : decode cX8_bestShift 185 = .ok (.iload_n 2, 1) := by decide +kernel
theorem dX8_bestShift_186 : decode cX8_bestShift 186 = .ok (.ireturn, 1) := by decide +kernel
theorem dX8_best_0 : decode cX8_best 0 = .ok (.aload_n 0, 1) := by decide +kernel
theorem dX8_best_1 : decode cX8_best 1 = .ok (.iload_n 1, 1) := by decide +kernel
theorem dX8_best_2 : decode cX8_best 2 = .ok (.invokevirtual 219, 3) := by decide +kernel
theorem dX8_best_5 : decode cX8_best 5 = .ok (.ifCond .ne 6, 3) := by decide +kernel
theorem dX8_best_8 : decode cX8_best 8 = .ok (.ldc 223, 2) := by decide +kernel
theorem dX8_best_10 : decode cX8_best 10 = .ok (.ireturn, 1) := by decide +kernel
theorem dX8_best_11 : decode cX8_best 11 = .ok (.iload_n 2, 1) := by decide +kernel
theorem dX8_best_12 : decode cX8_best 12 = .ok (.i2l, 1) := by decide +kernel
theorem dX8_best_13 : decode cX8_best 13 = .ok (.lconst 0, 1) := by decide +kernel
theorem dX8_best_14 : decode cX8_best 14 = .ok (.lconst 1, 1) := by decide +kernel
theorem dX8_best_15 : decode cX8_best 15 = .ok (.invokestatic 112, 3) := by decide +kernel
theorem dX8_best_18 : decode cX8_best 18 = .ok (.ifCond .ne 6, 3) := by decide +kernel
theorem dX8_best_21 : decode cX8_best 21 = .ok (.ldc 133, 2) := by decide +kernel
theorem dX8_best_23 : decode cX8_best 23 = .ok (.ireturn, 1) := by decide +kernel
theorem dX8_best_24 : decode cX8_best 24 = .ok (.aload_n 0, 1) := by decide +kernel
theorem dX8_best_25 : decode cX8_best 25 = .ok (.iload_n 1, 1) := by decide +kernel
theorem dX8_best_26 : decode cX8_best 26 = .ok (.invokevirtual 224, 3) := by decide +kernel
theorem dX8_best_29 : decode cX8_best 29 = .ok (.ifCond .ne 7, 3) := by decide +kernel
theorem dX8_best_32 : decode cX8_best 32 = .ok (.ldc_w 268, 3) := by decide +kernel
theorem dX8_best_35 : decode cX8_best 35 = .ok (.ireturn, 1) := by decide +kernel
theorem dX8_best_36 : decode cX8_best 36 = .ok (.aload_n 0, 1) := by decide +kernel
theorem dX8_best_37 : decode cX8_best 37 = .ok (.iload_n 1, 1) := by decide +kernel
theorem dX8_best_38 : decode cX8_best 38 = .ok (.invokevirtual 301, 3) := by decide +kernel
theorem dX8_best_41 : decode cX8_best 41 = .ok (.istore_n 3, 1) := by decide +kernel
theorem dX8_best_42 : decode cX8_best 42 = .ok (.iload_n 2, 1) := by decide +kernel
theorem dX8_best_43 : decode cX8_best 43 = .ok (.ifCond .ne 7, 3) := by decide +kernel
theorem dX8_best_46 : decode cX8_best 46 = .ok (.iload_n 3, 1) := by decide +kernel
theorem dX8_best_47 : decode cX8_best 47 = .ok (.goto 7, 3) := by decide +kernel
theorem dX8_best_50 : decode cX8_best 50 = .ok (.aload_n 0, 1) := by decide +kernel
theorem dX8_best_51 : decode cX8_best 51 = .ok (.getfield 298, 3) := by decide +kernel
theorem dX8_best_54 : decode cX8_best 54 = .ok (.ireturn, 1) := by decide +kernel
theorem dX8_roundChanges_0 : decode cX8_roundChanges 0 = .ok (.iconst 0, 1) := by decide +kernel
theorem dX8_roundChanges_1 : decode cX8_roundChanges 1 = .ok (.istore_n 1, 1) := by decide +kernel
theorem dX8_roundChanges_2 : decode cX8_roundChanges 2 = .ok (.iconst 0, 1) := by decide +kernel
theorem dX8_roundChanges_3 : decode cX8_roundChanges 3 = .ok (.istore_n 2, 1) := by decide +kernel
theorem dX8_roundChanges_4 : decode cX8_roundChanges 4 = .ok (.iload_n 2, 1) := by decide +kernel
theorem dX8_roundChanges_5 : decode cX8_roundChanges 5 = .ok (.aload_n 0, 1) := by decide +kernel
theorem dX8_roundChanges_6 : decode cX8_roundChanges 6 = .ok (.getfield 109, 3) := by decide +kernel
theorem dX8_roundChanges_9 : decode cX8_roundChanges 9 = .ok (.if_icmp .ge 79, 3) := by decide +kernel
theorem dX8_roundChanges_12 : decode cX8_roundChanges 12 = .ok (.aload_n 0, 1) := by decide +kernel
theorem dX8_roundChanges_13 : decode cX8_roundChanges 13 = .ok (.iload_n 2, 1) := by decide +kernel
theorem dX8_roundChanges_14 : decode cX8_roundChanges 14 = .ok (.invokevirtual 224, 3) := by decide +kernel
theorem dX8_roundChanges_17 : decode cX8_roundChanges 17 = .ok (.ifCond .eq 65, 3) := by decide +kernel
theorem dX8_roundChanges_20 : decode cX8_roundChanges 20 = .ok (.aload_n 0, 1) := by decide +kernel
theorem dX8_roundChanges_21 : decode cX8_roundChanges 21 = .ok (.iload_n 2, 1) := by decide +kernel
theorem dX8_roundChanges_22 : decode cX8_roundChanges 22 = .ok (.invokevirtual 301, 3) := by decide +kernel
theorem dX8_roundChanges_25 : decode cX8_roundChanges 25 = .ok (.istore_n 3, 1) := by decide +kernel
theorem dX8_roundChanges_26 : decode cX8_roundChanges 26 = .ok (.iconst 0, 1) := by decide +kernel
theorem dX8_roundChanges_27 : decode cX8_roundChanges 27 = .ok (.istore 4, 2) := by decide +kernel
theorem dX8_roundChanges_29 : decode cX8_roundChanges 29 = .ok (.iload 4, 2) := by decide +kernel
theorem dX8_roundChanges_31 : decode cX8_roundChanges 31 = .ok (.aload_n 0, 1) := by decide +kernel
theorem dX8_roundChanges_32 : decode cX8_roundChanges 32 = .ok (.getfield 116, 3) := by decide +kernel
theorem dX8_roundChanges_35 : decode cX8_roundChanges 35 = .ok (.if_icmp .ge 41, 3) := by decide +kernel
theorem dX8_roundChanges_38 : decode cX8_roundChanges 38 = .ok (.iload_n 1, 1) := by decide +kernel
theorem dX8_roundChanges_39 : decode cX8_roundChanges 39 = .ok (.ifCond .ne 25, 3) := by decide +kernel
theorem dX8_roundChanges_42 : decode cX8_roundChanges 42 = .ok (.aload_n 0, 1) := by decide +kernel
theorem dX8_roundChanges_43 : decode cX8_roundChanges 43 = .ok (.getfield 19, 3) := by decide +kernel
theorem dX8_roundChanges_46 : decode cX8_roundChanges 46 = .ok (.iload 4, 2) := by decide +kernel
theorem dX8_roundChanges_48 : decode cX8_roundChanges 48 = .ok (.iaload, 1) := by decide +kernel
theorem dX8_roundChanges_49 : decode cX8_roundChanges 49 = .ok (.iload_n 2, 1) := by decide +kernel
theorem dX8_roundChanges_50 : decode cX8_roundChanges 50 = .ok (.if_icmp .ne 18, 3) := by decide +kernel
theorem dX8_roundChanges_53 : decode cX8_roundChanges 53 = .ok (.aload_n 0, 1) := by decide +kernel
theorem dX8_roundChanges_54 : decode cX8_roundChanges 54 = .ok (.getfield 31, 3) := by decide +kernel
theorem dX8_roundChanges_57 : decode cX8_roundChanges 57 = .ok (.iload 4, 2) := by decide +kernel
theorem dX8_roundChanges_59 : decode cX8_roundChanges 59 = .ok (.iaload, 1) := by decide +kernel
theorem dX8_roundChanges_60 : decode cX8_roundChanges 60 = .ok (.iload_n 3, 1) := by decide +kernel
theorem dX8_roundChanges_61 : decode cX8_roundChanges 61 = .ok (.if_icmp .eq 7, 3) := by decide +kernel
theorem dX8_roundChanges_64 : decode cX8_roundChanges 64 = .ok (.iconst 1, 1) := by decide +kernel
theorem dX8_roundChanges_65 : decode cX8_roundChanges 65 = .ok (.goto 4, 3) := by decide +kernel
theorem dX8_roundChanges_68 : decode cX8_roundChanges 68 = .ok (.iconst 0, 1) := by decide +kernel
theorem dX8_roundChanges_69 : decode cX8_roundChanges 69 = .ok (.istore_n 1, 1) := by decide +kernel
theorem dX8_roundChanges_70 : decode cX8_roundChanges 70 = .ok (.iinc 4 1, 3) := by decide +kernel
theorem dX8_roundChanges_73 : decode cX8_roundChanges 73 = .ok (.goto (-44), 3) := by decide +kernel
theorem dX8_roundChanges_76 : decode cX8_roundChanges 76 = .ok (.aload_n 0, 1) := by decide +kernel
theorem dX8_roundChanges_77 : decode cX8_roundChanges 77 = .ok (.iload_n 2, 1) := by decide +kernel
theorem dX8_roundChanges_78 : decode cX8_roundChanges 78 = .ok (.iload_n 3, 1) := by decide +kernel
theorem dX8_roundChanges_79 : decode cX8_roundChanges 79 = .ok (.invokevirtual 294, 3) := by decide +kernel
theorem dX8_roundChanges_82 : decode cX8_roundChanges 82 = .ok (.iinc 2 1, 3) := by decide +kernel
theorem dX8_roundChanges_85 : decode cX8_roundChanges 85 = .ok (.goto (-81), 3) := by decide +kernel
theorem dX8_roundChanges_88 : decode cX8_roundChanges 88 = .ok (.iload_n 1, 1) := by decide +kernel
theorem dX8_roundChanges_89 : decode cX8_roundChanges 89 = .ok (.ireturn, 1) := by decide +kernel
theorem dX8_leastOf_0 : decode cX8_leastOf 0 = .ok (.iconst 0, 1) := by decide +kernel
theorem dX8_leastOf_1 : decode cX8_leastOf 1 = .ok (.istore_n 2, 1) := by decide +kernel
theorem dX8_leastOf_2 : decode cX8_leastOf 2 = .ok (.aload_n 0, 1) := by decide +kernel
theorem dX8_leastOf_3 : decode cX8_leastOf 3 = .ok (.getfield 116, 3) := by decide +kernel
theorem dX8_leastOf_6 : decode cX8_leastOf 6 = .ok (.iconst 1, 1) := by decide +kernel
theorem dX8_leastOf_7 : decode cX8_leastOf 7 = .ok (.isub, 1) := by decide +kernel
theorem dX8_leastOf_8 : decode cX8_leastOf 8 = .ok (.istore_n 3, 1) := by decide +kernel
theorem dX8_leastOf_9 : decode cX8_leastOf 9 = .ok (.iload_n 3, 1) := by decide +kernel
theorem dX8_leastOf_10 : decode cX8_leastOf 10 = .ok (.ifCond .lt 30, 3) := by decide +kernel
theorem dX8_leastOf_13 : decode cX8_leastOf 13 = .ok (.aload_n 0, 1) := by decide +kernel
theorem dX8_leastOf_14 : decode cX8_leastOf 14 = .ok (.getfield 19, 3) := by decide +kernel
theorem dX8_leastOf_17 : decode cX8_leastOf 17 = .ok (.iload_n 3, 1) := by decide +kernel
theorem dX8_leastOf_18 : decode cX8_leastOf 18 = .ok (.iaload, 1) := by decide +kernel
theorem dX8_leastOf_19 : decode cX8_leastOf 19 = .ok (.iload_n 1, 1) := by decide +kernel
theorem dX8_leastOf_20 : decode cX8_leastOf 20 = .ok (.if_icmp .ne 12, 3) := by decide +kernel
theorem dX8_leastOf_23 : decode cX8_leastOf 23 = .ok (.aload_n 0, 1) := by decide +kernel
theorem dX8_leastOf_24 : decode cX8_leastOf 24 = .ok (.getfield 31, 3) := by decide +kernel
theorem dX8_leastOf_27 : decode cX8_leastOf 27 = .ok (.iload_n 3, 1) := by decide +kernel
theorem dX8_leastOf_28 : decode cX8_leastOf 28 = .ok (.iaload, 1) := by decide +kernel
theorem dX8_leastOf_29 : decode cX8_leastOf 29 = .ok (.goto 4, 3) := by decide +kernel
theorem dX8_leastOf_32 : decode cX8_leastOf 32 = .ok (.iload_n 2, 1) := by decide +kernel
theorem dX8_leastOf_33 : decode cX8_leastOf 33 = .ok (.istore_n 2, 1) := by decide +kernel
theorem dX8_leastOf_34 : decode cX8_leastOf 34 = .ok (.iinc 3 (-1), 3) := by decide +kernel
theorem dX8_leastOf_37 : decode cX8_leastOf 37 = .ok (.goto (-28), 3) := by decide +kernel
theorem dX8_leastOf_40 : decode cX8_leastOf 40 = .ok (.iload_n 2, 1) := by decide +kernel
theorem dX8_leastOf_41 : decode cX8_leastOf 41 = .ok (.ireturn, 1) := by decide +kernel
theorem dX8_rests_0 : decode cX8_rests 0 = .ok (.iload_n 1, 1) := by decide +kernel
theorem dX8_rests_1 : decode cX8_rests 1 = .ok (.iconst (-1), 1) := by decide +kernel
theorem dX8_rests_2 : decode cX8_rests 2 = .ok (.if_icmp .eq 14, 3) := by decide +kernel
theorem dX8_rests_5 : decode cX8_rests 5 = .ok (.aload_n 0, 1) := by decide +kernel
theorem dX8_rests_6 : decode cX8_rests 6 = .ok (.iload_n 1, 1) := by decide +kernel
theorem dX8_rests_7 : decode cX8_rests 7 = .ok (.invokevirtual 219, 3) := by decide +kernel
theorem dX8_rests_10 : decode cX8_rests 10 = .ok (.ifCond .ne 6, 3) := by decide +kernel
theorem dX8_rests_13 : decode cX8_rests 13 = .ok (.ldc 223, 2) := by decide +kernel
theorem dX8_rests_15 : decode cX8_rests 15 = .ok (.ireturn, 1) := by decide +kernel
theorem dX8_rests_16 : decode cX8_rests 16 = .ok (.iconst 0, 1) := by decide +kernel
theorem dX8_rests_17 : decode cX8_rests 17 = .ok (.istore_n 2, 1) := by decide +kernel
theorem dX8_rests_18 : decode cX8_rests 18 = .ok (.iload_n 2, 1) := by decide +kernel
theorem dX8_rests_19 : decode cX8_rests 19 = .ok (.aload_n 0, 1) := by decide +kernel
theorem dX8_rests_20 : decode cX8_rests 20 = .ok (.getfield 116, 3) := by decide +kernel
theorem dX8_rests_23 : decode cX8_rests 23 = .ok (.if_icmp .ge 21, 3) := by decide +kernel
theorem dX8_rests_26 : decode cX8_rests 26 = .ok (.aload_n 0, 1) := by decide +kernel
theorem dX8_rests_27 : decode cX8_rests 27 = .ok (.getfield 89, 3) := by decide +kernel
theorem dX8_rests_30 : decode cX8_rests 30 = .ok (.iload_n 2, 1) := by decide +kernel
theorem dX8_rests_31 : decode cX8_rests 31 = .ok (.aload_n 0, 1) := by decide +kernel
theorem dX8_rests_32 : decode cX8_rests 32 = .ok (.getfield 31, 3) := by decide +kernel
theorem dX8_rests_35 : decode cX8_rests 35 = .ok (.iload_n 2, 1) := by decide +kernel
theorem dX8_rests_36 : decode cX8_rests 36 = .ok (.iaload, 1) := by decide +kernel
theorem dX8_rests_37 : decode cX8_rests 37 = .ok (.iastore, 1) := by decide +kernel
theorem dX8_rests_38 : decode cX8_rests 38 = .ok (.iinc 2 1, 3) := by decide +kernel
theorem dX8_rests_41 : decode cX8_rests 41 = .ok (.goto (-23), 3) := by decide +kernel
theorem dX8_rests_44 : decode cX8_rests 44 = .ok (.iconst 0, 1) := by decide +kernel
theorem dX8_rests_45 : decode cX8_rests 45 = .ok (.istore_n 2, 1) := by decide +kernel
theorem dX8_rests_46 : decode cX8_rests 46 = .ok (.iload_n 2, 1) := by decide +kernel
theorem dX8_rests_47 : decode cX8_rests 47 = .ok (.bipush 20, 2) := by decide +kernel
theorem dX8_rests_49 : decode cX8_rests 49 = .ok (.if_icmp .ge 16, 3) := by decide +kernel
theorem dX8_rests_52 : decode cX8_rests 52 = .ok (.aload_n 0, 1) := by decide +kernel
theorem dX8_rests_53 : decode cX8_rests 53 = .ok (.invokevirtual 304, 3) := by decide +kernel
theorem dX8_rests_56 : decode cX8_rests 56 = .ok (.ifCond .eq 9, 3) := by decide +kernel
theorem dX8_rests_59 : decode cX8_rests 59 = .ok (.iinc 2 1, 3) := by decide +kernel
theorem dX8_rests_62 : decode cX8_rests 62 = .ok (.goto (-16), 3) := by decide +kernel
theorem dX8_rests_65 : decode cX8_rests 65 = .ok (.iload_n 1, 1) := by decide +kernel
theorem dX8_rests_66 : decode cX8_rests 66 = .ok (.iconst (-1), 1) := by decide +kernel
theorem dX8_rests_67 : decode cX8_rests 67 = .ok (.if_icmp .ne 7, 3) := by decide +kernel
theorem dX8_rests_70 : decode cX8_rests 70 = .ok (.iload_n 2, 1) := by decide +kernel
theorem dX8_rests_71 : decode cX8_rests 71 = .ok (.goto 8, 3) := by decide +kernel
theorem dX8_rests_74 : decode cX8_rests 74 = .ok (.aload_n 0, 1) := by decide +kernel
theorem dX8_rests_75 : decode cX8_rests 75 = .ok (.iload_n 1, 1) := by decide +kernel
theorem dX8_rests_76 : decode cX8_rests 76 = .ok (.invokevirtual 308, 3) := by decide +kernel
theorem dX8_rests_79 : decode cX8_rests 79 = .ok (.istore_n 3, 1) := by decide +kernel
theorem dX8_rests_80 : decode cX8_rests 80 = .ok (.iconst 0, 1) := by decide +kernel
theorem dX8_rests_81 : decode cX8_rests 81 = .ok (.istore 4, 2) := by decide +kernel
theorem dX8_rests_83 : decode cX8_rests 83 = .ok (.iload 4, 2) := by decide +kernel
theorem dX8_rests_85 : decode cX8_rests 85 = .ok (.aload_n 0, 1) := by decide +kernel
theorem dX8_rests_86 : decode cX8_rests 86 = .ok (.getfield 116, 3) := by decide +kernel
theorem dX8_rests_89 : decode cX8_rests 89 = .ok (.if_icmp .ge 23, 3) := by decide +kernel
theorem dX8_rests_92 : decode cX8_rests 92 = .ok (.aload_n 0, 1) := by decide +kernel
theorem dX8_rests_93 : decode cX8_rests 93 = .ok (.getfield 31, 3) := by decide +kernel
theorem dX8_rests_96 : decode cX8_rests 96 = .ok (.iload 4, 2) := by decide +kernel
theorem dX8_rests_98 : decode cX8_rests 98 = .ok (.aload_n 0, 1) := by decide +kernel
theorem dX8_rests_99 : decode cX8_rests 99 = .ok (.getfield 89, 3) := by decide +kernel
theorem dX8_rests_102 : decode cX8_rests 102 = .ok (.iload 4, 2) := by decide +kernel
theorem dX8_rests_104 : decode cX8_rests 104 = .ok (.iaload, 1) := by decide +kernel
theorem dX8_rests_105 : decode cX8_rests 105 = .ok (.iastore, 1) := by decide +kernel
theorem dX8_rests_106 : decode cX8_rests 106 = .ok (.iinc 4 1, 3) := by decide +kernel
theorem dX8_rests_109 : decode cX8_rests 109 = .ok (.goto (-26), 3) := by decide +kernel
theorem dX8_rests_112 : decode cX8_rests 112 = .ok (.iload_n 2, 1) := by decide +kernel
theorem dX8_rests_113 : decode cX8_rests 113 = .ok (.bipush 20, 2) := by decide +kernel
theorem dX8_rests_115 : decode cX8_rests 115 = .ok (.if_icmp .ne 7, 3) := by decide +kernel
theorem dX8_rests_118 : decode cX8_rests 118 = .ok (.iconst (-1), 1) := by decide +kernel
theorem dX8_rests_119 : decode cX8_rests 119 = .ok (.goto 4, 3) := by decide +kernel
theorem dX8_rests_122 : decode cX8_rests 122 = .ok (.iload_n 3, 1) := by decide +kernel
theorem dX8_rests_123 : decode cX8_rests 123 = .ok (.ireturn, 1) := by decide +kernel
theorem dX8_loud_0 : decode cX8_loud 0 = .ok (.aload_n 0, 1) := by decide +kernel
theorem dX8_loud_1 : decode cX8_loud 1 = .ok (.iload_n 1, 1) := by decide +kernel
theorem dX8_loud_2 : decode cX8_loud 2 = .ok (.invokevirtual 219, 3) := by decide +kernel
theorem dX8_loud_5 : decode cX8_loud 5 = .ok (.ifCond .ne 6, 3) := by decide +kernel
theorem dX8_loud_8 : decode cX8_loud 8 = .ok (.ldc 223, 2) := by decide +kernel
theorem dX8_loud_10 : decode cX8_loud 10 = .ok (.ireturn, 1) := by decide +kernel
theorem dX8_loud_11 : decode cX8_loud 11 = .ok (.iload_n 2, 1) := by decide +kernel
theorem dX8_loud_12 : decode cX8_loud 12 = .ok (.i2l, 1) := by decide +kernel
theorem dX8_loud_13 : decode cX8_loud 13 = .ok (.lconst 0, 1) := by decide +kernel
theorem dX8_loud_14 : decode cX8_loud 14 = .ok (.ldc2_w 251, 3) := by decide +kernel
theorem dX8_loud_17 : decode cX8_loud 17 = .ok (.invokestatic 112, 3) := by decide +kernel
theorem dX8_loud_20 : decode cX8_loud 20 = .ok (.ifCond .ne 6, 3) := by decide +kernel
theorem dX8_loud_23 : decode cX8_loud 23 = .ok (.ldc 133, 2) := by decide +kernel
theorem dX8_loud_25 : decode cX8_loud 25 = .ok (.ireturn, 1) := by decide +kernel
theorem dX8_loud_26 : decode cX8_loud 26 = .ok (.aload_n 0, 1) := by decide +kernel
theorem dX8_loud_27 : decode cX8_loud 27 = .ok (.getfield 41, 3) := by decide +kernel
theorem dX8_loud_30 : decode cX8_loud 30 = .ok (.istore_n 3, 1) := by decide +kernel
theorem dX8_loud_31 : decode cX8_loud 31 = .ok (.aload_n 0, 1) := by decide +kernel
theorem dX8_loud_32 : decode cX8_loud 32 = .ok (.getfield 34, 3) := by decide +kernel
theorem dX8_loud_35 : decode cX8_loud 35 = .ok (.istore 4, 2) := by decide +kernel
theorem dX8_loud_37 : decode cX8_loud 37 = .ok (.aload_n 0, 1) := by decide +kernel
theorem dX8_loud_38 : decode cX8_loud 38 = .ok (.getfield 38, 3) := by decide +kernel
theorem dX8_loud_41 : decode cX8_loud 41 = .ok (.istore 5, 2) := by decide +kernel
theorem dX8_loud_43 : decode cX8_loud 43 = .ok (.iconst (-1), 1) := by decide +kernel
theorem dX8_loud_44 : decode cX8_loud 44 = .ok (.istore 6, 2) := by decide +kernel
theorem dX8_loud_46 : decode cX8_loud 46 = .ok (.iconst 0, 1) := by decide +kernel
theorem dX8_loud_47 : decode cX8_loud 47 = .ok (.istore 7, 2) := by decide +kernel
theorem dX8_loud_49 : decode cX8_loud 49 = .ok (.bipush 60, 2) := by decide +kernel
theorem dX8_loud_51 : decode cX8_loud 51 = .ok (.istore 8, 2) := by decide +kernel
theorem dX8_loud_53 : decode cX8_loud 53 = .ok (.iload 8, 2) := by decide +kernel
theorem dX8_loud_55 : decode cX8_loud 55 = .ok (.sipush 600, 3) := by decide +kernel
theorem dX8_loud_58 : decode cX8_loud 58 = .ok (.if_icmp .gt 96, 3) := by decide +kernel
theorem dX8_loud_61 : decode cX8_loud 61 = .ok (.iconst 0, 1) := by decide +kernel
theorem dX8_loud_62 : decode cX8_loud 62 = .ok (.istore 9, 2) := by decide +kernel
theorem dX8_loud_64 : decode cX8_loud 64 = .ok (.iload 9, 2) := by decide +kernel
theorem dX8_loud_66 : decode cX8_loud 66 = .ok (.bipush 10, 2) := by decide +kernel
theorem dX8_loud_68 : decode cX8_loud 68 = .ok (.if_icmp .ge 80, 3) := by decide +kernel
theorem dX8_loud_71 : decode cX8_loud 71 = .ok (.aload_n 0, 1) := by decide +kernel
theorem dX8_loud_72 : decode cX8_loud 72 = .ok (.iload_n 1, 1) := by decide +kernel
theorem dX8_loud_73 : decode cX8_loud 73 = .ok (.iload 8, 2) := by decide +kernel
theorem dX8_loud_75 : decode cX8_loud 75 = .ok (.iload 9, 2) := by decide +kernel
theorem dX8_loud_77 : decode cX8_loud 77 = .ok (.invokevirtual 247, 3) := by decide +kernel
theorem dX8_loud_80 : decode cX8_loud 80 = .ok (.aload_n 0, 1) := by decide +kernel
theorem dX8_loud_81 : decode cX8_loud 81 = .ok (.iconst 1, 1) := by decide +kernel
theorem dX8_loud_82 : decode cX8_loud 82 = .ok (.iload_n 1, 1) := by decide +kernel
theorem dX8_loud_83 : decode cX8_loud 83 = .ok (.ishl, 1) := by decide +kernel
theorem dX8_loud_84 : decode cX8_loud 84 = .ok (.invokevirtual 291, 3) := by decide +kernel
theorem dX8_loud_87 : decode cX8_loud 87 = .ok (.istore 10, 2) := by decide +kernel
theorem dX8_loud_89 : decode cX8_loud 89 = .ok (.iload 6, 2) := by decide +kernel
theorem dX8_loud_91 : decode cX8_loud 91 = .ok (.ifCond .lt 10, 3) := by decide +kernel
theorem dX8_loud_94 : decode cX8_loud 94 = .ok (.iload 10, 2) := by decide +kernel
theorem dX8_loud_96 : decode cX8_loud 96 = .ok (.iload 7, 2) := by decide +kernel
theorem dX8_loud_98 : decode cX8_loud 98 = .ok (.if_icmp .le 7, 3) := by decide +kernel
theorem dX8_loud_101 : decode cX8_loud 101 = .ok (.iconst 1, 1) := by decide +kernel
theorem dX8_loud_102 : decode cX8_loud 102 = .ok (.goto 4, 3) := by decide +kernel
theorem dX8_loud_105 : decode cX8_loud 105 = .ok (.iconst 0, 1) := by decide +kernel
theorem dX8_loud_106 : decode cX8_loud 106 = .ok (.istore 11, 2) := by decide +kernel
theorem dX8_loud_108 : decode cX8_loud 108 = .ok (.iload 11, 2) := by decide +kernel
theorem dX8_loud_110 : decode cX8_loud 110 = .ok (.ifCond .eq 14, 3) := by decide +kernel
theorem dX8_loud_113 : decode cX8_loud 113 = .ok (.bipush 10, 2) := by decide +kernel
theorem dX8_loud_115 : decode cX8_loud 115 = .ok (.iload 8, 2) := by decide +kernel
theorem dX8_loud_117 : decode cX8_loud 117 = .ok (.imul, 1) := by decide +kernel
theorem dX8_loud_118 : decode cX8_loud 118 = .ok (.iload 9, 2) := by decide +kernel
theorem dX8_loud_120 : decode cX8_loud 120 = .ok (.iadd, 1) := by decide +kernel
theorem dX8_loud_121 : decode cX8_loud 121 = .ok (.goto 5, 3) := by decide +kernel
theorem dX8_loud_124 : decode cX8_loud 124 = .ok (.iload 6, 2) := by decide +kernel
theorem dX8_loud_126 : decode cX8_loud 126 = .ok (.istore 6, 2) := by decide +kernel
theorem dX8_loud_128 : decode cX8_loud 128 = .ok (.iload 11, 2) := by decide +kernel
theorem dX8_loud_130 : decode cX8_loud 130 = .ok (.ifCond .eq 8, 3) := by decide +kernel
theorem dX8_loud_133 : decode cX8_loud 133 = .ok (.iload 10, 2) := by decide +kernel
theorem dX8_loud_135 : decode cX8_loud 135 = .ok (.goto 5, 3) := by decide +kernel
theorem dX8_loud_138 : decode cX8_loud 138 = .ok (.iload 7, 2) := by decide +kernel
theorem dX8_loud_140 : decode cX8_loud 140 = .ok (.istore 7, 2) := by decide +kernel
theorem dX8_loud_142 : decode cX8_loud 142 = .ok (.iinc 9 1, 3) := by decide +kernel
theorem dX8_loud_145 : decode cX8_loud 145 = .ok (.goto (-81), 3) := by decide +kernel
theorem dX8_loud_148 : decode cX8_loud 148 = .ok (.iinc 8 10, 3) := by decide +kernel
theorem dX8_loud_151 : decode cX8_loud 151 = .ok (.goto (-98), 3) := by decide +kernel
theorem dX8_loud_154 : decode cX8_loud 154 = .ok (.aload_n 0, 1) := by decide +kernel
theorem dX8_loud_155 : decode cX8_loud 155 = .ok (.iload_n 3, 1) := by decide +kernel
theorem dX8_loud_156 : decode cX8_loud 156 = .ok (.iload 4, 2) := by decide +kernel
theorem dX8_loud_158 : decode cX8_loud 158 = .ok (.iload 5, 2) := by decide +kernel
theorem dX8_loud_160 : decode cX8_loud 160 = .ok (.invokevirtual 247, 3) := by decide +kernel
theorem dX8_loud_163 : decode cX8_loud 163 = .ok (.iload_n 2, 1) := by decide +kernel
theorem dX8_loud_164 : decode cX8_loud 164 = .ok (.ifCond .ne 11, 3) := by decide +kernel
theorem dX8_loud_167 : decode cX8_loud 167 = .ok (.iload 6, 2) := by decide +kernel
theorem dX8_loud_169 : decode cX8_loud 169 = .ok (.bipush 10, 2) := by decide +kernel
theorem dX8_loud_171 : decode cX8_loud 171 = .ok (.idiv, 1) := by decide +kernel
theorem dX8_loud_172 : decode cX8_loud 172 = .ok (.goto 18, 3) := by decide +kernel
theorem dX8_loud_175 : decode cX8_loud 175 = .ok (.iload_n 2, 1) := by decide +kernel
theorem dX8_loud_176 : decode cX8_loud 176 = .ok (.iconst 1, 1) := by decide +kernel
theorem dX8_loud_177 : decode cX8_loud 177 = .ok (.if_icmp .ne 11, 3) := by decide +kernel
theorem dX8_loud_180 : decode cX8_loud 180 = .ok (.iload 6, 2) := by decide +kernel
theorem dX8_loud_182 : decode cX8_loud 182 = .ok (.bipush 10, 2) := by decide +kernel
theorem dX8_loud_184 : decode cX8_loud 184 = .ok (.irem, 1) := by decide +kernel
theorem dX8_loud_185 : decode cX8_loud 185 = .ok (.goto 5, 3) := by decide +kernel
theorem dX8_loud_188 : decode cX8_loud 188 = .ok (.iload 7, 2) := by decide +kernel
theorem dX8_loud_190 : decode cX8_loud 190 = .ok (.ireturn, 1) := by decide +kernel
theorem dX8_startWork_0 : decode cX8_startWork 0 = .ok (.iconst 0, 1) := by decide +kernel
theorem dX8_startWork_1 : decode cX8_startWork 1 = .ok (.istore_n 2, 1) := by decide +kernel
theorem dX8_startWork_2 : decode cX8_startWork 2 = .ok (.iload_n 2, 1) := by decide +kernel
theorem dX8_startWork_3 : decode cX8_startWork 3 = .ok (.bipush 8, 2) := by decide +kernel
theorem dX8_startWork_5 : decode cX8_startWork 5 = .ok (.if_icmp .ge 32, 3) := by decide +kernel
theorem dX8_startWork_8 : decode cX8_startWork 8 = .ok (.aload_n 0, 1) := by decide +kernel
theorem dX8_startWork_9 : decode cX8_startWork 9 = .ok (.getfield 92, 3) := by decide +kernel
theorem dX8_startWork_12 : decode cX8_startWork 12 = .ok (.iload_n 2, 1) := by decide +kernel
theorem dX8_startWork_13 : decode cX8_startWork 13 = .ok (.iload_n 2, 1) := by decide +kernel
theorem dX8_startWork_14 : decode cX8_startWork 14 = .ok (.aload_n 0, 1) := by decide +kernel
theorem dX8_startWork_15 : decode cX8_startWork 15 = .ok (.getfield 44, 3) := by decide +kernel
theorem dX8_startWork_18 : decode cX8_startWork 18 = .ok (.iload_n 1, 1) := by decide +kernel
theorem dX8_startWork_19 : decode cX8_startWork 19 = .ok (.iaload, 1) := by decide +kernel
theorem dX8_startWork_20 : decode cX8_startWork 20 = .ok (.if_icmp .ne 9, 3) := by decide +kernel
theorem dX8_startWork_23 : decode cX8_startWork 23 = .ok (.ldc2_w 278, 3) := by decide +kernel
theorem dX8_startWork_26 : decode cX8_startWork 26 = .ok (.goto 4, 3) := by decide +kernel
theorem dX8_startWork_29 : decode cX8_startWork 29 = .ok (.lconst 0, 1) := by decide +kernel
theorem dX8_startWork_30 : decode cX8_startWork 30 = .ok (.lastore, 1) := by decide +kernel
theorem dX8_startWork_31 : decode cX8_startWork 31 = .ok (.iinc 2 1, 3) := by decide +kernel
theorem dX8_startWork_34 : decode cX8_startWork 34 = .ok (.goto (-32), 3) := by decide +kernel
theorem dX8_startWork_37 : decode cX8_startWork 37 = .ok (.return_, 1) := by decide +kernel
theorem dX8_workDay_0 : decode cX8_workDay 0 = .ok (.lconst 0, 1) := by decide +kernel
theorem dX8_workDay_1 : decode cX8_workDay 1 = .ok (.lstore 4, 2) := by decide +kernel
theorem dX8_workDay_3 : decode cX8_workDay 3 = .ok (.aload_n 0, 1) := by decide +kernel
theorem dX8_workDay_4 : decode cX8_workDay 4 = .ok (.getfield 7, 3) := by decide +kernel
theorem dX8_workDay_7 : decode cX8_workDay 7 = .ok (.iload_n 1, 1) := by decide +kernel
theorem dX8_workDay_8 : decode cX8_workDay 8 = .ok (.iaload, 1) := by decide +kernel
theorem dX8_workDay_9 : decode cX8_workDay 9 = .ok (.iconst 1, 1) := by decide +kernel
theorem dX8_workDay_10 : decode cX8_workDay 10 = .ok (.isub, 1) := by decide +kernel
theorem dX8_workDay_11 : decode cX8_workDay 11 = .ok (.istore 6, 2) := by decide +kernel
theorem dX8_workDay_13 : decode cX8_workDay 13 = .ok (.iload 6, 2) := by decide +kernel
theorem dX8_workDay_15 : decode cX8_workDay 15 = .ok (.ifCond .lt 78, 3) := by decide +kernel
theorem dX8_workDay_18 : decode cX8_workDay 18 = .ok (.aload_n 0, 1) := by decide +kernel
theorem dX8_workDay_19 : decode cX8_workDay 19 = .ok (.getfield 92, 3) := by decide +kernel
theorem dX8_workDay_22 : decode cX8_workDay 22 = .ok (.iload 6, 2) := by decide +kernel
theorem dX8_workDay_24 : decode cX8_workDay 24 = .ok (.laload, 1) := by decide +kernel
theorem dX8_workDay_25 : decode cX8_workDay 25 = .ok (.lload_n 2, 1) := by decide +kernel
theorem dX8_workDay_26 : decode cX8_workDay 26 = .ok (.lmul, 1) := by decide +kernel
theorem dX8_workDay_27 : decode cX8_workDay 27 = .ok (.ldc2_w 278, 3) := by decide +kernel
theorem dX8_workDay_30 : decode cX8_workDay 30 = .ok (.ldiv, 1) := by decide +kernel
theorem dX8_workDay_31 : decode cX8_workDay 31 = .ok (.lstore 7, 2) := by decide +kernel
theorem dX8_workDay_33 : decode cX8_workDay 33 = .ok (.lload 4, 2) := by decide +kernel
theorem dX8_workDay_35 : decode cX8_workDay 35 = .ok (.aload_n 0, 1) := by decide +kernel
theorem dX8_workDay_36 : decode cX8_workDay 36 = .ok (.getfield 92, 3) := by decide +kernel
theorem dX8_workDay_39 : decode cX8_workDay 39 = .ok (.iload 6, 2) := by decide +kernel
theorem dX8_workDay_41 : decode cX8_workDay 41 = .ok (.laload, 1) := by decide +kernel
theorem dX8_workDay_42 : decode cX8_workDay 42 = .ok (.lload 7, 2) := by decide +kernel
theorem dX8_workDay_44 : decode cX8_workDay 44 = .ok (.lsub, 1) := by decide +kernel
theorem dX8_workDay_45 : decode cX8_workDay 45 = .ok (.ladd, 1) := by decide +kernel
theorem dX8_workDay_46 : decode cX8_workDay 46 = .ok (.lstore 4, 2) := by decide +kernel
theorem dX8_workDay_48 : decode cX8_workDay 48 = .ok (.aload_n 0, 1) := by decide +kernel
theorem dX8_workDay_49 : decode cX8_workDay 49 = .ok (.getfield 92, 3) := by decide +kernel
theorem dX8_workDay_52 : decode cX8_workDay 52 = .ok (.iload 6, 2) := by decide +kernel
theorem dX8_workDay_54 : decode cX8_workDay 54 = .ok (.iconst 1, 1) := by decide +kernel
theorem dX8_workDay_55 : decode cX8_workDay 55 = .ok (.iadd, 1) := by decide +kernel
theorem dX8_workDay_56 : decode cX8_workDay 56 = .ok (.iload 6, 2) := by decide +kernel
theorem dX8_workDay_58 : decode cX8_workDay 58 = .ok (.iconst 1, 1) := by decide +kernel
theorem dX8_workDay_59 : decode cX8_workDay 59 = .ok (.iadd, 1) := by decide +kernel
theorem dX8_workDay_60 : decode cX8_workDay 60 = .ok (.aload_n 0, 1) := by decide +kernel
theorem dX8_workDay_61 : decode cX8_workDay 61 = .ok (.getfield 7, 3) := by decide +kernel
theorem dX8_workDay_64 : decode cX8_workDay 64 = .ok (.iload_n 1, 1) := by decide +kernel
theorem dX8_workDay_65 : decode cX8_workDay 65 = .ok (.iaload, 1) := by decide +kernel
theorem dX8_workDay_66 : decode cX8_workDay 66 = .ok (.if_icmp .ne 18, 3) := by decide +kernel
theorem dX8_workDay_69 : decode cX8_workDay 69 = .ok (.aload_n 0, 1) := by decide +kernel
theorem dX8_workDay_70 : decode cX8_workDay 70 = .ok (.getfield 92, 3) := by decide +kernel
theorem dX8_workDay_73 : decode cX8_workDay 73 = .ok (.iload 6, 2) := by decide +kernel
theorem dX8_workDay_75 : decode cX8_workDay 75 = .ok (.iconst 1, 1) := by decide +kernel
theorem dX8_workDay_76 : decode cX8_workDay 76 = .ok (.iadd, 1) := by decide +kernel
theorem dX8_workDay_77 : decode cX8_workDay 77 = .ok (.laload, 1) := by decide +kernel
theorem dX8_workDay_78 : decode cX8_workDay 78 = .ok (.lload 7, 2) := by decide +kernel
theorem dX8_workDay_80 : decode cX8_workDay 80 = .ok (.ladd, 1) := by decide +kernel
theorem dX8_workDay_81 : decode cX8_workDay 81 = .ok (.goto 5, 3) := by decide +kernel
theorem dX8_workDay_84 : decode cX8_workDay 84 = .ok (.lload 7, 2) := by decide +kernel
theorem dX8_workDay_86 : decode cX8_workDay 86 = .ok (.lastore, 1) := by decide +kernel
theorem dX8_workDay_87 : decode cX8_workDay 87 = .ok (.iinc 6 (-1), 3) := by decide +kernel
theorem dX8_workDay_90 : decode cX8_workDay 90 = .ok (.goto (-77), 3) := by decide +kernel
theorem dX8_workDay_93 : decode cX8_workDay 93 = .ok (.aload_n 0, 1) := by decide +kernel
theorem dX8_workDay_94 : decode cX8_workDay 94 = .ok (.getfield 92, 3) := by decide +kernel
theorem dX8_workDay_97 : decode cX8_workDay 97 = .ok (.iconst 0, 1) := by decide +kernel
theorem dX8_workDay_98 : decode cX8_workDay 98 = .ok (.lload 4, 2) := by decide +kernel
theorem dX8_workDay_100 : decode cX8_workDay 100 = .ok (.lastore, 1) := by decide +kernel
theorem dX8_workDay_101 : decode cX8_workDay 101 = .ok (.return_, 1) := by decide +kernel
theorem dX8_work_0 : decode cX8_work 0 = .ok (.aload_n 0, 1) := by decide +kernel
theorem dX8_work_1 : decode cX8_work 1 = .ok (.iload_n 1, 1) := by decide +kernel
theorem dX8_work_2 : decode cX8_work 2 = .ok (.invokevirtual 219, 3) := by decide +kernel
theorem dX8_work_5 : decode cX8_work 5 = .ok (.ifCond .ne 6, 3) := by decide +kernel
theorem dX8_work_8 : decode cX8_work 8 = .ok (.ldc 223, 2) := by decide +kernel
theorem dX8_work_10 : decode cX8_work 10 = .ok (.ireturn, 1) := by decide +kernel
theorem dX8_work_11 : decode cX8_work 11 = .ok (.iload_n 2, 1) := by decide +kernel
theorem dX8_work_12 : decode cX8_work 12 = .ok (.i2l, 1) := by decide +kernel
theorem dX8_work_13 : decode cX8_work 13 = .ok (.lconst 1, 1) := by decide +kernel
theorem dX8_work_14 : decode cX8_work 14 = .ok (.ldc2_w 311, 3) := by decide +kernel
theorem dX8_work_17 : decode cX8_work 17 = .ok (.invokestatic 112, 3) := by decide +kernel
theorem dX8_work_20 : decode cX8_work 20 = .ok (.ifCond .ne 6, 3) := by decide +kernel
theorem dX8_work_23 : decode cX8_work 23 = .ok (.ldc 133, 2) := by decide +kernel
theorem dX8_work_25 : decode cX8_work 25 = .ok (.ireturn, 1) := by decide +kernel
theorem dX8_work_26 : decode cX8_work 26 = .ok (.aload_n 0, 1) := by decide +kernel
theorem dX8_work_27 : decode cX8_work 27 = .ok (.iconst 1, 1) := by decide +kernel
theorem dX8_work_28 : decode cX8_work 28 = .ok (.iload_n 1, 1) := by decide +kernel
theorem dX8_work_29 : decode cX8_work 29 = .ok (.ishl, 1) := by decide +kernel
theorem dX8_work_30 : decode cX8_work 30 = .ok (.invokevirtual 291, 3) := by decide +kernel
theorem dX8_work_33 : decode cX8_work 33 = .ok (.i2l, 1) := by decide +kernel
theorem dX8_work_34 : decode cX8_work 34 = .ok (.lstore_n 3, 1) := by decide +kernel
theorem dX8_work_35 : decode cX8_work 35 = .ok (.aload_n 0, 1) := by decide +kernel
theorem dX8_work_36 : decode cX8_work 36 = .ok (.iload_n 1, 1) := by decide +kernel
theorem dX8_work_37 : decode cX8_work 37 = .ok (.invokevirtual 313, 3) := by decide +kernel
theorem dX8_work_40 : decode cX8_work 40 = .ok (.iconst 0, 1) := by decide +kernel
theorem dX8_work_41 : decode cX8_work 41 = .ok (.istore 5, 2) := by decide +kernel
theorem dX8_work_43 : decode cX8_work 43 = .ok (.iload 5, 2) := by decide +kernel
theorem dX8_work_45 : decode cX8_work 45 = .ok (.iload_n 2, 1) := by decide +kernel
theorem dX8_work_46 : decode cX8_work 46 = .ok (.if_icmp .ge 15, 3) := by decide +kernel
theorem dX8_work_49 : decode cX8_work 49 = .ok (.aload_n 0, 1) := by decide +kernel
theorem dX8_work_50 : decode cX8_work 50 = .ok (.iload_n 1, 1) := by decide +kernel
theorem dX8_work_51 : decode cX8_work 51 = .ok (.lload_n 3, 1) := by decide +kernel
theorem dX8_work_52 : decode cX8_work 52 = .ok (.invokevirtual 317, 3) := by decide +kernel
theorem dX8_work_55 : decode cX8_work 55 = .ok (.iinc 5 1, 3) := by decide +kernel
theorem dX8_work_58 : decode cX8_work 58 = .ok (.goto (-15), 3) := by decide +kernel
theorem dX8_work_61 : decode cX8_work 61 = .ok (.aload_n 0, 1) := by decide +kernel
theorem dX8_work_62 : decode cX8_work 62 = .ok (.getfield 92, 3) := by decide +kernel
theorem dX8_work_65 : decode cX8_work 65 = .ok (.aload_n 0, 1) := by decide +kernel
theorem dX8_work_66 : decode cX8_work 66 = .ok (.getfield 7, 3) := by decide +kernel
theorem dX8_work_69 : decode cX8_work 69 = .ok (.iload_n 1, 1) := by decide +kernel
theorem dX8_work_70 : decode cX8_work 70 = .ok (.iaload, 1) := by decide +kernel
theorem dX8_work_71 : decode cX8_work 71 = .ok (.laload, 1) := by decide +kernel
theorem dX8_work_72 : decode cX8_work 72 = .ok (.l2i, 1) := by decide +kernel
theorem dX8_work_73 : decode cX8_work 73 = .ok (.ireturn, 1) := by decide +kernel
theorem dX8_likely_0 : decode cX8_likely 0 = .ok (.aload_n 0, 1) := by decide +kernel
theorem dX8_likely_1 : decode cX8_likely 1 = .ok (.iload_n 1, 1) := by decide +kernel
theorem dX8_likely_2 : decode cX8_likely 2 = .ok (.invokevirtual 219, 3) := by decide +kernel
theorem dX8_likely_5 : decode cX8_likely 5 = .ok (.ifCond .ne 6, 3) := by decide +kernel
theorem dX8_likely_8 : decode cX8_likely 8 = .ok (.ldc 223, 2) := by decide +kernel
theorem dX8_likely_10 : decode cX8_likely 10 = .ok (.ireturn, 1) := by decide +kernel
theorem dX8_likely_11 : decode cX8_likely 11 = .ok (.iload_n 2, 1) := by decide +kernel
theorem dX8_likely_12 : decode cX8_likely 12 = .ok (.i2l, 1) := by decide +kernel
theorem dX8_likely_13 : decode cX8_likely 13 = .ok (.lconst 1, 1) := by decide +kernel
theorem dX8_likely_14 : decode cX8_likely 14 = .ok (.ldc2_w 321, 3) := by decide +kernel
theorem dX8_likely_17 : decode cX8_likely 17 = .ok (.invokestatic 112, 3) := by decide +kernel
theorem dX8_likely_20 : decode cX8_likely 20 = .ok (.ifCond .ne 6, 3) := by decide +kernel
theorem dX8_likely_23 : decode cX8_likely 23 = .ok (.ldc 133, 2) := by decide +kernel
theorem dX8_likely_25 : decode cX8_likely 25 = .ok (.ireturn, 1) := by decide +kernel
theorem dX8_likely_26 : decode cX8_likely 26 = .ok (.aload_n 0, 1) := by decide +kernel
theorem dX8_likely_27 : decode cX8_likely 27 = .ok (.iconst 1, 1) := by decide +kernel
theorem dX8_likely_28 : decode cX8_likely 28 = .ok (.iload_n 1, 1) := by decide +kernel
theorem dX8_likely_29 : decode cX8_likely 29 = .ok (.ishl, 1) := by decide +kernel
theorem dX8_likely_30 : decode cX8_likely 30 = .ok (.invokevirtual 291, 3) := by decide +kernel
theorem dX8_likely_33 : decode cX8_likely 33 = .ok (.i2l, 1) := by decide +kernel
theorem dX8_likely_34 : decode cX8_likely 34 = .ok (.lstore_n 3, 1) := by decide +kernel
theorem dX8_likely_35 : decode cX8_likely 35 = .ok (.aload_n 0, 1) := by decide +kernel
theorem dX8_likely_36 : decode cX8_likely 36 = .ok (.iload_n 1, 1) := by decide +kernel
theorem dX8_likely_37 : decode cX8_likely 37 = .ok (.invokevirtual 313, 3) := by decide +kernel
