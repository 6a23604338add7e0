theorem dX10_takeStars_76 : decode cX10_takeStars 76 = .ok (.iconst 5, 1) := by decide +kernel
theorem dX10_takeStars_77 : decode cX10_takeStars 77 = .ok (.iload_n 1, 1) := by decide +kernel
theorem dX10_takeStars_78 : decode cX10_takeStars 78 = .ok (.imul, 1) := by decide +kernel
theorem dX10_takeStars_79 : decode cX10_takeStars 79 = .ok (.aload_n 0, 1) := by decide +kernel
theorem dX10_takeStars_80 : decode cX10_takeStars 80 = .ok (.getfield 50, 3) := by decide +kernel
theorem dX10_takeStars_83 : decode cX10_takeStars 83 = .ok (.iload_n 1, 1) := by decide +kernel
theorem dX10_takeStars_84 : decode cX10_takeStars 84 = .ok (.iaload, 1) := by decide +kernel
theorem dX10_takeStars_85 : decode cX10_takeStars 85 = .ok (.iadd, 1) := by decide +kernel
theorem dX10_takeStars_86 : decode cX10_takeStars 86 = .ok (.aload_n 0, 1) := by decide +kernel
theorem dX10_takeStars_87 : decode cX10_takeStars 87 = .ok (.getfield 32, 3) := by decide +kernel
theorem dX10_takeStars_90 : decode cX10_takeStars 90 = .ok (.aload_n 0, 1) := by decide +kernel
theorem dX10_takeStars_91 : decode cX10_takeStars 91 = .ok (.getfield 116, 3) := by decide +kernel
theorem dX10_takeStars_94 : decode cX10_takeStars 94 = .ok (.iaload, 1) := by decide +kernel
theorem dX10_takeStars_95 : decode cX10_takeStars 95 = .ok (.bipush 97, 2) := by decide +kernel
theorem dX10_takeStars_97 : decode cX10_takeStars 97 = .ok (.isub, 1) := by decide +kernel
theorem dX10_takeStars_98 : decode cX10_takeStars 98 = .ok (.iconst 1, 1) := by decide +kernel
theorem dX10_takeStars_99 : decode cX10_takeStars 99 = .ok (.iadd, 1) := by decide +kernel
theorem dX10_takeStars_100 : decode cX10_takeStars 100 = .ok (.iastore, 1) := by decide +kernel
theorem dX10_takeStars_101 : decode cX10_takeStars 101 = .ok (.aload_n 0, 1) := by decide +kernel
theorem dX10_takeStars_102 : decode cX10_takeStars 102 = .ok (.getfield 50, 3) := by decide +kernel
theorem dX10_takeStars_105 : decode cX10_takeStars 105 = .ok (.iload_n 1, 1) := by decide +kernel
theorem dX10_takeStars_106 : decode cX10_takeStars 106 = .ok (.dup2, 1) := by decide +kernel
theorem dX10_takeStars_107 : decode cX10_takeStars 107 = .ok (.iaload, 1) := by decide +kernel
theorem dX10_takeStars_108 : decode cX10_takeStars 108 = .ok (.iconst 1, 1) := by decide +kernel
theorem dX10_takeStars_109 : decode cX10_takeStars 109 = .ok (.iadd, 1) := by decide +kernel
theorem dX10_takeStars_110 : decode cX10_takeStars 110 = .ok (.iastore, 1) := by decide +kernel
theorem dX10_takeStars_111 : decode cX10_takeStars 111 = .ok (.aload_n 0, 1) := by decide +kernel
theorem dX10_takeStars_112 : decode cX10_takeStars 112 = .ok (.dup, 1) := by decide +kernel
theorem dX10_takeStars_113 : decode cX10_takeStars 113 = .ok (.getfield 116, 3) := by decide +kernel
theorem dX10_takeStars_116 : decode cX10_takeStars 116 = .ok (.iconst 1, 1) := by decide +kernel
theorem dX10_takeStars_117 : decode cX10_takeStars 117 = .ok (.iadd, 1) := by decide +kernel
theorem dX10_takeStars_118 : decode cX10_takeStars 118 = .ok (.putfield 116, 3) := by decide +kernel
theorem dX10_takeStars_121 : decode cX10_takeStars 121 = .ok (.goto (-80), 3) := by decide +kernel
theorem dX10_takeStars_124 : decode cX10_takeStars 124 = .ok (.iconst 0, 1) := by decide +kernel
theorem dX10_takeStars_125 : decode cX10_takeStars 125 = .ok (.istore 4, 2) := by decide +kernel
theorem dX10_takeStars_127 : decode cX10_takeStars 127 = .ok (.iconst 0, 1) := by decide +kernel
theorem dX10_takeStars_128 : decode cX10_takeStars 128 = .ok (.istore 5, 2) := by decide +kernel
theorem dX10_takeStars_130 : decode cX10_takeStars 130 = .ok (.iload 5, 2) := by decide +kernel
theorem dX10_takeStars_132 : decode cX10_takeStars 132 = .ok (.iload_n 1, 1) := by decide +kernel
theorem dX10_takeStars_133 : decode cX10_takeStars 133 = .ok (.if_icmp .ge 36, 3) := by decide +kernel
theorem dX10_takeStars_136 : decode cX10_takeStars 136 = .ok (.iload 4, 2) := by decide +kernel
theorem dX10_takeStars_138 : decode cX10_takeStars 138 = .ok (.ifCond .ne 31, 3) := by decide +kernel
theorem dX10_takeStars_141 : decode cX10_takeStars 141 = .ok (.aload_n 0, 1) := by decide +kernel
theorem dX10_takeStars_142 : decode cX10_takeStars 142 = .ok (.iload_n 1, 1) := by decide +kernel
theorem dX10_takeStars_143 : decode cX10_takeStars 143 = .ok (.iload 5, 2) := by decide +kernel
theorem dX10_takeStars_145 : decode cX10_takeStars 145 = .ok (.invokevirtual 152, 3) := by decide +kernel
theorem dX10_takeStars_148 : decode cX10_takeStars 148 = .ok (.ifCond .eq 12, 3) := by decide +kernel
theorem dX10_takeStars_151 : decode cX10_takeStars 151 = .ok (.aload_n 0, 1) := by decide +kernel
theorem dX10_takeStars_152 : decode cX10_takeStars 152 = .ok (.iconst 4, 1) := by decide +kernel
theorem dX10_takeStars_153 : decode cX10_takeStars 153 = .ok (.iload_n 3, 1) := by decide +kernel
theorem dX10_takeStars_154 : decode cX10_takeStars 154 = .ok (.invokevirtual 127, 3) := by decide +kernel
theorem dX10_takeStars_157 : decode cX10_takeStars 157 = .ok (.goto 4, 3) := by decide +kernel
theorem dX10_takeStars_160 : decode cX10_takeStars 160 = .ok (.iconst 0, 1) := by decide +kernel
theorem dX10_takeStars_161 : decode cX10_takeStars 161 = .ok (.istore 4, 2) := by decide +kernel
theorem dX10_takeStars_163 : decode cX10_takeStars 163 = .ok (.iinc 5 1, 3) := by decide +kernel
theorem dX10_takeStars_166 : decode cX10_takeStars 166 = .ok (.goto (-36), 3) := by decide +kernel
theorem dX10_takeStars_169 : decode cX10_takeStars 169 = .ok (.iload 4, 2) := by decide +kernel
theorem dX10_takeStars_171 : decode cX10_takeStars 171 = .ok (.ireturn, 1) := by decide +kernel
theorem dX10_takeHouse_0 : decode cX10_takeHouse 0 = .ok (.aload_n 0, 1) := by decide +kernel
theorem dX10_takeHouse_1 : decode cX10_takeHouse 1 = .ok (.getfield 156, 3) := by decide +kernel
theorem dX10_takeHouse_4 : decode cX10_takeHouse 4 = .ok (.istore_n 1, 1) := by decide +kernel
theorem dX10_takeHouse_5 : decode cX10_takeHouse 5 = .ok (.aload_n 0, 1) := by decide +kernel
theorem dX10_takeHouse_6 : decode cX10_takeHouse 6 = .ok (.dup, 1) := by decide +kernel
theorem dX10_takeHouse_7 : decode cX10_takeHouse 7 = .ok (.getfield 156, 3) := by decide +kernel
theorem dX10_takeHouse_10 : decode cX10_takeHouse 10 = .ok (.iconst 1, 1) := by decide +kernel
theorem dX10_takeHouse_11 : decode cX10_takeHouse 11 = .ok (.iadd, 1) := by decide +kernel
theorem dX10_takeHouse_12 : decode cX10_takeHouse 12 = .ok (.putfield 156, 3) := by decide +kernel
theorem dX10_takeHouse_15 : decode cX10_takeHouse 15 = .ok (.aload_n 0, 1) := by decide +kernel
theorem dX10_takeHouse_16 : decode cX10_takeHouse 16 = .ok (.iload_n 1, 1) := by decide +kernel
theorem dX10_takeHouse_17 : decode cX10_takeHouse 17 = .ok (.invokevirtual 159, 3) := by decide +kernel
theorem dX10_takeHouse_20 : decode cX10_takeHouse 20 = .ok (.istore_n 2, 1) := by decide +kernel
theorem dX10_takeHouse_21 : decode cX10_takeHouse 21 = .ok (.iload_n 2, 1) := by decide +kernel
theorem dX10_takeHouse_22 : decode cX10_takeHouse 22 = .ok (.ifCond .le 7, 3) := by decide +kernel
theorem dX10_takeHouse_25 : decode cX10_takeHouse 25 = .ok (.iload_n 2, 1) := by decide +kernel
theorem dX10_takeHouse_26 : decode cX10_takeHouse 26 = .ok (.goto 15, 3) := by decide +kernel
theorem dX10_takeHouse_29 : decode cX10_takeHouse 29 = .ok (.aload_n 0, 1) := by decide +kernel
theorem dX10_takeHouse_30 : decode cX10_takeHouse 30 = .ok (.aload_n 0, 1) := by decide +kernel
theorem dX10_takeHouse_31 : decode cX10_takeHouse 31 = .ok (.getfield 44, 3) := by decide +kernel
theorem dX10_takeHouse_34 : decode cX10_takeHouse 34 = .ok (.iload_n 1, 1) := by decide +kernel
theorem dX10_takeHouse_35 : decode cX10_takeHouse 35 = .ok (.iconst 1, 1) := by decide +kernel
theorem dX10_takeHouse_36 : decode cX10_takeHouse 36 = .ok (.bipush 9, 2) := by decide +kernel
theorem dX10_takeHouse_38 : decode cX10_takeHouse 38 = .ok (.invokevirtual 140, 3) := by decide +kernel
theorem dX10_takeHouse_41 : decode cX10_takeHouse 41 = .ok (.istore_n 2, 1) := by decide +kernel
theorem dX10_takeHouse_42 : decode cX10_takeHouse 42 = .ok (.iload_n 2, 1) := by decide +kernel
theorem dX10_takeHouse_43 : decode cX10_takeHouse 43 = .ok (.ifCond .le 7, 3) := by decide +kernel
theorem dX10_takeHouse_46 : decode cX10_takeHouse 46 = .ok (.iload_n 2, 1) := by decide +kernel
theorem dX10_takeHouse_47 : decode cX10_takeHouse 47 = .ok (.goto 15, 3) := by decide +kernel
theorem dX10_takeHouse_50 : decode cX10_takeHouse 50 = .ok (.aload_n 0, 1) := by decide +kernel
theorem dX10_takeHouse_51 : decode cX10_takeHouse 51 = .ok (.aload_n 0, 1) := by decide +kernel
theorem dX10_takeHouse_52 : decode cX10_takeHouse 52 = .ok (.getfield 47, 3) := by decide +kernel
theorem dX10_takeHouse_55 : decode cX10_takeHouse 55 = .ok (.iload_n 1, 1) := by decide +kernel
theorem dX10_takeHouse_56 : decode cX10_takeHouse 56 = .ok (.iconst 0, 1) := by decide +kernel
theorem dX10_takeHouse_57 : decode cX10_takeHouse 57 = .ok (.bipush 9, 2) := by decide +kernel
theorem dX10_takeHouse_59 : decode cX10_takeHouse 59 = .ok (.invokevirtual 140, 3) := by decide +kernel
theorem dX10_takeHouse_62 : decode cX10_takeHouse 62 = .ok (.istore_n 2, 1) := by decide +kernel
theorem dX10_takeHouse_63 : decode cX10_takeHouse 63 = .ok (.iload_n 2, 1) := by decide +kernel
theorem dX10_takeHouse_64 : decode cX10_takeHouse 64 = .ok (.ifCond .le 7, 3) := by decide +kernel
theorem dX10_takeHouse_67 : decode cX10_takeHouse 67 = .ok (.iload_n 2, 1) := by decide +kernel
theorem dX10_takeHouse_68 : decode cX10_takeHouse 68 = .ok (.goto 8, 3) := by decide +kernel
theorem dX10_takeHouse_71 : decode cX10_takeHouse 71 = .ok (.aload_n 0, 1) := by decide +kernel
theorem dX10_takeHouse_72 : decode cX10_takeHouse 72 = .ok (.iload_n 1, 1) := by decide +kernel
theorem dX10_takeHouse_73 : decode cX10_takeHouse 73 = .ok (.invokevirtual 163, 3) := by decide +kernel
theorem dX10_takeHouse_76 : decode cX10_takeHouse 76 = .ok (.ireturn, 1) := by decide +kernel
theorem dX10_takeClause_0 : decode cX10_takeClause 0 = .ok (.aload_n 0, 1) := by decide +kernel
theorem dX10_takeClause_1 : decode cX10_takeClause 1 = .ok (.invokevirtual 119, 3) := by decide +kernel
theorem dX10_takeClause_4 : decode cX10_takeClause 4 = .ok (.istore_n 1, 1) := by decide +kernel
theorem dX10_takeClause_5 : decode cX10_takeClause 5 = .ok (.iload_n 1, 1) := by decide +kernel
theorem dX10_takeClause_6 : decode cX10_takeClause 6 = .ok (.bipush 98, 2) := by decide +kernel
theorem dX10_takeClause_8 : decode cX10_takeClause 8 = .ok (.if_icmp .ne 7, 3) := by decide +kernel
theorem dX10_takeClause_11 : decode cX10_takeClause 11 = .ok (.iconst 0, 1) := by decide +kernel
theorem dX10_takeClause_12 : decode cX10_takeClause 12 = .ok (.goto 34, 3) := by decide +kernel
theorem dX10_takeClause_15 : decode cX10_takeClause 15 = .ok (.iload_n 1, 1) := by decide +kernel
theorem dX10_takeClause_16 : decode cX10_takeClause 16 = .ok (.bipush 104, 2) := by decide +kernel
theorem dX10_takeClause_18 : decode cX10_takeClause 18 = .ok (.if_icmp .ne 7, 3) := by decide +kernel
theorem dX10_takeClause_21 : decode cX10_takeClause 21 = .ok (.iconst 1, 1) := by decide +kernel
theorem dX10_takeClause_22 : decode cX10_takeClause 22 = .ok (.goto 24, 3) := by decide +kernel
theorem dX10_takeClause_25 : decode cX10_takeClause 25 = .ok (.iload_n 1, 1) := by decide +kernel
theorem dX10_takeClause_26 : decode cX10_takeClause 26 = .ok (.bipush 109, 2) := by decide +kernel
theorem dX10_takeClause_28 : decode cX10_takeClause 28 = .ok (.if_icmp .ne 7, 3) := by decide +kernel
theorem dX10_takeClause_31 : decode cX10_takeClause 31 = .ok (.iconst 2, 1) := by decide +kernel
theorem dX10_takeClause_32 : decode cX10_takeClause 32 = .ok (.goto 14, 3) := by decide +kernel
theorem dX10_takeClause_35 : decode cX10_takeClause 35 = .ok (.iload_n 1, 1) := by decide +kernel
theorem dX10_takeClause_36 : decode cX10_takeClause 36 = .ok (.bipush 103, 2) := by decide +kernel
theorem dX10_takeClause_38 : decode cX10_takeClause 38 = .ok (.if_icmp .ne 7, 3) := by decide +kernel
theorem dX10_takeClause_41 : decode cX10_takeClause 41 = .ok (.iconst 3, 1) := by decide +kernel
theorem dX10_takeClause_42 : decode cX10_takeClause 42 = .ok (.goto 4, 3) := by decide +kernel
theorem dX10_takeClause_45 : decode cX10_takeClause 45 = .ok (.iconst (-1), 1) := by decide +kernel
theorem dX10_takeClause_46 : decode cX10_takeClause 46 = .ok (.istore_n 2, 1) := by decide +kernel
theorem dX10_takeClause_47 : decode cX10_takeClause 47 = .ok (.iload_n 2, 1) := by decide +kernel
theorem dX10_takeClause_48 : decode cX10_takeClause 48 = .ok (.ifCond .lt 16, 3) := by decide +kernel
theorem dX10_takeClause_51 : decode cX10_takeClause 51 = .ok (.iload_n 2, 1) := by decide +kernel
theorem dX10_takeClause_52 : decode cX10_takeClause 52 = .ok (.ifCond .le 22, 3) := by decide +kernel
theorem dX10_takeClause_55 : decode cX10_takeClause 55 = .ok (.aload_n 0, 1) := by decide +kernel
theorem dX10_takeClause_56 : decode cX10_takeClause 56 = .ok (.getfield 38, 3) := by decide +kernel
theorem dX10_takeClause_59 : decode cX10_takeClause 59 = .ok (.iconst 0, 1) := by decide +kernel
theorem dX10_takeClause_60 : decode cX10_takeClause 60 = .ok (.iaload, 1) := by decide +kernel
theorem dX10_takeClause_61 : decode cX10_takeClause 61 = .ok (.ifCond .ne 13, 3) := by decide +kernel
theorem dX10_takeClause_64 : decode cX10_takeClause 64 = .ok (.aload_n 0, 1) := by decide +kernel
theorem dX10_takeClause_65 : decode cX10_takeClause 65 = .ok (.iconst 1, 1) := by decide +kernel
theorem dX10_takeClause_66 : decode cX10_takeClause 66 = .ok (.aload_n 0, 1) := by decide +kernel
theorem dX10_takeClause_67 : decode cX10_takeClause 67 = .ok (.getfield 116, 3) := by decide +kernel
theorem dX10_takeClause_70 : decode cX10_takeClause 70 = .ok (.invokevirtual 127, 3) := by decide +kernel
theorem dX10_takeClause_73 : decode cX10_takeClause 73 = .ok (.ireturn, 1) := by decide +kernel
theorem dX10_takeClause_74 : decode cX10_takeClause 74 = .ok (.iload_n 2, 1) := by decide +kernel
theorem dX10_takeClause_75 : decode cX10_takeClause 75 = .ok (.ifCond .ne 20, 3) := by decide +kernel
theorem dX10_takeClause_78 : decode cX10_takeClause 78 = .ok (.aload_n 0, 1) := by decide +kernel
theorem dX10_takeClause_79 : decode cX10_takeClause 79 = .ok (.getfield 38, 3) := by decide +kernel
theorem dX10_takeClause_82 : decode cX10_takeClause 82 = .ok (.iconst 0, 1) := by decide +kernel
theorem dX10_takeClause_83 : decode cX10_takeClause 83 = .ok (.iaload, 1) := by decide +kernel
theorem dX10_takeClause_84 : decode cX10_takeClause 84 = .ok (.ifCond .le 7, 3) := by decide +kernel
theorem dX10_takeClause_87 : decode cX10_takeClause 87 = .ok (.iconst 1, 1) := by decide +kernel
theorem dX10_takeClause_88 : decode cX10_takeClause 88 = .ok (.goto 45, 3) := by decide +kernel
theorem dX10_takeClause_91 : decode cX10_takeClause 91 = .ok (.iconst 0, 1) := by decide +kernel
theorem dX10_takeClause_92 : decode cX10_takeClause 92 = .ok (.goto 41, 3) := by decide +kernel
theorem dX10_takeClause_95 : decode cX10_takeClause 95 = .ok (.iload_n 2, 1) := by decide +kernel
theorem dX10_takeClause_96 : decode cX10_takeClause 96 = .ok (.iconst 1, 1) := by decide +kernel
theorem dX10_takeClause_97 : decode cX10_takeClause 97 = .ok (.if_icmp .ne 20, 3) := by decide +kernel
theorem dX10_takeClause_100 : decode cX10_takeClause 100 = .ok (.aload_n 0, 1) := by decide +kernel
theorem dX10_takeClause_101 : decode cX10_takeClause 101 = .ok (.getfield 156, 3) := by decide +kernel
theorem dX10_takeClause_104 : decode cX10_takeClause 104 = .ok (.bipush 8, 2) := by decide +kernel
theorem dX10_takeClause_106 : decode cX10_takeClause 106 = .ok (.if_icmp .ne 7, 3) := by decide +kernel
theorem dX10_takeClause_109 : decode cX10_takeClause 109 = .ok (.iconst 1, 1) := by decide +kernel
theorem dX10_takeClause_110 : decode cX10_takeClause 110 = .ok (.goto 23, 3) := by decide +kernel
theorem dX10_takeClause_113 : decode cX10_takeClause 113 = .ok (.iconst 0, 1) := by decide +kernel
theorem dX10_takeClause_114 : decode cX10_takeClause 114 = .ok (.goto 19, 3) := by decide +kernel
theorem dX10_takeClause_117 : decode cX10_takeClause 117 = .ok (.iload_n 2, 1) := by decide +kernel
theorem dX10_takeClause_118 : decode cX10_takeClause 118 = .ok (.iconst 2, 1) := by decide +kernel
theorem dX10_takeClause_119 : decode cX10_takeClause 119 = .ok (.if_icmp .ne 10, 3) := by decide +kernel
theorem dX10_takeClause_122 : decode cX10_takeClause 122 = .ok (.aload_n 0, 1) := by decide +kernel
theorem dX10_takeClause_123 : decode cX10_takeClause 123 = .ok (.getfield 166, 3) := by decide +kernel
theorem dX10_takeClause_126 : decode cX10_takeClause 126 = .ok (.goto 7, 3) := by decide +kernel
theorem dX10_takeClause_129 : decode cX10_takeClause 129 = .ok (.aload_n 0, 1) := by decide +kernel
theorem dX10_takeClause_130 : decode cX10_takeClause 130 = .ok (.getfield 170, 3) := by decide +kernel
theorem dX10_takeClause_133 : decode cX10_takeClause 133 = .ok (.istore_n 3, 1) := by decide +kernel
theorem dX10_takeClause_134 : decode cX10_takeClause 134 = .ok (.iload_n 3, 1) := by decide +kernel
theorem dX10_takeClause_135 : decode cX10_takeClause 135 = .ok (.ifCond .eq 13, 3) := by decide +kernel
theorem dX10_takeClause_138 : decode cX10_takeClause 138 = .ok (.aload_n 0, 1) := by decide +kernel
theorem dX10_takeClause_139 : decode cX10_takeClause 139 = .ok (.iconst 3, 1) := by decide +kernel
theorem dX10_takeClause_140 : decode cX10_takeClause 140 = .ok (.aload_n 0, 1) := by decide +kernel
theorem dX10_takeClause_141 : decode cX10_takeClause 141 = .ok (.getfield 116, 3) := by decide +kernel
theorem dX10_takeClause_144 : decode cX10_takeClause 144 = .ok (.invokevirtual 127, 3) := by decide +kernel
theorem dX10_takeClause_147 : decode cX10_takeClause 147 = .ok (.ireturn, 1) := by decide +kernel
theorem dX10_takeClause_148 : decode cX10_takeClause 148 = .ok (.aload_n 0, 1) := by decide +kernel
theorem dX10_takeClause_149 : decode cX10_takeClause 149 = .ok (.dup, 1) := by decide +kernel
theorem dX10_takeClause_150 : decode cX10_takeClause 150 = .ok (.getfield 116, 3) := by decide +kernel
theorem dX10_takeClause_153 : decode cX10_takeClause 153 = .ok (.iconst 1, 1) := by decide +kernel
theorem dX10_takeClause_154 : decode cX10_takeClause 154 = .ok (.iadd, 1) := by decide +kernel
theorem dX10_takeClause_155 : decode cX10_takeClause 155 = .ok (.putfield 116, 3) := by decide +kernel
theorem dX10_takeClause_158 : decode cX10_takeClause 158 = .ok (.aload_n 0, 1) := by decide +kernel
theorem dX10_takeClause_159 : decode cX10_takeClause 159 = .ok (.aload_n 0, 1) := by decide +kernel
theorem dX10_takeClause_160 : decode cX10_takeClause 160 = .ok (.getfield 166, 3) := by decide +kernel
theorem dX10_takeClause_163 : decode cX10_takeClause 163 = .ok (.ifCond .ne 8, 3) := by decide +kernel
theorem dX10_takeClause_166 : decode cX10_takeClause 166 = .ok (.iload_n 2, 1) := by decide +kernel
theorem dX10_takeClause_167 : decode cX10_takeClause 167 = .ok (.iconst 2, 1) := by decide +kernel
theorem dX10_takeClause_168 : decode cX10_takeClause 168 = .ok (.if_icmp .ne 7, 3) := by decide +kernel
theorem dX10_takeClause_171 : decode cX10_takeClause 171 = .ok (.iconst 1, 1) := by decide +kernel
theorem dX10_takeClause_172 : decode cX10_takeClause 172 = .ok (.goto 4, 3) := by decide +kernel
theorem dX10_takeClause_175 : decode cX10_takeClause 175 = .ok (.iconst 0, 1) := by decide +kernel
theorem dX10_takeClause_176 : decode cX10_takeClause 176 = .ok (.putfield 166, 3) := by decide +kernel
theorem dX10_takeClause_179 : decode cX10_takeClause 179 = .ok (.aload_n 0, 1) := by decide +kernel
theorem dX10_takeClause_180 : decode cX10_takeClause 180 = .ok (.aload_n 0, 1) := by decide +kernel
theorem dX10_takeClause_181 : decode cX10_takeClause 181 = .ok (.getfield 170, 3) := by decide +kernel
theorem dX10_takeClause_184 : decode cX10_takeClause 184 = .ok (.ifCond .ne 8, 3) := by decide +kernel
theorem dX10_takeClause_187 : decode cX10_takeClause 187 = .ok (.iload_n 2, 1) := by decide +kernel
theorem dX10_takeClause_188 : decode cX10_takeClause 188 = .ok (.iconst 3, 1) := by decide +kernel
theorem dX10_takeClause_189 : decode cX10_takeClause 189 = .ok (.if_icmp .ne 7, 3) := by decide +kernel
theorem dX10_takeClause_192 : decode cX10_takeClause 192 = .ok (.iconst 1, 1) := by decide +kernel
theorem dX10_takeClause_193 : decode cX10_takeClause 193 = .ok (.goto 4, 3) := by decide +kernel
theorem dX10_takeClause_196 : decode cX10_takeClause 196 = .ok (.iconst 0, 1) := by decide +kernel
theorem dX10_takeClause_197 : decode cX10_takeClause 197 = .ok (.putfield 170, 3) := by decide +kernel
theorem dX10_takeClause_200 : decode cX10_takeClause 200 = .ok (.iload_n 2, 1) := by decide +kernel
theorem dX10_takeClause_201 : decode cX10_takeClause 201 = .ok (.ifCond .ne 10, 3) := by decide +kernel
theorem dX10_takeClause_204 : decode cX10_takeClause 204 = .ok (.aload_n 0, 1) := by decide +kernel
theorem dX10_takeClause_205 : decode cX10_takeClause 205 = .ok (.invokevirtual 173, 3) := by decide +kernel
theorem dX10_takeClause_208 : decode cX10_takeClause 208 = .ok (.goto 47, 3) := by decide +kernel
theorem dX10_takeClause_211 : decode cX10_takeClause 211 = .ok (.iload_n 2, 1) := by decide +kernel
theorem dX10_takeClause_212 : decode cX10_takeClause 212 = .ok (.iconst 1, 1) := by decide +kernel
theorem dX10_takeClause_213 : decode cX10_takeClause 213 = .ok (.if_icmp .ne 10, 3) := by decide +kernel
theorem dX10_takeClause_216 : decode cX10_takeClause 216 = .ok (.aload_n 0, 1) := by decide +kernel
theorem dX10_takeClause_217 : decode cX10_takeClause 217 = .ok (.invokevirtual 176, 3) := by decide +kernel
theorem dX10_takeClause_220 : decode cX10_takeClause 220 = .ok (.goto 35, 3) := by decide +kernel
theorem dX10_takeClause_223 : decode cX10_takeClause 223 = .ok (.iload_n 2, 1) := by decide +kernel
theorem dX10_takeClause_224 : decode cX10_takeClause 224 = .ok (.iconst 2, 1) := by decide +kernel
theorem dX10_takeClause_225 : decode cX10_takeClause 225 = .ok (.if_icmp .ne 18, 3) := by decide +kernel
theorem dX10_takeClause_228 : decode cX10_takeClause 228 = .ok (.aload_n 0, 1) := by decide +kernel
theorem dX10_takeClause_229 : decode cX10_takeClause 229 = .ok (.aload_n 0, 1) := by decide +kernel
theorem dX10_takeClause_230 : decode cX10_takeClause 230 = .ok (.getfield 56, 3) := by decide +kernel
theorem dX10_takeClause_233 : decode cX10_takeClause 233 = .ok (.iconst 0, 1) := by decide +kernel
theorem dX10_takeClause_234 : decode cX10_takeClause 234 = .ok (.iconst 0, 1) := by decide +kernel
theorem dX10_takeClause_235 : decode cX10_takeClause 235 = .ok (.bipush 9, 2) := by decide +kernel
theorem dX10_takeClause_237 : decode cX10_takeClause 237 = .ok (.invokevirtual 140, 3) := by decide +kernel
theorem dX10_takeClause_240 : decode cX10_takeClause 240 = .ok (.goto 15, 3) := by decide +kernel
theorem dX10_takeClause_243 : decode cX10_takeClause 243 = .ok (.aload_n 0, 1) := by decide +kernel
theorem dX10_takeClause_244 : decode cX10_takeClause 244 = .ok (.aload_n 0, 1) := by decide +kernel
theorem dX10_takeClause_245 : decode cX10_takeClause 245 = .ok (.getfield 59, 3) := by decide +kernel
theorem dX10_takeClause_248 : decode cX10_takeClause 248 = .ok (.iconst 0, 1) := by decide +kernel
theorem dX10_takeClause_249 : decode cX10_takeClause 249 = .ok (.iconst 0, 1) := by decide +kernel
theorem dX10_takeClause_250 : decode cX10_takeClause 250 = .ok (.bipush 100, 2) := by decide +kernel
theorem dX10_takeClause_252 : decode cX10_takeClause 252 = .ok (.invokevirtual 140, 3) := by decide +kernel
theorem dX10_takeClause_255 : decode cX10_takeClause 255 = .ok (.istore 4, 2) := by decide +kernel
theorem dX10_takeClause_257 : decode cX10_takeClause 257 = .ok (.iload 4, 2) := by decide +kernel
theorem dX10_takeClause_259 : decode cX10_takeClause 259 = .ok (.ifCond .ne 22, 3) := by decide +kernel
theorem dX10_takeClause_262 : decode cX10_takeClause 262 = .ok (.aload_n 0, 1) := by decide +kernel
theorem dX10_takeClause_263 : decode cX10_takeClause 263 = .ok (.invokevirtual 119, 3) := by decide +kernel
theorem dX10_takeClause_266 : decode cX10_takeClause 266 = .ok (.bipush 59, 2) := by decide +kernel
theorem dX10_takeClause_268 : decode cX10_takeClause 268 = .ok (.if_icmp .eq 13, 3) := by decide +kernel
theorem dX10_takeClause_271 : decode cX10_takeClause 271 = .ok (.aload_n 0, 1) := by decide +kernel
theorem dX10_takeClause_272 : decode cX10_takeClause 272 = .ok (.iconst 1, 1) := by decide +kernel
theorem dX10_takeClause_273 : decode cX10_takeClause 273 = .ok (.aload_n 0, 1) := by decide +kernel
theorem dX10_takeClause_274 : decode cX10_takeClause 274 = .ok (.getfield 116, 3) := by decide +kernel
theorem dX10_takeClause_277 : decode cX10_takeClause 277 = .ok (.invokevirtual 127, 3) := by decide +kernel
theorem dX10_takeClause_280 : decode cX10_takeClause 280 = .ok (.ireturn, 1) := by decide +kernel
theorem dX10_takeClause_281 : decode cX10_takeClause 281 = .ok (.aload_n 0, 1) := by decide +kernel
theorem dX10_takeClause_282 : decode cX10_takeClause 282 = .ok (.dup, 1) := by decide +kernel
theorem dX10_takeClause_283 : decode cX10_takeClause 283 = .ok (.getfield 116, 3) := by decide +kernel
theorem dX10_takeClause_286 : decode cX10_takeClause 286 = .ok (.iconst 1, 1) := by decide +kernel
theorem dX10_takeClause_287 : decode cX10_takeClause 287 = .ok (.iadd, 1) := by decide +kernel
theorem dX10_takeClause_288 : decode cX10_takeClause 288 = .ok (.putfield 116, 3) := by decide +kernel
theorem dX10_takeClause_291 : decode cX10_takeClause 291 = .ok (.iload 4, 2) := by decide +kernel
theorem dX10_takeClause_293 : decode cX10_takeClause 293 = .ok (.ireturn, 1) := by decide +kernel
theorem dX10_takeRead_0 : decode cX10_takeRead 0 = .ok (.aload_n 0, 1) := by decide +kernel
theorem dX10_takeRead_1 : decode cX10_takeRead 1 = .ok (.aload_n 0, 1) := by decide +kernel
theorem dX10_takeRead_2 : decode cX10_takeRead 2 = .ok (.getfield 38, 3) := by decide +kernel
theorem dX10_takeRead_5 : decode cX10_takeRead 5 = .ok (.iconst 0, 1) := by decide +kernel
theorem dX10_takeRead_6 : decode cX10_takeRead 6 = .ok (.iaload, 1) := by decide +kernel
theorem dX10_takeRead_7 : decode cX10_takeRead 7 = .ok (.putfield 99, 3) := by decide +kernel
theorem dX10_takeRead_10 : decode cX10_takeRead 10 = .ok (.aload_n 0, 1) := by decide +kernel
theorem dX10_takeRead_11 : decode cX10_takeRead 11 = .ok (.aload_n 0, 1) := by decide +kernel
theorem dX10_takeRead_12 : decode cX10_takeRead 12 = .ok (.getfield 156, 3) := by decide +kernel
theorem dX10_takeRead_15 : decode cX10_takeRead 15 = .ok (.putfield 102, 3) := by decide +kernel
theorem dX10_takeRead_18 : decode cX10_takeRead 18 = .ok (.aload_n 0, 1) := by decide +kernel
theorem dX10_takeRead_19 : decode cX10_takeRead 19 = .ok (.aload_n 0, 1) := by decide +kernel
theorem dX10_takeRead_20 : decode cX10_takeRead 20 = .ok (.getfield 166, 3) := by decide +kernel
theorem dX10_takeRead_23 : decode cX10_takeRead 23 = .ok (.ifCond .eq 12, 3) := by decide +kernel
theorem dX10_takeRead_26 : decode cX10_takeRead 26 = .ok (.aload_n 0, 1) := by decide +kernel
theorem dX10_takeRead_27 : decode cX10_takeRead 27 = .ok (.getfield 56, 3) := by decide +kernel
theorem dX10_takeRead_30 : decode cX10_takeRead 30 = .ok (.iconst 0, 1) := by decide +kernel
theorem dX10_takeRead_31 : decode cX10_takeRead 31 = .ok (.iaload, 1) := by decide +kernel
theorem dX10_takeRead_32 : decode cX10_takeRead 32 = .ok (.goto 4, 3) := by decide +kernel
theorem dX10_takeRead_35 : decode cX10_takeRead 35 = .ok (.iconst 2, 1) := by decide +kernel
theorem dX10_takeRead_36 : decode cX10_takeRead 36 = .ok (.putfield 22, 3) := by decide +kernel
theorem dX10_takeRead_39 : decode cX10_takeRead 39 = .ok (.aload_n 0, 1) := by decide +kernel
theorem dX10_takeRead_40 : decode cX10_takeRead 40 = .ok (.aload_n 0, 1) := by decide +kernel
theorem dX10_takeRead_41 : decode cX10_takeRead 41 = .ok (.getfield 170, 3) := by decide +kernel
theorem dX10_takeRead_44 : decode cX10_takeRead 44 = .ok (.ifCond .eq 12, 3) := by decide +kernel
theorem dX10_takeRead_47 : decode cX10_takeRead 47 = .ok (.aload_n 0, 1) := by decide +kernel
theorem dX10_takeRead_48 : decode cX10_takeRead 48 = .ok (.getfield 59, 3) := by decide +kernel
theorem dX10_takeRead_51 : decode cX10_takeRead 51 = .ok (.iconst 0, 1) := by decide +kernel
theorem dX10_takeRead_52 : decode cX10_takeRead 52 = .ok (.iaload, 1) := by decide +kernel
theorem dX10_takeRead_53 : decode cX10_takeRead 53 = .ok (.goto 5, 3) := by decide +kernel
theorem dX10_takeRead_56 : decode cX10_takeRead 56 = .ok (.bipush 10, 2) := by decide +kernel
theorem dX10_takeRead_58 : decode cX10_takeRead 58 = .ok (.putfield 26, 3) := by decide +kernel
theorem dX10_takeRead_61 : decode cX10_takeRead 61 = .ok (.iconst 0, 1) := by decide +kernel
theorem dX10_takeRead_62 : decode cX10_takeRead 62 = .ok (.istore_n 1, 1) := by decide +kernel
theorem dX10_takeRead_63 : decode cX10_takeRead 63 = .ok (.iload_n 1, 1) := by decide +kernel
theorem dX10_takeRead_64 : decode cX10_takeRead 64 = .ok (.bipush 43, 2) := by decide +kernel
theorem dX10_takeRead_66 : decode cX10_takeRead 66 = .ok (.if_icmp .ge 16, 3) := by decide +kernel
theorem dX10_takeRead_69 : decode cX10_takeRead 69 = .ok (.aload_n 0, 1) := by decide +kernel
theorem dX10_takeRead_70 : decode cX10_takeRead 70 = .ok (.getfield 29, 3) := by decide +kernel
theorem dX10_takeRead_73 : decode cX10_takeRead 73 = .ok (.iload_n 1, 1) := by decide +kernel
theorem dX10_takeRead_74 : decode cX10_takeRead 74 = .ok (.iconst 0, 1) := by decide +kernel
theorem dX10_takeRead_75 : decode cX10_takeRead 75 = .ok (.iastore, 1) := by decide +kernel
theorem dX10_takeRead_76 : decode cX10_takeRead 76 = .ok (.iinc 1 1, 3) := by decide +kernel
theorem dX10_takeRead_79 : decode cX10_takeRead 79 = .ok (.goto (-16), 3) := by decide +kernel
theorem dX10_takeRead_82 : decode cX10_takeRead 82 = .ok (.aload_n 0, 1) := by decide +kernel
theorem dX10_takeRead_83 : decode cX10_takeRead 83 = .ok (.getfield 29, 3) := by decide +kernel
theorem dX10_takeRead_86 : decode cX10_takeRead 86 = .ok (.iconst 0, 1) := by decide +kernel
theorem dX10_takeRead_87 : decode cX10_takeRead 87 = .ok (.aload_n 0, 1) := by decide +kernel
theorem dX10_takeRead_88 : decode cX10_takeRead 88 = .ok (.getfield 38, 3) := by decide +kernel
theorem dX10_takeRead_91 : decode cX10_takeRead 91 = .ok (.iconst 1, 1) := by decide +kernel
theorem dX10_takeRead_92 : decode cX10_takeRead 92 = .ok (.iaload, 1) := by decide +kernel
theorem dX10_takeRead_93 : decode cX10_takeRead 93 = .ok (.iastore, 1) := by decide +kernel
theorem dX10_takeRead_94 : decode cX10_takeRead 94 = .ok (.aload_n 0, 1) := by decide +kernel
theorem dX10_takeRead_95 : decode cX10_takeRead 95 = .ok (.getfield 29, 3) := by decide +kernel
theorem dX10_takeRead_98 : decode cX10_takeRead 98 = .ok (.iconst 1, 1) := by decide +kernel
theorem dX10_takeRead_99 : decode cX10_takeRead 99 = .ok (.aload_n 0, 1) := by decide +kernel
theorem dX10_takeRead_100 : decode cX10_takeRead 100 = .ok (.getfield 99, 3) := by decide +kernel
theorem dX10_takeRead_103 : decode cX10_takeRead 103 = .ok (.ifCond .ne 7, 3) := by decide +kernel
theorem dX10_takeRead_106 : decode cX10_takeRead 106 = .ok (.iconst 0, 1) := by decide +kernel
theorem dX10_takeRead_107 : decode cX10_takeRead 107 = .ok (.goto 11, 3) := by decide +kernel
theorem dX10_takeRead_110 : decode cX10_takeRead 110 = .ok (.aload_n 0, 1) := by decide +kernel
theorem dX10_takeRead_111 : decode cX10_takeRead 111 = .ok (.getfield 38, 3) := by decide +kernel
theorem dX10_takeRead_114 : decode cX10_takeRead 114 = .ok (.iconst 2, 1) := by decide +kernel
theorem dX10_takeRead_115 : decode cX10_takeRead 115 = .ok (.iaload, 1) := by decide +kernel
theorem dX10_takeRead_116 : decode cX10_takeRead 116 = .ok (.iconst 5, 1) := by decide +kernel
theorem dX10_takeRead_117 : decode cX10_takeRead 117 = .ok (.isub, 1) := by decide +kernel
theorem dX10_takeRead_118 : decode cX10_takeRead 118 = .ok (.iastore, 1) := by decide +kernel
theorem dX10_takeRead_119 : decode cX10_takeRead 119 = .ok (.iconst 0, 1) := by decide +kernel
theorem dX10_takeRead_120 : decode cX10_takeRead 120 = .ok (.istore_n 1, 1) := by decide +kernel
theorem dX10_takeRead_121 : decode cX10_takeRead 121 = .ok (.iload_n 1, 1) := by decide +kernel
theorem dX10_takeRead_122 : decode cX10_takeRead 122 = .ok (.bipush 8, 2) := by decide +kernel
theorem dX10_takeRead_124 : decode cX10_takeRead 124 = .ok (.if_icmp .ge 55, 3) := by decide +kernel
theorem dX10_takeRead_127 : decode cX10_takeRead 127 = .ok (.aload_n 0, 1) := by decide +kernel
theorem dX10_takeRead_128 : decode cX10_takeRead 128 = .ok (.getfield 29, 3) := by decide +kernel
theorem dX10_takeRead_131 : decode cX10_takeRead 131 = .ok (.iconst 3, 1) := by decide +kernel
theorem dX10_takeRead_132 : decode cX10_takeRead 132 = .ok (.iload_n 1, 1) := by decide +kernel
theorem dX10_takeRead_133 : decode cX10_takeRead 133 = .ok (.iadd, 1) := by decide +kernel
theorem dX10_takeRead_134 : decode cX10_takeRead 134 = .ok (.iload_n 1, 1) := by decide +kernel
theorem dX10_takeRead_135 : decode cX10_takeRead 135 = .ok (.aload_n 0, 1) := by decide +kernel
theorem dX10_takeRead_136 : decode cX10_takeRead 136 = .ok (.getfield 102, 3) := by decide +kernel
theorem dX10_takeRead_139 : decode cX10_takeRead 139 = .ok (.if_icmp .ge 12, 3) := by decide +kernel
theorem dX10_takeRead_142 : decode cX10_takeRead 142 = .ok (.aload_n 0, 1) := by decide +kernel
theorem dX10_takeRead_143 : decode cX10_takeRead 143 = .ok (.getfield 47, 3) := by decide +kernel
theorem dX10_takeRead_146 : decode cX10_takeRead 146 = .ok (.iload_n 1, 1) := by decide +kernel
theorem dX10_takeRead_147 : decode cX10_takeRead 147 = .ok (.iaload, 1) := by decide +kernel
theorem dX10_takeRead_148 : decode cX10_takeRead 148 = .ok (.goto 4, 3) := by decide +kernel
theorem dX10_takeRead_151 : decode cX10_takeRead 151 = .ok (.iconst 0, 1) := by decide +kernel
theorem dX10_takeRead_152 : decode cX10_takeRead 152 = .ok (.iastore, 1) := by decide +kernel
theorem dX10_takeRead_153 : decode cX10_takeRead 153 = .ok (.aload_n 0, 1) := by decide +kernel
theorem dX10_takeRead_154 : decode cX10_takeRead 154 = .ok (.getfield 29, 3) := by decide +kernel
theorem dX10_takeRead_157 : decode cX10_takeRead 157 = .ok (.bipush 11, 2) := by decide +kernel
theorem dX10_takeRead_159 : decode cX10_takeRead 159 = .ok (.iload_n 1, 1) := by decide +kernel
theorem dX10_takeRead_160 : decode cX10_takeRead 160 = .ok (.iadd, 1) := by decide +kernel
theorem dX10_takeRead_161 : decode cX10_takeRead 161 = .ok (.iconst (-1), 1) := by decide +kernel
theorem dX10_takeRead_162 : decode cX10_takeRead 162 = .ok (.iastore, 1) := by decide +kernel
theorem dX10_takeRead_163 : decode cX10_takeRead 163 = .ok (.aload_n 0, 1) := by decide +kernel
theorem dX10_takeRead_164 : decode cX10_takeRead 164 = .ok (.getfield 29, 3) := by decide +kernel
theorem dX10_takeRead_167 : decode cX10_takeRead 167 = .ok (.bipush 19, 2) := by decide +kernel
theorem dX10_takeRead_169 : decode cX10_takeRead 169 = .ok (.iload_n 1, 1) := by decide +kernel
theorem dX10_takeRead_170 : decode cX10_takeRead 170 = .ok (.iadd, 1) := by decide +kernel
theorem dX10_takeRead_171 : decode cX10_takeRead 171 = .ok (.iconst (-1), 1) := by decide +kernel
theorem dX10_takeRead_172 : decode cX10_takeRead 172 = .ok (.iastore, 1) := by decide +kernel
theorem dX10_takeRead_173 : decode cX10_takeRead 173 = .ok (.iinc 1 1, 3) := by decide +kernel
theorem dX10_takeRead_176 : decode cX10_takeRead 176 = .ok (.goto (-55), 3) := by decide +kernel
theorem dX10_takeRead_179 : decode cX10_takeRead 179 = .ok (.iconst 0, 1) := by decide +kernel
theorem dX10_takeRead_180 : decode cX10_takeRead 180 = .ok (.istore_n 1, 1) := by decide +kernel
theorem dX10_takeRead_181 : decode cX10_takeRead 181 = .ok (.iload_n 1, 1) := by decide +kernel
theorem dX10_takeRead_182 : decode cX10_takeRead 182 = .ok (.aload_n 0, 1) := by decide +kernel
theorem dX10_takeRead_183 : decode cX10_takeRead 183 = .ok (.getfield 102, 3) := by decide +kernel
theorem dX10_takeRead_186 : decode cX10_takeRead 186 = .ok (.if_icmp .ge 78, 3) := by decide +kernel
theorem dX10_takeRead_189 : decode cX10_takeRead 189 = .ok (.aload_n 0, 1) := by decide +kernel
theorem dX10_takeRead_190 : decode cX10_takeRead 190 = .ok (.getfield 7, 3) := by decide +kernel
theorem dX10_takeRead_193 : decode cX10_takeRead 193 = .ok (.iload_n 1, 1) := by decide +kernel
theorem dX10_takeRead_194 : decode cX10_takeRead 194 = .ok (.aload_n 0, 1) := by decide +kernel
theorem dX10_takeRead_195 : decode cX10_takeRead 195 = .ok (.getfield 41, 3) := by decide +kernel
theorem dX10_takeRead_198 : decode cX10_takeRead 198 = .ok (.iload_n 1, 1) := by decide +kernel
theorem dX10_takeRead_199 : decode cX10_takeRead 199 = .ok (.iaload, 1) := by decide +kernel
theorem dX10_takeRead_200 : decode cX10_takeRead 200 = .ok (.iastore, 1) := by decide +kernel
theorem dX10_takeRead_201 : decode cX10_takeRead 201 = .ok (.aload_n 0, 1) := by decide +kernel
theorem dX10_takeRead_202 : decode cX10_takeRead 202 = .ok (.getfield 13, 3) := by decide +kernel
theorem dX10_takeRead_205 : decode cX10_takeRead 205 = .ok (.iload_n 1, 1) := by decide +kernel
theorem dX10_takeRead_206 : decode cX10_takeRead 206 = .ok (.aload_n 0, 1) := by decide +kernel
theorem dX10_takeRead_207 : decode cX10_takeRead 207 = .ok (.getfield 44, 3) := by decide +kernel
theorem dX10_takeRead_210 : decode cX10_takeRead 210 = .ok (.iload_n 1, 1) := by decide +kernel
theorem dX10_takeRead_211 : decode cX10_takeRead 211 = .ok (.iaload, 1) := by decide +kernel
theorem dX10_takeRead_212 : decode cX10_takeRead 212 = .ok (.iastore, 1) := by decide +kernel
theorem dX10_takeRead_213 : decode cX10_takeRead 213 = .ok (.aload_n 0, 1) := by decide +kernel
theorem dX10_takeRead_214 : decode cX10_takeRead 214 = .ok (.getfield 16, 3) := by decide +kernel
theorem dX10_takeRead_217 : decode cX10_takeRead 217 = .ok (.iload_n 1, 1) := by decide +kernel
theorem dX10_takeRead_218 : decode cX10_takeRead 218 = .ok (.aload_n 0, 1) := by decide +kernel
theorem dX10_takeRead_219 : decode cX10_takeRead 219 = .ok (.getfield 50, 3) := by decide +kernel
theorem dX10_takeRead_222 : decode cX10_takeRead 222 = .ok (.iload_n 1, 1) := by decide +kernel
theorem dX10_takeRead_223 : decode cX10_takeRead 223 = .ok (.iaload, 1) := by decide +kernel
theorem dX10_takeRead_224 : decode cX10_takeRead 224 = .ok (.iastore, 1) := by decide +kernel
theorem dX10_takeRead_225 : decode cX10_takeRead 225 = .ok (.iconst 0, 1) := by decide +kernel
theorem dX10_takeRead_226 : decode cX10_takeRead 226 = .ok (.istore_n 2, 1) := by decide +kernel
theorem dX10_takeRead_227 : decode cX10_takeRead 227 = .ok (.iload_n 2, 1) := by decide +kernel
theorem dX10_takeRead_228 : decode cX10_takeRead 228 = .ok (.iconst 5, 1) := by decide +kernel
theorem dX10_takeRead_229 : decode cX10_takeRead 229 = .ok (.if_icmp .ge 29, 3) := by decide +kernel
theorem dX10_takeRead_232 : decode cX10_takeRead 232 = .ok (.aload_n 0, 1) := by decide +kernel
theorem dX10_takeRead_233 : decode cX10_takeRead 233 = .ok (.getfield 19, 3) := by decide +kernel
theorem dX10_takeRead_236 : decode cX10_takeRead 236 = .ok (.iconst 5, 1) := by decide +kernel
theorem dX10_takeRead_237 : decode cX10_takeRead 237 = .ok (.iload_n 1, 1) := by decide +kernel
theorem dX10_takeRead_238 : decode cX10_takeRead 238 = .ok (.imul, 1) := by decide +kernel
theorem dX10_takeRead_239 : decode cX10_takeRead 239 = .ok (.iload_n 2, 1) := by decide +kernel
theorem dX10_takeRead_240 : decode cX10_takeRead 240 = .ok (.iadd, 1) := by decide +kernel
theorem dX10_takeRead_241 : decode cX10_takeRead 241 = .ok (.aload_n 0, 1) := by decide +kernel
theorem dX10_takeRead_242 : decode cX10_takeRead 242 = .ok (.getfield 53, 3) := by decide +kernel
theorem dX10_takeRead_245 : decode cX10_takeRead 245 = .ok (.iconst 5, 1) := by decide +kernel
theorem dX10_takeRead_246 : decode cX10_takeRead 246 = .ok (.iload_n 1, 1) := by decide +kernel
theorem dX10_takeRead_247 : decode cX10_takeRead 247 = .ok (.imul, 1) := by decide +kernel
theorem dX10_takeRead_248 : decode cX10_takeRead 248 = .ok (.iload_n 2, 1) := by decide +kernel
theorem dX10_takeRead_249 : decode cX10_takeRead 249 = .ok (.iadd, 1) := by decide +kernel
theorem dX10_takeRead_250 : decode cX10_takeRead 250 = .ok (.iaload, 1) := by decide +kernel
theorem dX10_takeRead_251 : decode cX10_takeRead 251 = .ok (.iastore, 1) := by decide +kernel
theorem dX10_takeRead_252 : decode cX10_takeRead 252 = .ok (.iinc 2 1, 3) := by decide +kernel
theorem dX10_takeRead_255 : decode cX10_takeRead 255 = .ok (.goto (-28), 3) := by decide +kernel
theorem dX10_takeRead_258 : decode cX10_takeRead 258 = .ok (.iinc 1 1, 3) := by decide +kernel
theorem dX10_takeRead_261 : decode cX10_takeRead 261 = .ok (.goto (-80), 3) := by decide +kernel
theorem dX10_takeRead_264 : decode cX10_takeRead 264 = .ok (.return_, 1) := by decide +kernel
theorem dX10_bay_0 : decode cX10_bay 0 = .ok (.aload_n 0, 1) := by decide +kernel
theorem dX10_bay_1 : decode cX10_bay 1 = .ok (.iconst (-1), 1) := by decide +kernel
theorem dX10_bay_2 : decode cX10_bay 2 = .ok (.putfield 35, 3) := by decide +kernel
theorem dX10_bay_5 : decode cX10_bay 5 = .ok (.aload_n 0, 1) := by decide +kernel
theorem dX10_bay_6 : decode cX10_bay 6 = .ok (.iconst 0, 1) := by decide +kernel
theorem dX10_bay_7 : decode cX10_bay 7 = .ok (.putfield 116, 3) := by decide +kernel
theorem dX10_bay_10 : decode cX10_bay 10 = .ok (.iconst 0, 1) := by decide +kernel
theorem dX10_bay_11 : decode cX10_bay 11 = .ok (.istore_n 1, 1) := by decide +kernel
theorem dX10_bay_12 : decode cX10_bay 12 = .ok (.iload_n 1, 1) := by decide +kernel
theorem dX10_bay_13 : decode cX10_bay 13 = .ok (.iconst 3, 1) := by decide +kernel
theorem dX10_bay_14 : decode cX10_bay 14 = .ok (.if_icmp .ge 16, 3) := by decide +kernel
theorem dX10_bay_17 : decode cX10_bay 17 = .ok (.aload_n 0, 1) := by decide +kernel
theorem dX10_bay_18 : decode cX10_bay 18 = .ok (.getfield 38, 3) := by decide +kernel
theorem dX10_bay_21 : decode cX10_bay 21 = .ok (.iload_n 1, 1) := by decide +kernel
theorem dX10_bay_22 : decode cX10_bay 22 = .ok (.iconst 0, 1) := by decide +kernel
theorem dX10_bay_23 : decode cX10_bay 23 = .ok (.iastore, 1) := by decide +kernel
theorem dX10_bay_24 : decode cX10_bay 24 = .ok (.iinc 1 1, 3) := by decide +kernel
theorem dX10_bay_27 : decode cX10_bay 27 = .ok (.goto (-15), 3) := by decide +kernel
theorem dX10_bay_30 : decode cX10_bay 30 = .ok (.aload_n 0, 1) := by decide +kernel
theorem dX10_bay_31 : decode cX10_bay 31 = .ok (.iconst 0, 1) := by decide +kernel
theorem dX10_bay_32 : decode cX10_bay 32 = .ok (.putfield 156, 3) := by decide +kernel
theorem dX10_bay_35 : decode cX10_bay 35 = .ok (.aload_n 0, 1) := by decide +kernel
theorem dX10_bay_36 : decode cX10_bay 36 = .ok (.iconst 0, 1) := by decide +kernel
theorem dX10_bay_37 : decode cX10_bay 37 = .ok (.putfield 166, 3) := by decide +kernel
theorem dX10_bay_40 : decode cX10_bay 40 = .ok (.aload_n 0, 1) := by decide +kernel
theorem dX10_bay_41 : decode cX10_bay 41 = .ok (.iconst 0, 1) := by decide +kernel
theorem dX10_bay_42 : decode cX10_bay 42 = .ok (.putfield 170, 3) := by decide +kernel
theorem dX10_bay_45 : decode cX10_bay 45 = .ok (.iconst 0, 1) := by decide +kernel
theorem dX10_bay_46 : decode cX10_bay 46 = .ok (.istore_n 1, 1) := by decide +kernel
theorem dX10_bay_47 : decode cX10_bay 47 = .ok (.iload_n 1, 1) := by decide +kernel
theorem dX10_bay_48 : decode cX10_bay 48 = .ok (.ifCond .ne 18, 3) := by decide +kernel
theorem dX10_bay_51 : decode cX10_bay 51 = .ok (.aload_n 0, 1) := by decide +kernel
theorem dX10_bay_52 : decode cX10_bay 52 = .ok (.invokevirtual 119, 3) := by decide +kernel
theorem dX10_bay_55 : decode cX10_bay 55 = .ok (.ifCond .lt 11, 3) := by decide +kernel
theorem dX10_bay_58 : decode cX10_bay 58 = .ok (.aload_n 0, 1) := by decide +kernel
theorem dX10_bay_59 : decode cX10_bay 59 = .ok (.invokevirtual 179, 3) := by decide +kernel
theorem dX10_bay_62 : decode cX10_bay 62 = .ok (.istore_n 1, 1) := by decide +kernel
theorem dX10_bay_63 : decode cX10_bay 63 = .ok (.goto (-16), 3) := by decide +kernel
theorem dX10_bay_66 : decode cX10_bay 66 = .ok (.aload_n 0, 1) := by decide +kernel
theorem dX10_bay_67 : decode cX10_bay 67 = .ok (.iconst 0, 1) := by decide +kernel
theorem dX10_bay_68 : decode cX10_bay 68 = .ok (.putfield 112, 3) := by decide +kernel
theorem dX10_bay_71 : decode cX10_bay 71 = .ok (.iload_n 1, 1) := by decide +kernel
theorem dX10_bay_72 : decode cX10_bay 72 = .ok (.ifCond .le 8, 3) := by decide +kernel
theorem dX10_bay_75 : decode cX10_bay 75 = .ok (.bipush (-10), 2) := by decide +kernel
theorem dX10_bay_77 : decode cX10_bay 77 = .ok (.iload_n 1, 1) := by decide +kernel
theorem dX10_bay_78 : decode cX10_bay 78 = .ok (.isub, 1) := by decide +kernel
theorem dX10_bay_79 : decode cX10_bay 79 = .ok (.ireturn, 1) := by decide +kernel
theorem dX10_bay_80 : decode cX10_bay 80 = .ok (.aload_n 0, 1) := by decide +kernel
theorem dX10_bay_81 : decode cX10_bay 81 = .ok (.invokevirtual 182, 3) := by decide +kernel
theorem dX10_bay_84 : decode cX10_bay 84 = .ok (.aload_n 0, 1) := by decide +kernel
theorem dX10_bay_85 : decode cX10_bay 85 = .ok (.iconst 0, 1) := by decide +kernel
theorem dX10_bay_86 : decode cX10_bay 86 = .ok (.putfield 185, 3) := by decide +kernel
theorem dX10_bay_89 : decode cX10_bay 89 = .ok (.aload_n 0, 1) := by decide +kernel
theorem dX10_bay_90 : decode cX10_bay 90 = .ok (.iconst 0, 1) := by decide +kernel
theorem dX10_bay_91 : decode cX10_bay 91 = .ok (.putfield 188, 3) := by decide +kernel
theorem dX10_bay_94 : decode cX10_bay 94 = .ok (.aload_n 0, 1) := by decide +kernel
theorem dX10_bay_95 : decode cX10_bay 95 = .ok (.iconst 0, 1) := by decide +kernel
theorem dX10_bay_96 : decode cX10_bay 96 = .ok (.putfield 191, 3) := by decide +kernel
theorem dX10_bay_99 : decode cX10_bay 99 = .ok (.aload_n 0, 1) := by decide +kernel
theorem dX10_bay_100 : decode cX10_bay 100 = .ok (.getfield 96, 3) := by decide +kernel
theorem dX10_bay_103 : decode cX10_bay 103 = .ok (.iconst 0, 1) := by decide +kernel
theorem dX10_bay_104 : decode cX10_bay 104 = .ok (.iconst 0, 1) := by decide +kernel
theorem dX10_bay_105 : decode cX10_bay 105 = .ok (.bastore, 1) := by decide +kernel
theorem dX10_bay_106 : decode cX10_bay 106 = .ok (.aload_n 0, 1) := by decide +kernel
theorem dX10_bay_107 : decode cX10_bay 107 = .ok (.getfield 96, 3) := by decide +kernel
theorem dX10_bay_110 : decode cX10_bay 110 = .ok (.iconst 1, 1) := by decide +kernel
theorem dX10_bay_111 : decode cX10_bay 111 = .ok (.iconst 0, 1) := by decide +kernel
theorem dX10_bay_112 : decode cX10_bay 112 = .ok (.bastore, 1) := by decide +kernel
theorem dX10_bay_113 : decode cX10_bay 113 = .ok (.aload_n 0, 1) := by decide +kernel
theorem dX10_bay_114 : decode cX10_bay 114 = .ok (.getfield 102, 3) := by decide +kernel
theorem dX10_bay_117 : decode cX10_bay 117 = .ok (.ireturn, 1) := by decide +kernel
theorem dX10_fault_0 : decode cX10_fault 0 = .ok (.aload_n 0, 1) := by decide +kernel
theorem dX10_fault_1 : decode cX10_fault 1 = .ok (.getfield 35, 3) := by decide +kernel
theorem dX10_fault_4 : decode cX10_fault 4 = .ok (.ireturn, 1) := by decide +kernel
theorem dX10_isGreen_0 : decode cX10_isGreen 0 = .ok (.iconst 0, 1) := by decide +kernel
theorem dX10_isGreen_1 : decode cX10_isGreen 1 = .ok (.istore_n 2, 1) := by decide +kernel
theorem dX10_isGreen_2 : decode cX10_isGreen 2 = .ok (.iconst 0, 1) := by decide +kernel
theorem dX10_isGreen_3 : decode cX10_isGreen 3 = .ok (.istore_n 3, 1) := by decide +kernel
theorem dX10_isGreen_4 : decode cX10_isGreen 4 = .ok (.iload_n 3, 1) := by decide +kernel
theorem dX10_isGreen_5 : decode cX10_isGreen 5 = .ok (.aload_n 0, 1) := by decide +kernel
theorem dX10_isGreen_6 : decode cX10_isGreen 6 = .ok (.getfield 16, 3) := by decide +kernel
theorem dX10_isGreen_9 : decode cX10_isGreen 9 = .ok (.iload_n 1, 1) := by decide +kernel
theorem dX10_isGreen_10 : decode cX10_isGreen 10 = .ok (.iaload, 1) := by decide +kernel
theorem dX10_isGreen_11 : decode cX10_isGreen 11 = .ok (.if_icmp .ge 33, 3) := by decide +kernel
theorem dX10_isGreen_14 : decode cX10_isGreen 14 = .ok (.iload_n 2, 1) := by decide +kernel
theorem dX10_isGreen_15 : decode cX10_isGreen 15 = .ok (.ifCond .ne 17, 3) := by decide +kernel
theorem dX10_isGreen_18 : decode cX10_isGreen 18 = .ok (.aload_n 0, 1) := by decide +kernel
theorem dX10_isGreen_19 : decode cX10_isGreen 19 = .ok (.getfield 19, 3) := by decide +kernel
theorem dX10_isGreen_22 : decode cX10_isGreen 22 = .ok (.iconst 5, 1) := by decide +kernel
theorem dX10_isGreen_23 : decode cX10_isGreen 23 = .ok (.iload_n 1, 1) := by decide +kernel
theorem dX10_isGreen_24 : decode cX10_isGreen 24 = .ok (.imul, 1) := by decide +kernel
theorem dX10_isGreen_25 : decode cX10_isGreen 25 = .ok (.iload_n 3, 1) := by decide +kernel
theorem dX10_isGreen_26 : decode cX10_isGreen 26 = .ok (.iadd, 1) := by decide +kernel
theorem dX10_isGreen_27 : decode cX10_isGreen 27 = .ok (.iaload, 1) := by decide +kernel
theorem dX10_isGreen_28 : decode cX10_isGreen 28 = .ok (.iconst 3, 1) := by decide +kernel
theorem dX10_isGreen_29 : decode cX10_isGreen 29 = .ok (.if_icmp .ne 7, 3) := by decide +kernel
theorem dX10_isGreen_32 : decode cX10_isGreen 32 = .ok (.iconst 1, 1) := by decide +kernel
theorem dX10_isGreen_33 : decode cX10_isGreen 33 = .ok (.goto 4, 3) := by decide +kernel
theorem dX10_isGreen_36 : decode cX10_isGreen 36 = .ok (.iconst 0, 1) := by decide +kernel
theorem dX10_isGreen_37 : decode cX10_isGreen 37 = .ok (.istore_n 2, 1) := by decide +kernel
theorem dX10_isGreen_38 : decode cX10_isGreen 38 = .ok (.iinc 3 1, 3) := by decide +kernel
theorem dX10_isGreen_41 : decode cX10_isGreen 41 = .ok (.goto (-37), 3) := by decide +kernel
theorem dX10_isGreen_44 : decode cX10_isGreen 44 = .ok (.iload_n 2, 1) := by decide +kernel
theorem dX10_isGreen_45 : decode cX10_isGreen 45 = .ok (.ireturn, 1) := by decide +kernel
theorem dX10_contracts_0 : decode cX10_contracts 0 = .ok (.iconst 0, 1) := by decide +kernel
theorem dX10_contracts_1 : decode cX10_contracts 1 = .ok (.istore_n 2, 1) := by decide +kernel
theorem dX10_contracts_2 : decode cX10_contracts 2 = .ok (.iconst 0, 1) := by decide +kernel
theorem dX10_contracts_3 : decode cX10_contracts 3 = .ok (.istore_n 3, 1) := by decide +kernel
theorem dX10_contracts_4 : decode cX10_contracts 4 = .ok (.iload_n 3, 1) := by decide +kernel
theorem dX10_contracts_5 : decode cX10_contracts 5 = .ok (.aload_n 0, 1) := by decide +kernel
theorem dX10_contracts_6 : decode cX10_contracts 6 = .ok (.getfield 102, 3) := by decide +kernel
theorem dX10_contracts_9 : decode cX10_contracts 9 = .ok (.if_icmp .ge 75, 3) := by decide +kernel
theorem dX10_contracts_12 : decode cX10_contracts 12 = .ok (.iload_n 3, 1) := by decide +kernel
theorem dX10_contracts_13 : decode cX10_contracts 13 = .ok (.iconst 1, 1) := by decide +kernel
theorem dX10_contracts_14 : decode cX10_contracts 14 = .ok (.iadd, 1) := by decide +kernel
theorem dX10_contracts_15 : decode cX10_contracts 15 = .ok (.istore 4, 2) := by decide +kernel
theorem dX10_contracts_17 : decode cX10_contracts 17 = .ok (.iload 4, 2) := by decide +kernel
theorem dX10_contracts_19 : decode cX10_contracts 19 = .ok (.aload_n 0, 1) := by decide +kernel
theorem dX10_contracts_20 : decode cX10_contracts 20 = .ok (.getfield 102, 3) := by decide +kernel
theorem dX10_contracts_23 : decode cX10_contracts 23 = .ok (.if_icmp .ge 55, 3) := by decide +kernel
theorem dX10_contracts_26 : decode cX10_contracts 26 = .ok (.iload_n 2, 1) := by decide +kernel
theorem dX10_contracts_27 : decode cX10_contracts 27 = .ok (.aload_n 0, 1) := by decide +kernel
theorem dX10_contracts_28 : decode cX10_contracts 28 = .ok (.getfield 29, 3) := by decide +kernel
theorem dX10_contracts_31 : decode cX10_contracts 31 = .ok (.bipush 35, 2) := by decide +kernel
theorem dX10_contracts_33 : decode cX10_contracts 33 = .ok (.iload_n 3, 1) := by decide +kernel
theorem dX10_contracts_34 : decode cX10_contracts 34 = .ok (.iadd, 1) := by decide +kernel
theorem dX10_contracts_35 : decode cX10_contracts 35 = .ok (.iaload, 1) := by decide +kernel
theorem dX10_contracts_36 : decode cX10_contracts 36 = .ok (.iload 4, 2) := by decide +kernel
theorem dX10_contracts_38 : decode cX10_contracts 38 = .ok (.invokestatic 194, 3) := by decide +kernel
theorem dX10_contracts_41 : decode cX10_contracts 41 = .ok (.ifCond .eq 28, 3) := by decide +kernel
theorem dX10_contracts_44 : decode cX10_contracts 44 = .ok (.iload_n 1, 1) := by decide +kernel
theorem dX10_contracts_45 : decode cX10_contracts 45 = .ok (.ifCond .eq 20, 3) := by decide +kernel
theorem dX10_contracts_48 : decode cX10_contracts 48 = .ok (.aload_n 0, 1) := by decide +kernel
theorem dX10_contracts_49 : decode cX10_contracts 49 = .ok (.iload_n 3, 1) := by decide +kernel
theorem dX10_contracts_50 : decode cX10_contracts 50 = .ok (.invokevirtual 197, 3) := by decide +kernel
theorem dX10_contracts_53 : decode cX10_contracts 53 = .ok (.ifCond .ne 12, 3) := by decide +kernel
theorem dX10_contracts_56 : decode cX10_contracts 56 = .ok (.aload_n 0, 1) := by decide +kernel
theorem dX10_contracts_57 : decode cX10_contracts 57 = .ok (.iload 4, 2) := by decide +kernel
theorem dX10_contracts_59 : decode cX10_contracts 59 = .ok (.invokevirtual 197, 3) := by decide +kernel
theorem dX10_contracts_62 : decode cX10_contracts 62 = .ok (.ifCond .eq 7, 3) := by decide +kernel
theorem dX10_contracts_65 : decode cX10_contracts 65 = .ok (.iconst 1, 1) := by decide +kernel
theorem dX10_contracts_66 : decode cX10_contracts 66 = .ok (.goto 4, 3) := by decide +kernel
theorem dX10_contracts_69 : decode cX10_contracts 69 = .ok (.iconst 0, 1) := by decide +kernel
theorem dX10_contracts_70 : decode cX10_contracts 70 = .ok (.iadd, 1) := by decide +kernel
theorem dX10_contracts_71 : decode cX10_contracts 71 = .ok (.istore_n 2, 1) := by decide +kernel
theorem dX10_contracts_72 : decode cX10_contracts 72 = .ok (.iinc 4 1, 3) := by decide +kernel
theorem dX10_contracts_75 : decode cX10_contracts 75 = .ok (.goto (-58), 3) := by decide +kernel
theorem dX10_contracts_78 : decode cX10_contracts 78 = .ok (.iinc 3 1, 3) := by decide +kernel
theorem dX10_contracts_81 : decode cX10_contracts 81 = .ok (.goto (-77), 3) := by decide +kernel
theorem dX10_contracts_84 : decode cX10_contracts 84 = .ok (.iload_n 2, 1) := by decide +kernel
theorem dX10_contracts_85 : decode cX10_contracts 85 = .ok (.ireturn, 1) := by decide +kernel
theorem dX10_told_0 : decode cX10_told 0 = .ok (.iload_n 1, 1) := by decide +kernel
theorem dX10_told_1 : decode cX10_told 1 = .ok (.tableswitch 140 0 12 #[67, 72, 79, 86, 91, 96, 101, 106, 113, 119, 125, 130, 135], 67) := by decide +kernel
theorem dX10_told_68 : decode cX10_told 68 = .ok (.aload_n 0, 1) := by decide +kernel
theorem dX10_told_69 : decode cX10_told 69 = .ok (.getfield 99, 3) := by decide +kernel
theorem dX10_told_72 : decode cX10_told 72 = .ok (.ireturn, 1) := by decide +kernel
theorem dX10_told_73 : decode cX10_told 73 = .ok (.aload_n 0, 1) := by decide +kernel
theorem dX10_told_74 : decode cX10_told 74 = .ok (.getfield 29, 3) := by decide +kernel
theorem dX10_told_77 : decode cX10_told 77 = .ok (.iconst 0, 1) := by decide +kernel
theorem dX10_told_78 : decode cX10_told 78 = .ok (.iaload, 1) := by decide +kernel
theorem dX10_told_79 : decode cX10_told 79 = .ok (.ireturn, 1) := by decide +kernel
theorem dX10_told_80 : decode cX10_told 80 = .ok (.aload_n 0, 1) := by decide +kernel
theorem dX10_told_81 : decode cX10_told 81 = .ok (.getfield 29, 3) := by decide +kernel
theorem dX10_told_84 : decode cX10_told 84 = .ok (.iconst 1, 1) := by decide +kernel
theorem dX10_told_85 : decode cX10_told 85 = .ok (.iaload, 1) := by decide +kernel
theorem dX10_told_86 : decode cX10_told 86 = .ok (.ireturn, 1) := by decide +kernel
theorem dX10_told_87 : decode cX10_told 87 = .ok (.aload_n 0, 1) := by decide +kernel
theorem dX10_told_88 : decode cX10_told 88 = .ok (.getfield 102, 3) := by decide +kernel
theorem dX10_told_91 : decode cX10_told 91 = .ok (.ireturn, 1) := by decide +kernel
theorem dX10_told_92 : decode cX10_told 92 = .ok (.aload_n 0, 1) := by decide +kernel
theorem dX10_told_93 : decode cX10_told 93 = .ok (.getfield 22, 3) := by decide +kernel
theorem dX10_told_96 : decode cX10_told 96 = .ok (.ireturn, 1) := by decide +kernel
theorem dX10_told_97 : decode cX10_told 97 = .ok (.aload_n 0, 1) := by decide +kernel
theorem dX10_told_98 : decode cX10_told 98 = .ok (.getfield 26, 3) := by decide +kernel
theorem dX10_told_101 : decode cX10_told 101 = .ok (.ireturn, 1) := by decide +kernel
theorem dX10_told_102 : decode cX10_told 102 = .ok (.aload_n 0, 1) := by decide +kernel
theorem dX10_told_103 : decode cX10_told 103 = .ok (.getfield 112, 3) := by decide +kernel
theorem dX10_told_106 : decode cX10_told 106 = .ok (.ireturn, 1) := by decide +kernel
theorem dX10_told_107 : decode cX10_told 107 = .ok (.aload_n 0, 1) := by decide +kernel
theorem dX10_told_108 : decode cX10_told 108 = .ok (.getfield 29, 3) := by decide +kernel
theorem dX10_told_111 : decode cX10_told 111 = .ok (.iconst 2, 1) := by decide +kernel
theorem dX10_told_112 : decode cX10_told 112 = .ok (.iaload, 1) := by decide +kernel
theorem dX10_told_113 : decode cX10_told 113 = .ok (.ireturn, 1) := by decide +kernel
theorem dX10_told_114 : decode cX10_told 114 = .ok (.aload_n 0, 1) := by decide +kernel
theorem dX10_told_115 : decode cX10_told 115 = .ok (.iconst 0, 1) := by decide +kernel
theorem dX10_told_116 : decode cX10_told 116 = .ok (.invokevirtual 200, 3) := by decide +kernel
theorem dX10_told_119 : decode cX10_told 119 = .ok (.ireturn, 1) := by decide +kernel
theorem dX10_told_120 : decode cX10_told 120 = .ok (.aload_n 0, 1) := by decide +kernel
theorem dX10_told_121 : decode cX10_told 121 = .ok (.iconst 1, 1) := by decide +kernel
theorem dX10_told_122 : decode cX10_told 122 = .ok (.invokevirtual 200, 3) := by decide +kernel
theorem dX10_told_125 : decode cX10_told 125 = .ok (.ireturn, 1) := by decide +kernel
theorem dX10_told_126 : decode cX10_told 126 = .ok (.aload_n 0, 1) := by decide +kernel
theorem dX10_told_127 : decode cX10_told 127 = .ok (.getfield 185, 3) := by decide +kernel
theorem dX10_told_130 : decode cX10_told 130 = .ok (.ireturn, 1) := by decide +kernel
theorem dX10_told_131 : decode cX10_told 131 = .ok (.aload_n 0, 1) := by decide +kernel
theorem dX10_told_132 : decode cX10_told 132 = .ok (.getfield 188, 3) := by decide +kernel
theorem dX10_told_135 : decode cX10_told 135 = .ok (.ireturn, 1) := by decide +kernel
theorem dX10_told_136 : decode cX10_told 136 = .ok (.aload_n 0, 1) := by decide +kernel
theorem dX10_told_137 : decode cX10_told 137 = .ok (.getfield 191, 3) := by decide +kernel
theorem dX10_told_140 : decode cX10_told 140 = .ok (.ireturn, 1) := by decide +kernel
theorem dX10_told_141 : decode cX10_told 141 = .ok (.ldc 111, 2) := by decide +kernel
theorem dX10_told_143 : decode cX10_told 143 = .ok (.ireturn, 1) := by decide +kernel
theorem dX10_starNumber_0 : decode cX10_starNumber 0 = .ok (.iconst 0, 1) := by decide +kernel
theorem dX10_starNumber_1 : decode cX10_starNumber 1 = .ok (.istore_n 2, 1) := by decide +kernel
theorem dX10_starNumber_2 : decode cX10_starNumber 2 = .ok (.iconst 0, 1) := by decide +kernel
theorem dX10_starNumber_3 : decode cX10_starNumber 3 = .ok (.istore_n 3, 1) := by decide +kernel
theorem dX10_starNumber_4 : decode cX10_starNumber 4 = .ok (.iload_n 3, 1) := by decide +kernel
theorem dX10_starNumber_5 : decode cX10_starNumber 5 = .ok (.aload_n 0, 1) := by decide +kernel
theorem dX10_starNumber_6 : decode cX10_starNumber 6 = .ok (.getfield 16, 3) := by decide +kernel
theorem dX10_starNumber_9 : decode cX10_starNumber 9 = .ok (.iload_n 1, 1) := by decide +kernel
theorem dX10_starNumber_10 : decode cX10_starNumber 10 = .ok (.iaload, 1) := by decide +kernel
theorem dX10_starNumber_11 : decode cX10_starNumber 11 = .ok (.if_icmp .ge 25, 3) := by decide +kernel
theorem dX10_starNumber_14 : decode cX10_starNumber 14 = .ok (.bipush 10, 2) := by decide +kernel
theorem dX10_starNumber_16 : decode cX10_starNumber 16 = .ok (.iload_n 2, 1) := by decide +kernel
theorem dX10_starNumber_17 : decode cX10_starNumber 17 = .ok (.imul, 1) := by decide +kernel
theorem dX10_starNumber_18 : decode cX10_starNumber 18 = .ok (.aload_n 0, 1) := by decide +kernel
theorem dX10_starNumber_19 : decode cX10_starNumber 19 = .ok (.getfield 19, 3) := by decide +kernel
theorem dX10_starNumber_22 : decode cX10_starNumber 22 = .ok (.iconst 5, 1) := by decide +kernel
theorem dX10_starNumber_23 : decode cX10_starNumber 23 = .ok (.iload_n 1, 1) := by decide +kernel
theorem dX10_starNumber_24 : decode cX10_starNumber 24 = .ok (.imul, 1) := by decide +kernel
theorem dX10_starNumber_25 : decode cX10_starNumber 25 = .ok (.iload_n 3, 1) := by decide +kernel
theorem dX10_starNumber_26 : decode cX10_starNumber 26 = .ok (.iadd, 1) := by decide +kernel
theorem dX10_starNumber_27 : decode cX10_starNumber 27 = .ok (.iaload, 1) := by decide +kernel
theorem dX10_starNumber_28 : decode cX10_starNumber 28 = .ok (.iadd, 1) := by decide +kernel
theorem dX10_starNumber_29 : decode cX10_starNumber 29 = .ok (.istore_n 2, 1) := by decide +kernel
theorem dX10_starNumber_30 : decode cX10_starNumber 30 = .ok (.iinc 3 1, 3) := by decide +kernel
theorem dX10_starNumber_33 : decode cX10_starNumber 33 = .ok (.goto (-29), 3) := by decide +kernel
theorem dX10_starNumber_36 : decode cX10_starNumber 36 = .ok (.iload_n 2, 1) := by decide +kernel
theorem dX10_starNumber_37 : decode cX10_starNumber 37 = .ok (.ireturn, 1) := by decide +kernel
theorem dX10_readAs_0 : decode cX10_readAs 0 = .ok (.iload_n 1, 1) := by decide +kernel
theorem dX10_readAs_1 : decode cX10_readAs 1 = .ok (.istore_n 2, 1) := by decide +kernel
theorem dX10_readAs_2 : decode cX10_readAs 2 = .ok (.iconst 0, 1) := by decide +kernel
theorem dX10_readAs_3 : decode cX10_readAs 3 = .ok (.istore_n 3, 1) := by decide +kernel
theorem dX10_readAs_4 : decode cX10_readAs 4 = .ok (.iload_n 3, 1) := by decide +kernel
theorem dX10_readAs_5 : decode cX10_readAs 5 = .ok (.aload_n 0, 1) := by decide +kernel
theorem dX10_readAs_6 : decode cX10_readAs 6 = .ok (.getfield 102, 3) := by decide +kernel
theorem dX10_readAs_9 : decode cX10_readAs 9 = .ok (.if_icmp .ge 72, 3) := by decide +kernel
theorem dX10_readAs_12 : decode cX10_readAs 12 = .ok (.aload_n 0, 1) := by decide +kernel
theorem dX10_readAs_13 : decode cX10_readAs 13 = .ok (.getfield 13, 3) := by decide +kernel
theorem dX10_readAs_16 : decode cX10_readAs 16 = .ok (.iload_n 1, 1) := by decide +kernel
theorem dX10_readAs_17 : decode cX10_readAs 17 = .ok (.iaload, 1) := by decide +kernel
theorem dX10_readAs_18 : decode cX10_readAs 18 = .ok (.iconst 3, 1) := by decide +kernel
theorem dX10_readAs_19 : decode cX10_readAs 19 = .ok (.if_icmp .ge 62, 3) := by decide +kernel
theorem dX10_readAs_22 : decode cX10_readAs 22 = .ok (.aload_n 0, 1) := by decide +kernel
theorem dX10_readAs_23 : decode cX10_readAs 23 = .ok (.getfield 7, 3) := by decide +kernel
theorem dX10_readAs_26 : decode cX10_readAs 26 = .ok (.iload_n 3, 1) := by decide +kernel
theorem dX10_readAs_27 : decode cX10_readAs 27 = .ok (.iaload, 1) := by decide +kernel
theorem dX10_readAs_28 : decode cX10_readAs 28 = .ok (.aload_n 0, 1) := by decide +kernel
theorem dX10_readAs_29 : decode cX10_readAs 29 = .ok (.getfield 7, 3) := by decide +kernel
theorem dX10_readAs_32 : decode cX10_readAs 32 = .ok (.iload_n 1, 1) := by decide +kernel
theorem dX10_readAs_33 : decode cX10_readAs 33 = .ok (.iaload, 1) := by decide +kernel
theorem dX10_readAs_34 : decode cX10_readAs 34 = .ok (.if_icmp .le 27, 3) := by decide +kernel
theorem dX10_readAs_37 : decode cX10_readAs 37 = .ok (.iload_n 2, 1) := by decide +kernel
theorem dX10_readAs_38 : decode cX10_readAs 38 = .ok (.iload_n 1, 1) := by decide +kernel
theorem dX10_readAs_39 : decode cX10_readAs 39 = .ok (.if_icmp .eq 18, 3) := by decide +kernel
theorem dX10_readAs_42 : decode cX10_readAs 42 = .ok (.aload_n 0, 1) := by decide +kernel
theorem dX10_readAs_43 : decode cX10_readAs 43 = .ok (.getfield 7, 3) := by decide +kernel
theorem dX10_readAs_46 : decode cX10_readAs 46 = .ok (.iload_n 3, 1) := by decide +kernel
theorem dX10_readAs_47 : decode cX10_readAs 47 = .ok (.iaload, 1) := by decide +kernel
theorem dX10_readAs_48 : decode cX10_readAs 48 = .ok (.aload_n 0, 1) := by decide +kernel
theorem dX10_readAs_49 : decode cX10_readAs 49 = .ok (.getfield 7, 3) := by decide +kernel
theorem dX10_readAs_52 : decode cX10_readAs 52 = .ok (.iload_n 2, 1) := by decide +kernel
theorem dX10_readAs_53 : decode cX10_readAs 53 = .ok (.iaload, 1) := by decide +kernel
theorem dX10_readAs_54 : decode cX10_readAs 54 = .ok (.if_icmp .ge 7, 3) := by decide +kernel
theorem dX10_readAs_57 : decode cX10_readAs 57 = .ok (.iconst 1, 1) := by decide +kernel
theorem dX10_readAs_58 : decode cX10_readAs 58 = .ok (.goto 4, 3) := by decide +kernel
theorem dX10_readAs_61 : decode cX10_readAs 61 = .ok (.iconst 0, 1) := by decide +kernel
theorem dX10_readAs_62 : decode cX10_readAs 62 = .ok (.istore 4, 2) := by decide +kernel
theorem dX10_readAs_64 : decode cX10_readAs 64 = .ok (.iload 4, 2) := by decide +kernel
theorem dX10_readAs_66 : decode cX10_readAs 66 = .ok (.ifCond .eq 7, 3) := by decide +kernel
theorem dX10_readAs_69 : decode cX10_readAs 69 = .ok (.iload_n 3, 1) := by decide +kernel
theorem dX10_readAs_70 : decode cX10_readAs 70 = .ok (.goto 4, 3) := by decide +kernel
theorem dX10_readAs_73 : decode cX10_readAs 73 = .ok (.iload_n 2, 1) := by decide +kernel
theorem dX10_readAs_74 : decode cX10_readAs 74 = .ok (.istore_n 2, 1) := by decide +kernel
theorem dX10_readAs_75 : decode cX10_readAs 75 = .ok (.iinc 3 1, 3) := by decide +kernel
theorem dX10_readAs_78 : decode cX10_readAs 78 = .ok (.goto (-74), 3) := by decide +kernel
theorem dX10_readAs_81 : decode cX10_readAs 81 = .ok (.iload_n 2, 1) := by decide +kernel
theorem dX10_readAs_82 : decode cX10_readAs 82 = .ok (.ireturn, 1) := by decide +kernel
theorem dX10_house_0 : decode cX10_house 0 = .ok (.aload_n 0, 1) := by decide +kernel
theorem dX10_house_1 : decode cX10_house 1 = .ok (.iload_n 1, 1) := by decide +kernel
theorem dX10_house_2 : decode cX10_house 2 = .ok (.invokevirtual 204, 3) := by decide +kernel
theorem dX10_house_5 : decode cX10_house 5 = .ok (.ifCond .ne 6, 3) := by decide +kernel
theorem dX10_house_8 : decode cX10_house 8 = .ok (.ldc 207, 2) := by decide +kernel
theorem dX10_house_10 : decode cX10_house 10 = .ok (.ireturn, 1) := by decide +kernel
theorem dX10_house_11 : decode cX10_house 11 = .ok (.iload_n 2, 1) := by decide +kernel
theorem dX10_house_12 : decode cX10_house 12 = .ok (.tableswitch 110 0 7 #[48, 55, 62, 71, 78, 84, 94, 104], 48) := by decide +kernel
theorem dX10_house_60 : decode cX10_house 60 = .ok (.aload_n 0, 1) := by decide +kernel
theorem dX10_house_61 : decode cX10_house 61 = .ok (.getfield 7, 3) := by decide +kernel
theorem dX10_house_64 : decode cX10_house 64 = .ok (.iload_n 1, 1) := by decide +kernel
theorem dX10_house_65 : decode cX10_house 65 = .ok (.iaload, 1) := by decide +kernel
theorem dX10_house_66 : decode cX10_house 66 = .ok (.ireturn, 1) := by decide +kernel
theorem dX10_house_67 : decode cX10_house 67 = .ok (.aload_n 0, 1) := by decide +kernel
theorem dX10_house_68 : decode cX10_house 68 = .ok (.getfield 13, 3) := by decide +kernel
theorem dX10_house_71 : decode cX10_house 71 = .ok (.iload_n 1, 1) := by decide +kernel
theorem dX10_house_72 : decode cX10_house 72 = .ok (.iaload, 1) := by decide +kernel
theorem dX10_house_73 : decode cX10_house 73 = .ok (.ireturn, 1) := by decide +kernel
theorem dX10_house_74 : decode cX10_house 74 = .ok (.aload_n 0, 1) := by decide +kernel
theorem dX10_house_75 : decode cX10_house 75 = .ok (.getfield 29, 3) := by decide +kernel
theorem dX10_house_78 : decode cX10_house 78 = .ok (.iconst 3, 1) := by decide +kernel
theorem dX10_house_79 : decode cX10_house 79 = .ok (.iload_n 1, 1) := by decide +kernel
theorem dX10_house_80 : decode cX10_house 80 = .ok (.iadd, 1) := by decide +kernel
theorem dX10_house_81 : decode cX10_house 81 = .ok (.iaload, 1) := by decide +kernel
theorem dX10_house_82 : decode cX10_house 82 = .ok (.ireturn, 1) := by decide +kernel
theorem dX10_house_83 : decode cX10_house 83 = .ok (.aload_n 0, 1) := by decide +kernel
theorem dX10_house_84 : decode cX10_house 84 = .ok (.getfield 16, 3) := by decide +kernel
theorem dX10_house_87 : decode cX10_house 87 = .ok (.iload_n 1, 1) := by decide +kernel
theorem dX10_house_88 : decode cX10_house 88 = .ok (.iaload, 1) := by decide +kernel
theorem dX10_house_89 : decode cX10_house 89 = .ok (.ireturn, 1) := by decide +kernel
theorem dX10_house_90 : decode cX10_house 90 = .ok (.aload_n 0, 1) := by decide +kernel
theorem dX10_house_91 : decode cX10_house 91 = .ok (.iload_n 1, 1) := by decide +kernel
theorem dX10_house_92 : decode cX10_house 92 = .ok (.invokevirtual 208, 3) := by decide +kernel
theorem dX10_house_95 : decode cX10_house 95 = .ok (.ireturn, 1) := by decide +kernel
theorem dX10_house_96 : decode cX10_house 96 = .ok (.aload_n 0, 1) := by decide +kernel
theorem dX10_house_97 : decode cX10_house 97 = .ok (.getfield 29, 3) := by decide +kernel
theorem dX10_house_100 : decode cX10_house 100 = .ok (.bipush 11, 2) := by decide +kernel
theorem dX10_house_102 : decode cX10_house 102 = .ok (.iload_n 1, 1) := by decide +kernel
theorem dX10_house_103 : decode cX10_house 103 = .ok (.iadd, 1) := by decide +kernel
theorem dX10_house_104 : decode cX10_house 104 = .ok (.iaload, 1) := by decide +kernel
theorem dX10_house_105 : decode cX10_house 105 = .ok (.ireturn, 1) := by decide +kernel
theorem dX10_house_106 : decode cX10_house 106 = .ok (.aload_n 0, 1) := by decide +kernel
theorem dX10_house_107 : decode cX10_house 107 = .ok (.getfield 29, 3) := by decide +kernel
theorem dX10_house_110 : decode cX10_house 110 = .ok (.bipush 19, 2) := by decide +kernel
theorem dX10_house_112 : decode cX10_house 112 = .ok (.iload_n 1, 1) := by decide +kernel
theorem dX10_house_113 : decode cX10_house 113 = .ok (.iadd, 1) := by decide +kernel
theorem dX10_house_114 : decode cX10_house 114 = .ok (.iaload, 1) := by decide +kernel
theorem dX10_house_115 : decode cX10_house 115 = .ok (.ireturn, 1) := by decide +kernel
theorem dX10_house_116 : decode cX10_house 116 = .ok (.aload_n 0, 1) := by decide +kernel
theorem dX10_house_117 : decode cX10_house 117 = .ok (.iload_n 1, 1) := by decide +kernel
theorem dX10_house_118 : decode cX10_house 118 = .ok (.invokevirtual 211, 3) := by decide +kernel
theorem dX10_house_121 : decode cX10_house 121 = .ok (.ireturn, 1) := by decide +kernel
theorem dX10_house_122 : decode cX10_house 122 = .ok (.ldc 111, 2) := by decide +kernel
theorem dX10_house_124 : decode cX10_house 124 = .ok (.ireturn, 1) := by decide +kernel
theorem dX10_overOf_0 : decode cX10_overOf 0 = .ok (.aload_n 0, 1) := by decide +kernel
theorem dX10_overOf_1 : decode cX10_overOf 1 = .ok (.getfield 7, 3) := by decide +kernel
theorem dX10_overOf_4 : decode cX10_overOf 4 = .ok (.iload_n 1, 1) := by decide +kernel
theorem dX10_overOf_5 : decode cX10_overOf 5 = .ok (.iaload, 1) := by decide +kernel
theorem dX10_overOf_6 : decode cX10_overOf 6 = .ok (.aload_n 0, 1) := by decide +kernel
theorem dX10_overOf_7 : decode cX10_overOf 7 = .ok (.getfield 29, 3) := by decide +kernel
theorem dX10_overOf_10 : decode cX10_overOf 10 = .ok (.iconst 1, 1) := by decide +kernel
theorem dX10_overOf_11 : decode cX10_overOf 11 = .ok (.iaload, 1) := by decide +kernel
theorem dX10_overOf_12 : decode cX10_overOf 12 = .ok (.iadd, 1) := by decide +kernel
theorem dX10_overOf_13 : decode cX10_overOf 13 = .ok (.istore_n 2, 1) := by decide +kernel
theorem dX10_overOf_14 : decode cX10_overOf 14 = .ok (.iload_n 2, 1) := by decide +kernel
theorem dX10_overOf_15 : decode cX10_overOf 15 = .ok (.ifCond .ge 7, 3) := by decide +kernel
theorem dX10_overOf_18 : decode cX10_overOf 18 = .ok (.iconst 0, 1) := by decide +kernel
theorem dX10_overOf_19 : decode cX10_overOf 19 = .ok (.goto 21, 3) := by decide +kernel
theorem dX10_overOf_22 : decode cX10_overOf 22 = .ok (.iload_n 2, 1) := by decide +kernel
theorem dX10_overOf_23 : decode cX10_overOf 23 = .ok (.aload_n 0, 1) := by decide +kernel
theorem dX10_overOf_24 : decode cX10_overOf 24 = .ok (.getfield 99, 3) := by decide +kernel
theorem dX10_overOf_27 : decode cX10_overOf 27 = .ok (.if_icmp .lt 12, 3) := by decide +kernel
theorem dX10_overOf_30 : decode cX10_overOf 30 = .ok (.aload_n 0, 1) := by decide +kernel
theorem dX10_overOf_31 : decode cX10_overOf 31 = .ok (.getfield 99, 3) := by decide +kernel
theorem dX10_overOf_34 : decode cX10_overOf 34 = .ok (.iconst 1, 1) := by decide +kernel
theorem dX10_overOf_35 : decode cX10_overOf 35 = .ok (.isub, 1) := by decide +kernel
theorem dX10_overOf_36 : decode cX10_overOf 36 = .ok (.goto 4, 3) := by decide +kernel
theorem dX10_overOf_39 : decode cX10_overOf 39 = .ok (.iload_n 2, 1) := by decide +kernel
theorem dX10_overOf_40 : decode cX10_overOf 40 = .ok (.ireturn, 1) := by decide +kernel
theorem dX10_isHidden_0 : decode cX10_isHidden 0 = .ok (.iconst 0, 1) := by decide +kernel
theorem dX10_isHidden_1 : decode cX10_isHidden 1 = .ok (.istore_n 3, 1) := by decide +kernel
theorem dX10_isHidden_2 : decode cX10_isHidden 2 = .ok (.iconst 0, 1) := by decide +kernel
theorem dX10_isHidden_3 : decode cX10_isHidden 3 = .ok (.istore 4, 2) := by decide +kernel
theorem dX10_isHidden_5 : decode cX10_isHidden 5 = .ok (.iload 4, 2) := by decide +kernel
theorem dX10_isHidden_7 : decode cX10_isHidden 7 = .ok (.aload_n 0, 1) := by decide +kernel
theorem dX10_isHidden_8 : decode cX10_isHidden 8 = .ok (.getfield 102, 3) := by decide +kernel
theorem dX10_isHidden_11 : decode cX10_isHidden 11 = .ok (.if_icmp .ge 76, 3) := by decide +kernel
theorem dX10_isHidden_14 : decode cX10_isHidden 14 = .ok (.iload_n 3, 1) := by decide +kernel
theorem dX10_isHidden_15 : decode cX10_isHidden 15 = .ok (.ifCond .ne 60, 3) := by decide +kernel
theorem dX10_isHidden_18 : decode cX10_isHidden 18 = .ok (.iload 4, 2) := by decide +kernel
theorem dX10_isHidden_20 : decode cX10_isHidden 20 = .ok (.iload_n 1, 1) := by decide +kernel
theorem dX10_isHidden_21 : decode cX10_isHidden 21 = .ok (.if_icmp .eq 58, 3) := by decide +kernel
theorem dX10_isHidden_24 : decode cX10_isHidden 24 = .ok (.aload_n 0, 1) := by decide +kernel
theorem dX10_isHidden_25 : decode cX10_isHidden 25 = .ok (.getfield 29, 3) := by decide +kernel
theorem dX10_isHidden_28 : decode cX10_isHidden 28 = .ok (.bipush 19, 2) := by decide +kernel
theorem dX10_isHidden_30 : decode cX10_isHidden 30 = .ok (.iload 4, 2) := by decide +kernel
theorem dX10_isHidden_32 : decode cX10_isHidden 32 = .ok (.iadd, 1) := by decide +kernel
theorem dX10_isHidden_33 : decode cX10_isHidden 33 = .ok (.iaload, 1) := by decide +kernel
theorem dX10_isHidden_34 : decode cX10_isHidden 34 = .ok (.iload_n 2, 1) := by decide +kernel
theorem dX10_isHidden_35 : decode cX10_isHidden 35 = .ok (.if_icmp .ne 44, 3) := by decide +kernel
theorem dX10_isHidden_38 : decode cX10_isHidden 38 = .ok (.aload_n 0, 1) := by decide +kernel
theorem dX10_isHidden_39 : decode cX10_isHidden 39 = .ok (.getfield 29, 3) := by decide +kernel
theorem dX10_isHidden_42 : decode cX10_isHidden 42 = .ok (.bipush 11, 2) := by decide +kernel
theorem dX10_isHidden_44 : decode cX10_isHidden 44 = .ok (.iload 4, 2) := by decide +kernel
theorem dX10_isHidden_46 : decode cX10_isHidden 46 = .ok (.iadd, 1) := by decide +kernel
theorem dX10_isHidden_47 : decode cX10_isHidden 47 = .ok (.iaload, 1) := by decide +kernel
theorem dX10_isHidden_48 : decode cX10_isHidden 48 = .ok (.ifCond .lt 31, 3) := by decide +kernel
theorem dX10_isHidden_51 : decode cX10_isHidden 51 = .ok (.aload_n 0, 1) := by decide +kernel
theorem dX10_isHidden_52 : decode cX10_isHidden 52 = .ok (.getfield 29, 3) := by decide +kernel
theorem dX10_isHidden_55 : decode cX10_isHidden 55 = .ok (.iconst 2, 1) := by decide +kernel
theorem dX10_isHidden_56 : decode cX10_isHidden 56 = .ok (.iaload, 1) := by decide +kernel
theorem dX10_isHidden_57 : decode cX10_isHidden 57 = .ok (.aload_n 0, 1) := by decide +kernel
theorem dX10_isHidden_58 : decode cX10_isHidden 58 = .ok (.getfield 29, 3) := by decide +kernel
theorem dX10_isHidden_61 : decode cX10_isHidden 61 = .ok (.bipush 11, 2) := by decide +kernel
theorem dX10_isHidden_63 : decode cX10_isHidden 63 = .ok (.iload 4, 2) := by decide +kernel
theorem dX10_isHidden_65 : decode cX10_isHidden 65 = .ok (.iadd, 1) := by decide +kernel
theorem dX10_isHidden_66 : decode cX10_isHidden 66 = .ok (.iaload, 1) := by decide +kernel
theorem dX10_isHidden_67 : decode cX10_isHidden 67 = .ok (.isub, 1) := by decide +kernel
theorem dX10_isHidden_68 : decode cX10_isHidden 68 = .ok (.aload_n 0, 1) := by decide +kernel
theorem dX10_isHidden_69 : decode cX10_isHidden 69 = .ok (.getfield 22, 3) := by decide +kernel
theorem dX10_isHidden_72 : decode cX10_isHidden 72 = .ok (.if_icmp .gt 7, 3) := by decide +kernel
theorem dX10_isHidden_75 : decode cX10_isHidden 75 = .ok (.iconst 1, 1) := by decide +kernel
theorem dX10_isHidden_76 : decode cX10_isHidden 76 = .ok (.goto 4, 3) := by decide +kernel
theorem dX10_isHidden_79 : decode cX10_isHidden 79 = .ok (.iconst 0, 1) := by decide +kernel
theorem dX10_isHidden_80 : decode cX10_isHidden 80 = .ok (.istore_n 3, 1) := by decide +kernel
theorem dX10_isHidden_81 : decode cX10_isHidden 81 = .ok (.iinc 4 1, 3) := by decide +kernel
theorem dX10_isHidden_84 : decode cX10_isHidden 84 = .ok (.goto (-79), 3) := by decide +kernel
theorem dX10_isHidden_87 : decode cX10_isHidden 87 = .ok (.iload_n 3, 1) := by decide +kernel
theorem dX10_isHidden_88 : decode cX10_isHidden 88 = .ok (.ireturn, 1) := by decide +kernel
theorem dX10_reach_0 : decode cX10_reach 0 = .ok (.aload_n 0, 1) := by decide +kernel
theorem dX10_reach_1 : decode cX10_reach 1 = .ok (.getfield 13, 3) := by decide +kernel
theorem dX10_reach_4 : decode cX10_reach 4 = .ok (.iload_n 1, 1) := by decide +kernel
theorem dX10_reach_5 : decode cX10_reach 5 = .ok (.iaload, 1) := by decide +kernel
theorem dX10_reach_6 : decode cX10_reach 6 = .ok (.iconst 3, 1) := by decide +kernel
theorem dX10_reach_7 : decode cX10_reach 7 = .ok (.iadd, 1) := by decide +kernel
theorem dX10_reach_8 : decode cX10_reach 8 = .ok (.aload_n 0, 1) := by decide +kernel
theorem dX10_reach_9 : decode cX10_reach 9 = .ok (.getfield 29, 3) := by decide +kernel
theorem dX10_reach_12 : decode cX10_reach 12 = .ok (.iconst 0, 1) := by decide +kernel
theorem dX10_reach_13 : decode cX10_reach 13 = .ok (.iaload, 1) := by decide +kernel
theorem dX10_reach_14 : decode cX10_reach 14 = .ok (.iconst 2, 1) := by decide +kernel
theorem dX10_reach_15 : decode cX10_reach 15 = .ok (.idiv, 1) := by decide +kernel
theorem dX10_reach_16 : decode cX10_reach 16 = .ok (.isub, 1) := by decide +kernel
theorem dX10_reach_17 : decode cX10_reach 17 = .ok (.ireturn, 1) := by decide +kernel
theorem dX10_seers_0 : decode cX10_seers 0 = .ok (.aload_n 0, 1) := by decide +kernel
theorem dX10_seers_1 : decode cX10_seers 1 = .ok (.iload_n 1, 1) := by decide +kernel
theorem dX10_seers_2 : decode cX10_seers 2 = .ok (.invokevirtual 214, 3) := by decide +kernel
theorem dX10_seers_5 : decode cX10_seers 5 = .ok (.istore_n 2, 1) := by decide +kernel
theorem dX10_seers_6 : decode cX10_seers 6 = .ok (.iconst 0, 1) := by decide +kernel
theorem dX10_seers_7 : decode cX10_seers 7 = .ok (.istore_n 3, 1) := by decide +kernel
theorem dX10_seers_8 : decode cX10_seers 8 = .ok (.iconst 0, 1) := by decide +kernel
theorem dX10_seers_9 : decode cX10_seers 9 = .ok (.istore 4, 2) := by decide +kernel
theorem dX10_seers_11 : decode cX10_seers 11 = .ok (.iload 4, 2) := by decide +kernel
theorem dX10_seers_13 : decode cX10_seers 13 = .ok (.aload_n 0, 1) := by decide +kernel
theorem dX10_seers_14 : decode cX10_seers 14 = .ok (.getfield 102, 3) := by decide +kernel
theorem dX10_seers_17 : decode cX10_seers 17 = .ok (.if_icmp .ge 45, 3) := by decide +kernel
theorem dX10_seers_20 : decode cX10_seers 20 = .ok (.iload_n 3, 1) := by decide +kernel
theorem dX10_seers_21 : decode cX10_seers 21 = .ok (.iload 4, 2) := by decide +kernel
theorem dX10_seers_23 : decode cX10_seers 23 = .ok (.iload_n 1, 1) := by decide +kernel
theorem dX10_seers_24 : decode cX10_seers 24 = .ok (.if_icmp .eq 29, 3) := by decide +kernel
theorem dX10_seers_27 : decode cX10_seers 27 = .ok (.iload_n 2, 1) := by decide +kernel
theorem dX10_seers_28 : decode cX10_seers 28 = .ok (.aload_n 0, 1) := by decide +kernel
theorem dX10_seers_29 : decode cX10_seers 29 = .ok (.getfield 7, 3) := by decide +kernel
theorem dX10_seers_32 : decode cX10_seers 32 = .ok (.iload 4, 2) := by decide +kernel
theorem dX10_seers_34 : decode cX10_seers 34 = .ok (.iaload, 1) := by decide +kernel
theorem dX10_seers_35 : decode cX10_seers 35 = .ok (.invokestatic 217, 3) := by decide +kernel
theorem dX10_seers_38 : decode cX10_seers 38 = .ok (.aload_n 0, 1) := by decide +kernel
theorem dX10_seers_39 : decode cX10_seers 39 = .ok (.iload_n 1, 1) := by decide +kernel
theorem dX10_seers_40 : decode cX10_seers 40 = .ok (.invokevirtual 220, 3) := by decide +kernel
theorem dX10_seers_43 : decode cX10_seers 43 = .ok (.if_icmp .gt 10, 3) := by decide +kernel
theorem dX10_seers_46 : decode cX10_seers 46 = .ok (.iconst 1, 1) := by decide +kernel
theorem dX10_seers_47 : decode cX10_seers 47 = .ok (.iload 4, 2) := by decide +kernel
theorem dX10_seers_49 : decode cX10_seers 49 = .ok (.ishl, 1) := by decide +kernel
theorem dX10_seers_50 : decode cX10_seers 50 = .ok (.goto 4, 3) := by decide +kernel
theorem dX10_seers_53 : decode cX10_seers 53 = .ok (.iconst 0, 1) := by decide +kernel
theorem dX10_seers_54 : decode cX10_seers 54 = .ok (.ior, 1) := by decide +kernel
theorem dX10_seers_55 : decode cX10_seers 55 = .ok (.istore_n 3, 1) := by decide +kernel
theorem dX10_seers_56 : decode cX10_seers 56 = .ok (.iinc 4 1, 3) := by decide +kernel
theorem dX10_seers_59 : decode cX10_seers 59 = .ok (.goto (-48), 3) := by decide +kernel
theorem dX10_seers_62 : decode cX10_seers 62 = .ok (.aload_n 0, 1) := by decide +kernel
theorem dX10_seers_63 : decode cX10_seers 63 = .ok (.iload_n 1, 1) := by decide +kernel
theorem dX10_seers_64 : decode cX10_seers 64 = .ok (.iload_n 2, 1) := by decide +kernel
theorem dX10_seers_65 : decode cX10_seers 65 = .ok (.invokevirtual 223, 3) := by decide +kernel
theorem dX10_seers_68 : decode cX10_seers 68 = .ok (.ifCond .eq 7, 3) := by decide +kernel
theorem dX10_seers_71 : decode cX10_seers 71 = .ok (.iconst 0, 1) := by decide +kernel
theorem dX10_seers_72 : decode cX10_seers 72 = .ok (.goto 4, 3) := by decide +kernel
theorem dX10_seers_75 : decode cX10_seers 75 = .ok (.iload_n 3, 1) := by decide +kernel
theorem dX10_seers_76 : decode cX10_seers 76 = .ok (.ireturn, 1) := by decide +kernel
theorem dX10_areTwo_0 : decode cX10_areTwo 0 = .ok (.aload_n 0, 1) := by decide +kernel
theorem dX10_areTwo_1 : decode cX10_areTwo 1 = .ok (.iload_n 1, 1) := by decide +kernel
theorem dX10_areTwo_2 : decode cX10_areTwo 2 = .ok (.invokevirtual 204, 3) := by decide +kernel
theorem dX10_areTwo_5 : decode cX10_areTwo 5 = .ok (.ifCond .eq 20, 3) := by decide +kernel
theorem dX10_areTwo_8 : decode cX10_areTwo 8 = .ok (.aload_n 0, 1) := by decide +kernel
theorem dX10_areTwo_9 : decode cX10_areTwo 9 = .ok (.iload_n 2, 1) := by decide +kernel
theorem dX10_areTwo_10 : decode cX10_areTwo 10 = .ok (.invokevirtual 204, 3) := by decide +kernel
theorem dX10_areTwo_13 : decode cX10_areTwo 13 = .ok (.ifCond .eq 12, 3) := by decide +kernel
theorem dX10_areTwo_16 : decode cX10_areTwo 16 = .ok (.iload_n 1, 1) := by decide +kernel
theorem dX10_areTwo_17 : decode cX10_areTwo 17 = .ok (.iload_n 2, 1) := by decide +kernel
theorem dX10_areTwo_18 : decode cX10_areTwo 18 = .ok (.if_icmp .eq 7, 3) := by decide +kernel
theorem dX10_areTwo_21 : decode cX10_areTwo 21 = .ok (.iconst 1, 1) := by decide +kernel
theorem dX10_areTwo_22 : decode cX10_areTwo 22 = .ok (.goto 4, 3) := by decide +kernel
theorem dX10_areTwo_25 : decode cX10_areTwo 25 = .ok (.iconst 0, 1) := by decide +kernel
theorem dX10_areTwo_26 : decode cX10_areTwo 26 = .ok (.ireturn, 1) := by decide +kernel
