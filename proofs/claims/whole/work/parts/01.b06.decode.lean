theorem dX10_treaty_16 : decode cX10_treaty 16 = .ok (.aload_n 0, 1) := by decide +kernel
theorem dX10_treaty_17 : decode cX10_treaty 17 = .ok (.getfield 102, 3) := by decide +kernel
theorem dX10_treaty_20 : decode cX10_treaty 20 = .ok (.if_icmp .ge 105, 3) := by decide +kernel
theorem dX10_treaty_23 : decode cX10_treaty 23 = .ok (.iconst 0, 1) := by decide +kernel
theorem dX10_treaty_24 : decode cX10_treaty 24 = .ok (.istore 4, 2) := by decide +kernel
theorem dX10_treaty_26 : decode cX10_treaty 26 = .ok (.iconst 0, 1) := by decide +kernel
theorem dX10_treaty_27 : decode cX10_treaty 27 = .ok (.istore 5, 2) := by decide +kernel
theorem dX10_treaty_29 : decode cX10_treaty 29 = .ok (.iload 5, 2) := by decide +kernel
theorem dX10_treaty_31 : decode cX10_treaty 31 = .ok (.aload_n 0, 1) := by decide +kernel
theorem dX10_treaty_32 : decode cX10_treaty 32 = .ok (.getfield 102, 3) := by decide +kernel
theorem dX10_treaty_35 : decode cX10_treaty 35 = .ok (.if_icmp .ge 67, 3) := by decide +kernel
theorem dX10_treaty_38 : decode cX10_treaty 38 = .ok (.iload 5, 2) := by decide +kernel
theorem dX10_treaty_40 : decode cX10_treaty 40 = .ok (.iload_n 3, 1) := by decide +kernel
theorem dX10_treaty_41 : decode cX10_treaty 41 = .ok (.if_icmp .eq 36, 3) := by decide +kernel
theorem dX10_treaty_44 : decode cX10_treaty 44 = .ok (.iload_n 1, 1) := by decide +kernel
theorem dX10_treaty_45 : decode cX10_treaty 45 = .ok (.iload 5, 2) := by decide +kernel
theorem dX10_treaty_47 : decode cX10_treaty 47 = .ok (.invokestatic 194, 3) := by decide +kernel
theorem dX10_treaty_50 : decode cX10_treaty 50 = .ok (.ifCond .eq 27, 3) := by decide +kernel
theorem dX10_treaty_53 : decode cX10_treaty 53 = .ok (.aload_n 0, 1) := by decide +kernel
theorem dX10_treaty_54 : decode cX10_treaty 54 = .ok (.iload_n 3, 1) := by decide +kernel
theorem dX10_treaty_55 : decode cX10_treaty 55 = .ok (.invokevirtual 214, 3) := by decide +kernel
theorem dX10_treaty_58 : decode cX10_treaty 58 = .ok (.aload_n 0, 1) := by decide +kernel
theorem dX10_treaty_59 : decode cX10_treaty 59 = .ok (.getfield 7, 3) := by decide +kernel
theorem dX10_treaty_62 : decode cX10_treaty 62 = .ok (.iload 5, 2) := by decide +kernel
theorem dX10_treaty_64 : decode cX10_treaty 64 = .ok (.iaload, 1) := by decide +kernel
theorem dX10_treaty_65 : decode cX10_treaty 65 = .ok (.invokestatic 217, 3) := by decide +kernel
theorem dX10_treaty_68 : decode cX10_treaty 68 = .ok (.aload_n 0, 1) := by decide +kernel
theorem dX10_treaty_69 : decode cX10_treaty 69 = .ok (.iload_n 3, 1) := by decide +kernel
theorem dX10_treaty_70 : decode cX10_treaty 70 = .ok (.invokevirtual 220, 3) := by decide +kernel
theorem dX10_treaty_73 : decode cX10_treaty 73 = .ok (.isub, 1) := by decide +kernel
theorem dX10_treaty_74 : decode cX10_treaty 74 = .ok (.goto 4, 3) := by decide +kernel
theorem dX10_treaty_77 : decode cX10_treaty 77 = .ok (.iconst 0, 1) := by decide +kernel
theorem dX10_treaty_78 : decode cX10_treaty 78 = .ok (.istore 6, 2) := by decide +kernel
theorem dX10_treaty_80 : decode cX10_treaty 80 = .ok (.iload 6, 2) := by decide +kernel
theorem dX10_treaty_82 : decode cX10_treaty 82 = .ok (.iload 4, 2) := by decide +kernel
theorem dX10_treaty_84 : decode cX10_treaty 84 = .ok (.if_icmp .le 8, 3) := by decide +kernel
theorem dX10_treaty_87 : decode cX10_treaty 87 = .ok (.iload 6, 2) := by decide +kernel
theorem dX10_treaty_89 : decode cX10_treaty 89 = .ok (.goto 5, 3) := by decide +kernel
theorem dX10_treaty_92 : decode cX10_treaty 92 = .ok (.iload 4, 2) := by decide +kernel
theorem dX10_treaty_94 : decode cX10_treaty 94 = .ok (.istore 4, 2) := by decide +kernel
theorem dX10_treaty_96 : decode cX10_treaty 96 = .ok (.iinc 5 1, 3) := by decide +kernel
theorem dX10_treaty_99 : decode cX10_treaty 99 = .ok (.goto (-70), 3) := by decide +kernel
theorem dX10_treaty_102 : decode cX10_treaty 102 = .ok (.iload_n 2, 1) := by decide +kernel
theorem dX10_treaty_103 : decode cX10_treaty 103 = .ok (.iload_n 1, 1) := by decide +kernel
theorem dX10_treaty_104 : decode cX10_treaty 104 = .ok (.iload_n 3, 1) := by decide +kernel
theorem dX10_treaty_105 : decode cX10_treaty 105 = .ok (.invokestatic 194, 3) := by decide +kernel
theorem dX10_treaty_108 : decode cX10_treaty 108 = .ok (.ifCond .eq 8, 3) := by decide +kernel
theorem dX10_treaty_111 : decode cX10_treaty 111 = .ok (.iload 4, 2) := by decide +kernel
theorem dX10_treaty_113 : decode cX10_treaty 113 = .ok (.goto 4, 3) := by decide +kernel
theorem dX10_treaty_116 : decode cX10_treaty 116 = .ok (.iconst 0, 1) := by decide +kernel
theorem dX10_treaty_117 : decode cX10_treaty 117 = .ok (.iadd, 1) := by decide +kernel
theorem dX10_treaty_118 : decode cX10_treaty 118 = .ok (.istore_n 2, 1) := by decide +kernel
theorem dX10_treaty_119 : decode cX10_treaty 119 = .ok (.iinc 3 1, 3) := by decide +kernel
theorem dX10_treaty_122 : decode cX10_treaty 122 = .ok (.goto (-107), 3) := by decide +kernel
theorem dX10_treaty_125 : decode cX10_treaty 125 = .ok (.iload_n 2, 1) := by decide +kernel
theorem dX10_treaty_126 : decode cX10_treaty 126 = .ok (.ireturn, 1) := by decide +kernel
theorem dX10_figuresOf_0 : decode cX10_figuresOf 0 = .ok (.iconst 0, 1) := by decide +kernel
theorem dX10_figuresOf_1 : decode cX10_figuresOf 1 = .ok (.istore_n 2, 1) := by decide +kernel
theorem dX10_figuresOf_2 : decode cX10_figuresOf 2 = .ok (.iload_n 1, 1) := by decide +kernel
theorem dX10_figuresOf_3 : decode cX10_figuresOf 3 = .ok (.istore_n 3, 1) := by decide +kernel
theorem dX10_figuresOf_4 : decode cX10_figuresOf 4 = .ok (.iload_n 3, 1) := by decide +kernel
theorem dX10_figuresOf_5 : decode cX10_figuresOf 5 = .ok (.ifCond .le 14, 3) := by decide +kernel
theorem dX10_figuresOf_8 : decode cX10_figuresOf 8 = .ok (.iinc 2 1, 3) := by decide +kernel
theorem dX10_figuresOf_11 : decode cX10_figuresOf 11 = .ok (.iload_n 3, 1) := by decide +kernel
theorem dX10_figuresOf_12 : decode cX10_figuresOf 12 = .ok (.bipush 10, 2) := by decide +kernel
theorem dX10_figuresOf_14 : decode cX10_figuresOf 14 = .ok (.idiv, 1) := by decide +kernel
theorem dX10_figuresOf_15 : decode cX10_figuresOf 15 = .ok (.istore_n 3, 1) := by decide +kernel
theorem dX10_figuresOf_16 : decode cX10_figuresOf 16 = .ok (.goto (-12), 3) := by decide +kernel
theorem dX10_figuresOf_19 : decode cX10_figuresOf 19 = .ok (.iload_n 1, 1) := by decide +kernel
theorem dX10_figuresOf_20 : decode cX10_figuresOf 20 = .ok (.iconst 1, 1) := by decide +kernel
theorem dX10_figuresOf_21 : decode cX10_figuresOf 21 = .ok (.if_icmp .lt 8, 3) := by decide +kernel
theorem dX10_figuresOf_24 : decode cX10_figuresOf 24 = .ok (.iload_n 2, 1) := by decide +kernel
theorem dX10_figuresOf_25 : decode cX10_figuresOf 25 = .ok (.iconst 5, 1) := by decide +kernel
theorem dX10_figuresOf_26 : decode cX10_figuresOf 26 = .ok (.if_icmp .le 5, 3) := by decide +kernel
theorem dX10_figuresOf_29 : decode cX10_figuresOf 29 = .ok (.iconst (-1), 1) := by decide +kernel
theorem dX10_figuresOf_30 : decode cX10_figuresOf 30 = .ok (.ireturn, 1) := by decide +kernel
theorem dX10_figuresOf_31 : decode cX10_figuresOf 31 = .ok (.iload_n 1, 1) := by decide +kernel
theorem dX10_figuresOf_32 : decode cX10_figuresOf 32 = .ok (.istore_n 3, 1) := by decide +kernel
theorem dX10_figuresOf_33 : decode cX10_figuresOf 33 = .ok (.iload_n 2, 1) := by decide +kernel
theorem dX10_figuresOf_34 : decode cX10_figuresOf 34 = .ok (.iconst 1, 1) := by decide +kernel
theorem dX10_figuresOf_35 : decode cX10_figuresOf 35 = .ok (.isub, 1) := by decide +kernel
theorem dX10_figuresOf_36 : decode cX10_figuresOf 36 = .ok (.istore 4, 2) := by decide +kernel
theorem dX10_figuresOf_38 : decode cX10_figuresOf 38 = .ok (.iload 4, 2) := by decide +kernel
theorem dX10_figuresOf_40 : decode cX10_figuresOf 40 = .ok (.ifCond .lt 45, 3) := by decide +kernel
theorem dX10_figuresOf_43 : decode cX10_figuresOf 43 = .ok (.aload_n 0, 1) := by decide +kernel
theorem dX10_figuresOf_44 : decode cX10_figuresOf 44 = .ok (.getfield 68, 3) := by decide +kernel
theorem dX10_figuresOf_47 : decode cX10_figuresOf 47 = .ok (.iload 4, 2) := by decide +kernel
theorem dX10_figuresOf_49 : decode cX10_figuresOf 49 = .ok (.iload_n 3, 1) := by decide +kernel
theorem dX10_figuresOf_50 : decode cX10_figuresOf 50 = .ok (.bipush 10, 2) := by decide +kernel
theorem dX10_figuresOf_52 : decode cX10_figuresOf 52 = .ok (.irem, 1) := by decide +kernel
theorem dX10_figuresOf_53 : decode cX10_figuresOf 53 = .ok (.iastore, 1) := by decide +kernel
theorem dX10_figuresOf_54 : decode cX10_figuresOf 54 = .ok (.iload_n 3, 1) := by decide +kernel
theorem dX10_figuresOf_55 : decode cX10_figuresOf 55 = .ok (.bipush 10, 2) := by decide +kernel
theorem dX10_figuresOf_57 : decode cX10_figuresOf 57 = .ok (.idiv, 1) := by decide +kernel
theorem dX10_figuresOf_58 : decode cX10_figuresOf 58 = .ok (.istore_n 3, 1) := by decide +kernel
theorem dX10_figuresOf_59 : decode cX10_figuresOf 59 = .ok (.aload_n 0, 1) := by decide +kernel
theorem dX10_figuresOf_60 : decode cX10_figuresOf 60 = .ok (.getfield 68, 3) := by decide +kernel
theorem dX10_figuresOf_63 : decode cX10_figuresOf 63 = .ok (.iload 4, 2) := by decide +kernel
theorem dX10_figuresOf_65 : decode cX10_figuresOf 65 = .ok (.iaload, 1) := by decide +kernel
theorem dX10_figuresOf_66 : decode cX10_figuresOf 66 = .ok (.i2l, 1) := by decide +kernel
theorem dX10_figuresOf_67 : decode cX10_figuresOf 67 = .ok (.lconst 1, 1) := by decide +kernel
theorem dX10_figuresOf_68 : decode cX10_figuresOf 68 = .ok (.ldc2_w 253, 3) := by decide +kernel
theorem dX10_figuresOf_71 : decode cX10_figuresOf 71 = .ok (.invokestatic 105, 3) := by decide +kernel
theorem dX10_figuresOf_74 : decode cX10_figuresOf 74 = .ok (.ifCond .ne 5, 3) := by decide +kernel
theorem dX10_figuresOf_77 : decode cX10_figuresOf 77 = .ok (.iconst (-1), 1) := by decide +kernel
theorem dX10_figuresOf_78 : decode cX10_figuresOf 78 = .ok (.ireturn, 1) := by decide +kernel
theorem dX10_figuresOf_79 : decode cX10_figuresOf 79 = .ok (.iinc 4 (-1), 3) := by decide +kernel
theorem dX10_figuresOf_82 : decode cX10_figuresOf 82 = .ok (.goto (-44), 3) := by decide +kernel
theorem dX10_figuresOf_85 : decode cX10_figuresOf 85 = .ok (.iload_n 2, 1) := by decide +kernel
theorem dX10_figuresOf_86 : decode cX10_figuresOf 86 = .ok (.ireturn, 1) := by decide +kernel
theorem dX10_forged_0 : decode cX10_forged 0 = .ok (.aload_n 0, 1) := by decide +kernel
theorem dX10_forged_1 : decode cX10_forged 1 = .ok (.iload_n 1, 1) := by decide +kernel
theorem dX10_forged_2 : decode cX10_forged 2 = .ok (.invokevirtual 204, 3) := by decide +kernel
theorem dX10_forged_5 : decode cX10_forged 5 = .ok (.ifCond .ne 6, 3) := by decide +kernel
theorem dX10_forged_8 : decode cX10_forged 8 = .ok (.ldc 207, 2) := by decide +kernel
theorem dX10_forged_10 : decode cX10_forged 10 = .ok (.ireturn, 1) := by decide +kernel
theorem dX10_forged_11 : decode cX10_forged 11 = .ok (.aload_n 0, 1) := by decide +kernel
theorem dX10_forged_12 : decode cX10_forged 12 = .ok (.iload_n 2, 1) := by decide +kernel
theorem dX10_forged_13 : decode cX10_forged 13 = .ok (.invokevirtual 285, 3) := by decide +kernel
theorem dX10_forged_16 : decode cX10_forged 16 = .ok (.istore 4, 2) := by decide +kernel
theorem dX10_forged_18 : decode cX10_forged 18 = .ok (.iload 4, 2) := by decide +kernel
theorem dX10_forged_20 : decode cX10_forged 20 = .ok (.ifCond .lt 13, 3) := by decide +kernel
theorem dX10_forged_23 : decode cX10_forged 23 = .ok (.iload_n 3, 1) := by decide +kernel
theorem dX10_forged_24 : decode cX10_forged 24 = .ok (.i2l, 1) := by decide +kernel
theorem dX10_forged_25 : decode cX10_forged 25 = .ok (.lconst 0, 1) := by decide +kernel
theorem dX10_forged_26 : decode cX10_forged 26 = .ok (.lconst 1, 1) := by decide +kernel
theorem dX10_forged_27 : decode cX10_forged 27 = .ok (.invokestatic 105, 3) := by decide +kernel
theorem dX10_forged_30 : decode cX10_forged 30 = .ok (.ifCond .ne 6, 3) := by decide +kernel
theorem dX10_forged_33 : decode cX10_forged 33 = .ok (.ldc 111, 2) := by decide +kernel
theorem dX10_forged_35 : decode cX10_forged 35 = .ok (.ireturn, 1) := by decide +kernel
theorem dX10_forged_36 : decode cX10_forged 36 = .ok (.iload 4, 2) := by decide +kernel
theorem dX10_forged_38 : decode cX10_forged 38 = .ok (.aload_n 0, 1) := by decide +kernel
theorem dX10_forged_39 : decode cX10_forged 39 = .ok (.getfield 16, 3) := by decide +kernel
theorem dX10_forged_42 : decode cX10_forged 42 = .ok (.iload_n 1, 1) := by decide +kernel
theorem dX10_forged_43 : decode cX10_forged 43 = .ok (.iaload, 1) := by decide +kernel
theorem dX10_forged_44 : decode cX10_forged 44 = .ok (.if_icmp .le 8, 3) := by decide +kernel
theorem dX10_forged_47 : decode cX10_forged 47 = .ok (.iload 4, 2) := by decide +kernel
theorem dX10_forged_49 : decode cX10_forged 49 = .ok (.goto 9, 3) := by decide +kernel
theorem dX10_forged_52 : decode cX10_forged 52 = .ok (.aload_n 0, 1) := by decide +kernel
theorem dX10_forged_53 : decode cX10_forged 53 = .ok (.getfield 16, 3) := by decide +kernel
theorem dX10_forged_56 : decode cX10_forged 56 = .ok (.iload_n 1, 1) := by decide +kernel
theorem dX10_forged_57 : decode cX10_forged 57 = .ok (.iaload, 1) := by decide +kernel
theorem dX10_forged_58 : decode cX10_forged 58 = .ok (.istore 5, 2) := by decide +kernel
theorem dX10_forged_60 : decode cX10_forged 60 = .ok (.iconst 0, 1) := by decide +kernel
theorem dX10_forged_61 : decode cX10_forged 61 = .ok (.istore 6, 2) := by decide +kernel
theorem dX10_forged_63 : decode cX10_forged 63 = .ok (.ldc2_w 288, 3) := by decide +kernel
theorem dX10_forged_66 : decode cX10_forged 66 = .ok (.lstore 7, 2) := by decide +kernel
theorem dX10_forged_68 : decode cX10_forged 68 = .ok (.iconst 0, 1) := by decide +kernel
theorem dX10_forged_69 : decode cX10_forged 69 = .ok (.istore 9, 2) := by decide +kernel
theorem dX10_forged_71 : decode cX10_forged 71 = .ok (.iload 9, 2) := by decide +kernel
theorem dX10_forged_73 : decode cX10_forged 73 = .ok (.iload 5, 2) := by decide +kernel
theorem dX10_forged_75 : decode cX10_forged 75 = .ok (.if_icmp .ge 92, 3) := by decide +kernel
theorem dX10_forged_78 : decode cX10_forged 78 = .ok (.iload 9, 2) := by decide +kernel
theorem dX10_forged_80 : decode cX10_forged 80 = .ok (.iload 4, 2) := by decide +kernel
theorem dX10_forged_82 : decode cX10_forged 82 = .ok (.if_icmp .ge 39, 3) := by decide +kernel
theorem dX10_forged_85 : decode cX10_forged 85 = .ok (.iload 9, 2) := by decide +kernel
theorem dX10_forged_87 : decode cX10_forged 87 = .ok (.aload_n 0, 1) := by decide +kernel
theorem dX10_forged_88 : decode cX10_forged 88 = .ok (.getfield 16, 3) := by decide +kernel
theorem dX10_forged_91 : decode cX10_forged 91 = .ok (.iload_n 1, 1) := by decide +kernel
theorem dX10_forged_92 : decode cX10_forged 92 = .ok (.iaload, 1) := by decide +kernel
theorem dX10_forged_93 : decode cX10_forged 93 = .ok (.if_icmp .ge 28, 3) := by decide +kernel
theorem dX10_forged_96 : decode cX10_forged 96 = .ok (.aload_n 0, 1) := by decide +kernel
theorem dX10_forged_97 : decode cX10_forged 97 = .ok (.getfield 68, 3) := by decide +kernel
theorem dX10_forged_100 : decode cX10_forged 100 = .ok (.iload 9, 2) := by decide +kernel
theorem dX10_forged_102 : decode cX10_forged 102 = .ok (.iaload, 1) := by decide +kernel
theorem dX10_forged_103 : decode cX10_forged 103 = .ok (.aload_n 0, 1) := by decide +kernel
theorem dX10_forged_104 : decode cX10_forged 104 = .ok (.getfield 19, 3) := by decide +kernel
theorem dX10_forged_107 : decode cX10_forged 107 = .ok (.iconst 5, 1) := by decide +kernel
theorem dX10_forged_108 : decode cX10_forged 108 = .ok (.iload_n 1, 1) := by decide +kernel
theorem dX10_forged_109 : decode cX10_forged 109 = .ok (.imul, 1) := by decide +kernel
theorem dX10_forged_110 : decode cX10_forged 110 = .ok (.iload 9, 2) := by decide +kernel
theorem dX10_forged_112 : decode cX10_forged 112 = .ok (.iadd, 1) := by decide +kernel
theorem dX10_forged_113 : decode cX10_forged 113 = .ok (.iaload, 1) := by decide +kernel
theorem dX10_forged_114 : decode cX10_forged 114 = .ok (.if_icmp .ne 7, 3) := by decide +kernel
theorem dX10_forged_117 : decode cX10_forged 117 = .ok (.iconst 1, 1) := by decide +kernel
theorem dX10_forged_118 : decode cX10_forged 118 = .ok (.goto 4, 3) := by decide +kernel
theorem dX10_forged_121 : decode cX10_forged 121 = .ok (.iconst 0, 1) := by decide +kernel
theorem dX10_forged_122 : decode cX10_forged 122 = .ok (.istore 10, 2) := by decide +kernel
theorem dX10_forged_124 : decode cX10_forged 124 = .ok (.iload 6, 2) := by decide +kernel
theorem dX10_forged_126 : decode cX10_forged 126 = .ok (.iload 10, 2) := by decide +kernel
theorem dX10_forged_128 : decode cX10_forged 128 = .ok (.ifCond .eq 7, 3) := by decide +kernel
theorem dX10_forged_131 : decode cX10_forged 131 = .ok (.iconst 0, 1) := by decide +kernel
theorem dX10_forged_132 : decode cX10_forged 132 = .ok (.goto 4, 3) := by decide +kernel
theorem dX10_forged_135 : decode cX10_forged 135 = .ok (.iconst 1, 1) := by decide +kernel
theorem dX10_forged_136 : decode cX10_forged 136 = .ok (.iadd, 1) := by decide +kernel
theorem dX10_forged_137 : decode cX10_forged 137 = .ok (.istore 6, 2) := by decide +kernel
theorem dX10_forged_139 : decode cX10_forged 139 = .ok (.lload 7, 2) := by decide +kernel
theorem dX10_forged_141 : decode cX10_forged 141 = .ok (.iload 10, 2) := by decide +kernel
theorem dX10_forged_143 : decode cX10_forged 143 = .ok (.ifCond .eq 8, 3) := by decide +kernel
theorem dX10_forged_146 : decode cX10_forged 146 = .ok (.bipush 90, 2) := by decide +kernel
theorem dX10_forged_148 : decode cX10_forged 148 = .ok (.goto 5, 3) := by decide +kernel
theorem dX10_forged_151 : decode cX10_forged 151 = .ok (.bipush 10, 2) := by decide +kernel
theorem dX10_forged_153 : decode cX10_forged 153 = .ok (.i2l, 1) := by decide +kernel
theorem dX10_forged_154 : decode cX10_forged 154 = .ok (.lmul, 1) := by decide +kernel
theorem dX10_forged_155 : decode cX10_forged 155 = .ok (.ldc2_w 290, 3) := by decide +kernel
theorem dX10_forged_158 : decode cX10_forged 158 = .ok (.ldiv, 1) := by decide +kernel
theorem dX10_forged_159 : decode cX10_forged 159 = .ok (.lstore 7, 2) := by decide +kernel
theorem dX10_forged_161 : decode cX10_forged 161 = .ok (.iinc 9 1, 3) := by decide +kernel
theorem dX10_forged_164 : decode cX10_forged 164 = .ok (.goto (-93), 3) := by decide +kernel
theorem dX10_forged_167 : decode cX10_forged 167 = .ok (.iload_n 3, 1) := by decide +kernel
theorem dX10_forged_168 : decode cX10_forged 168 = .ok (.ifCond .ne 8, 3) := by decide +kernel
theorem dX10_forged_171 : decode cX10_forged 171 = .ok (.iload 6, 2) := by decide +kernel
theorem dX10_forged_173 : decode cX10_forged 173 = .ok (.goto 6, 3) := by decide +kernel
theorem dX10_forged_176 : decode cX10_forged 176 = .ok (.lload 7, 2) := by decide +kernel
theorem dX10_forged_178 : decode cX10_forged 178 = .ok (.l2i, 1) := by decide +kernel
theorem dX10_forged_179 : decode cX10_forged 179 = .ok (.ireturn, 1) := by decide +kernel
theorem dX10_damp_0 : decode cX10_damp 0 = .ok (.aload_n 0, 1) := by decide +kernel
theorem dX10_damp_1 : decode cX10_damp 1 = .ok (.iload_n 1, 1) := by decide +kernel
theorem dX10_damp_2 : decode cX10_damp 2 = .ok (.invokevirtual 275, 3) := by decide +kernel
theorem dX10_damp_5 : decode cX10_damp 5 = .ok (.ifCond .ne 6, 3) := by decide +kernel
theorem dX10_damp_8 : decode cX10_damp 8 = .ok (.ldc 207, 2) := by decide +kernel
theorem dX10_damp_10 : decode cX10_damp 10 = .ok (.ireturn, 1) := by decide +kernel
theorem dX10_damp_11 : decode cX10_damp 11 = .ok (.ldc2_w 288, 3) := by decide +kernel
theorem dX10_damp_14 : decode cX10_damp 14 = .ok (.lstore_n 2, 1) := by decide +kernel
theorem dX10_damp_15 : decode cX10_damp 15 = .ok (.iconst 0, 1) := by decide +kernel
theorem dX10_damp_16 : decode cX10_damp 16 = .ok (.istore 4, 2) := by decide +kernel
theorem dX10_damp_18 : decode cX10_damp 18 = .ok (.iload 4, 2) := by decide +kernel
theorem dX10_damp_20 : decode cX10_damp 20 = .ok (.iconst 5, 1) := by decide +kernel
theorem dX10_damp_21 : decode cX10_damp 21 = .ok (.aload_n 0, 1) := by decide +kernel
theorem dX10_damp_22 : decode cX10_damp 22 = .ok (.getfield 102, 3) := by decide +kernel
theorem dX10_damp_25 : decode cX10_damp 25 = .ok (.imul, 1) := by decide +kernel
theorem dX10_damp_26 : decode cX10_damp 26 = .ok (.if_icmp .ge 78, 3) := by decide +kernel
theorem dX10_damp_29 : decode cX10_damp 29 = .ok (.iload_n 1, 1) := by decide +kernel
theorem dX10_damp_30 : decode cX10_damp 30 = .ok (.iload 4, 2) := by decide +kernel
theorem dX10_damp_32 : decode cX10_damp 32 = .ok (.iconst 5, 1) := by decide +kernel
theorem dX10_damp_33 : decode cX10_damp 33 = .ok (.idiv, 1) := by decide +kernel
theorem dX10_damp_34 : decode cX10_damp 34 = .ok (.invokestatic 194, 3) := by decide +kernel
theorem dX10_damp_37 : decode cX10_damp 37 = .ok (.ifCond .eq 34, 3) := by decide +kernel
theorem dX10_damp_40 : decode cX10_damp 40 = .ok (.iload 4, 2) := by decide +kernel
theorem dX10_damp_42 : decode cX10_damp 42 = .ok (.iconst 5, 1) := by decide +kernel
theorem dX10_damp_43 : decode cX10_damp 43 = .ok (.irem, 1) := by decide +kernel
theorem dX10_damp_44 : decode cX10_damp 44 = .ok (.aload_n 0, 1) := by decide +kernel
theorem dX10_damp_45 : decode cX10_damp 45 = .ok (.getfield 16, 3) := by decide +kernel
theorem dX10_damp_48 : decode cX10_damp 48 = .ok (.iload 4, 2) := by decide +kernel
theorem dX10_damp_50 : decode cX10_damp 50 = .ok (.iconst 5, 1) := by decide +kernel
theorem dX10_damp_51 : decode cX10_damp 51 = .ok (.idiv, 1) := by decide +kernel
theorem dX10_damp_52 : decode cX10_damp 52 = .ok (.iaload, 1) := by decide +kernel
theorem dX10_damp_53 : decode cX10_damp 53 = .ok (.if_icmp .ge 18, 3) := by decide +kernel
theorem dX10_damp_56 : decode cX10_damp 56 = .ok (.aload_n 0, 1) := by decide +kernel
theorem dX10_damp_57 : decode cX10_damp 57 = .ok (.getfield 19, 3) := by decide +kernel
theorem dX10_damp_60 : decode cX10_damp 60 = .ok (.iload 4, 2) := by decide +kernel
theorem dX10_damp_62 : decode cX10_damp 62 = .ok (.iaload, 1) := by decide +kernel
theorem dX10_damp_63 : decode cX10_damp 63 = .ok (.iconst 3, 1) := by decide +kernel
theorem dX10_damp_64 : decode cX10_damp 64 = .ok (.if_icmp .ne 7, 3) := by decide +kernel
theorem dX10_damp_67 : decode cX10_damp 67 = .ok (.iconst 1, 1) := by decide +kernel
theorem dX10_damp_68 : decode cX10_damp 68 = .ok (.goto 4, 3) := by decide +kernel
theorem dX10_damp_71 : decode cX10_damp 71 = .ok (.iconst 0, 1) := by decide +kernel
theorem dX10_damp_72 : decode cX10_damp 72 = .ok (.istore 5, 2) := by decide +kernel
theorem dX10_damp_74 : decode cX10_damp 74 = .ok (.iload 5, 2) := by decide +kernel
theorem dX10_damp_76 : decode cX10_damp 76 = .ok (.ifCond .eq 20, 3) := by decide +kernel
theorem dX10_damp_79 : decode cX10_damp 79 = .ok (.lload_n 2, 1) := by decide +kernel
theorem dX10_damp_80 : decode cX10_damp 80 = .ok (.bipush 100, 2) := by decide +kernel
theorem dX10_damp_82 : decode cX10_damp 82 = .ok (.aload_n 0, 1) := by decide +kernel
theorem dX10_damp_83 : decode cX10_damp 83 = .ok (.getfield 26, 3) := by decide +kernel
theorem dX10_damp_86 : decode cX10_damp 86 = .ok (.isub, 1) := by decide +kernel
theorem dX10_damp_87 : decode cX10_damp 87 = .ok (.i2l, 1) := by decide +kernel
theorem dX10_damp_88 : decode cX10_damp 88 = .ok (.lmul, 1) := by decide +kernel
theorem dX10_damp_89 : decode cX10_damp 89 = .ok (.ldc2_w 290, 3) := by decide +kernel
theorem dX10_damp_92 : decode cX10_damp 92 = .ok (.ldiv, 1) := by decide +kernel
theorem dX10_damp_93 : decode cX10_damp 93 = .ok (.goto 4, 3) := by decide +kernel
theorem dX10_damp_96 : decode cX10_damp 96 = .ok (.lload_n 2, 1) := by decide +kernel
theorem dX10_damp_97 : decode cX10_damp 97 = .ok (.lstore_n 2, 1) := by decide +kernel
theorem dX10_damp_98 : decode cX10_damp 98 = .ok (.iinc 4 1, 3) := by decide +kernel
theorem dX10_damp_101 : decode cX10_damp 101 = .ok (.goto (-83), 3) := by decide +kernel
theorem dX10_damp_104 : decode cX10_damp 104 = .ok (.lload_n 2, 1) := by decide +kernel
theorem dX10_damp_105 : decode cX10_damp 105 = .ok (.l2i, 1) := by decide +kernel
theorem dX10_damp_106 : decode cX10_damp 106 = .ok (.ireturn, 1) := by decide +kernel
theorem dX10_nearest_0 : decode cX10_nearest 0 = .ok (.iconst (-1), 1) := by decide +kernel
theorem dX10_nearest_1 : decode cX10_nearest 1 = .ok (.istore_n 2, 1) := by decide +kernel
theorem dX10_nearest_2 : decode cX10_nearest 2 = .ok (.iconst 1, 1) := by decide +kernel
theorem dX10_nearest_3 : decode cX10_nearest 3 = .ok (.istore_n 3, 1) := by decide +kernel
theorem dX10_nearest_4 : decode cX10_nearest 4 = .ok (.iload_n 3, 1) := by decide +kernel
theorem dX10_nearest_5 : decode cX10_nearest 5 = .ok (.aload_n 0, 1) := by decide +kernel
theorem dX10_nearest_6 : decode cX10_nearest 6 = .ok (.getfield 102, 3) := by decide +kernel
theorem dX10_nearest_9 : decode cX10_nearest 9 = .ok (.if_icmp .ge 88, 3) := by decide +kernel
theorem dX10_nearest_12 : decode cX10_nearest 12 = .ok (.aload_n 0, 1) := by decide +kernel
theorem dX10_nearest_13 : decode cX10_nearest 13 = .ok (.getfield 29, 3) := by decide +kernel
theorem dX10_nearest_16 : decode cX10_nearest 16 = .ok (.iconst 3, 1) := by decide +kernel
theorem dX10_nearest_17 : decode cX10_nearest 17 = .ok (.iload_n 3, 1) := by decide +kernel
theorem dX10_nearest_18 : decode cX10_nearest 18 = .ok (.iadd, 1) := by decide +kernel
theorem dX10_nearest_19 : decode cX10_nearest 19 = .ok (.iaload, 1) := by decide +kernel
theorem dX10_nearest_20 : decode cX10_nearest 20 = .ok (.ifCond .le 20, 3) := by decide +kernel
theorem dX10_nearest_23 : decode cX10_nearest 23 = .ok (.aload_n 0, 1) := by decide +kernel
theorem dX10_nearest_24 : decode cX10_nearest 24 = .ok (.getfield 71, 3) := by decide +kernel
theorem dX10_nearest_27 : decode cX10_nearest 27 = .ok (.iload_n 1, 1) := by decide +kernel
theorem dX10_nearest_28 : decode cX10_nearest 28 = .ok (.iaload, 1) := by decide +kernel
theorem dX10_nearest_29 : decode cX10_nearest 29 = .ok (.iload_n 3, 1) := by decide +kernel
theorem dX10_nearest_30 : decode cX10_nearest 30 = .ok (.invokestatic 194, 3) := by decide +kernel
theorem dX10_nearest_33 : decode cX10_nearest 33 = .ok (.ifCond .ne 7, 3) := by decide +kernel
theorem dX10_nearest_36 : decode cX10_nearest 36 = .ok (.iconst 1, 1) := by decide +kernel
theorem dX10_nearest_37 : decode cX10_nearest 37 = .ok (.goto 4, 3) := by decide +kernel
theorem dX10_nearest_40 : decode cX10_nearest 40 = .ok (.iconst 0, 1) := by decide +kernel
theorem dX10_nearest_41 : decode cX10_nearest 41 = .ok (.istore 4, 2) := by decide +kernel
theorem dX10_nearest_43 : decode cX10_nearest 43 = .ok (.iload 4, 2) := by decide +kernel
theorem dX10_nearest_45 : decode cX10_nearest 45 = .ok (.ifCond .eq 44, 3) := by decide +kernel
theorem dX10_nearest_48 : decode cX10_nearest 48 = .ok (.iload_n 2, 1) := by decide +kernel
theorem dX10_nearest_49 : decode cX10_nearest 49 = .ok (.ifCond .lt 36, 3) := by decide +kernel
theorem dX10_nearest_52 : decode cX10_nearest 52 = .ok (.aload_n 0, 1) := by decide +kernel
theorem dX10_nearest_53 : decode cX10_nearest 53 = .ok (.getfield 7, 3) := by decide +kernel
theorem dX10_nearest_56 : decode cX10_nearest 56 = .ok (.iload_n 1, 1) := by decide +kernel
theorem dX10_nearest_57 : decode cX10_nearest 57 = .ok (.iaload, 1) := by decide +kernel
theorem dX10_nearest_58 : decode cX10_nearest 58 = .ok (.aload_n 0, 1) := by decide +kernel
theorem dX10_nearest_59 : decode cX10_nearest 59 = .ok (.getfield 7, 3) := by decide +kernel
theorem dX10_nearest_62 : decode cX10_nearest 62 = .ok (.iload_n 3, 1) := by decide +kernel
theorem dX10_nearest_63 : decode cX10_nearest 63 = .ok (.iaload, 1) := by decide +kernel
theorem dX10_nearest_64 : decode cX10_nearest 64 = .ok (.invokestatic 217, 3) := by decide +kernel
theorem dX10_nearest_67 : decode cX10_nearest 67 = .ok (.aload_n 0, 1) := by decide +kernel
theorem dX10_nearest_68 : decode cX10_nearest 68 = .ok (.getfield 7, 3) := by decide +kernel
theorem dX10_nearest_71 : decode cX10_nearest 71 = .ok (.iload_n 1, 1) := by decide +kernel
theorem dX10_nearest_72 : decode cX10_nearest 72 = .ok (.iaload, 1) := by decide +kernel
theorem dX10_nearest_73 : decode cX10_nearest 73 = .ok (.aload_n 0, 1) := by decide +kernel
theorem dX10_nearest_74 : decode cX10_nearest 74 = .ok (.getfield 7, 3) := by decide +kernel
theorem dX10_nearest_77 : decode cX10_nearest 77 = .ok (.iload_n 2, 1) := by decide +kernel
theorem dX10_nearest_78 : decode cX10_nearest 78 = .ok (.iaload, 1) := by decide +kernel
theorem dX10_nearest_79 : decode cX10_nearest 79 = .ok (.invokestatic 217, 3) := by decide +kernel
theorem dX10_nearest_82 : decode cX10_nearest 82 = .ok (.if_icmp .ge 7, 3) := by decide +kernel
theorem dX10_nearest_85 : decode cX10_nearest 85 = .ok (.iload_n 3, 1) := by decide +kernel
theorem dX10_nearest_86 : decode cX10_nearest 86 = .ok (.goto 4, 3) := by decide +kernel
theorem dX10_nearest_89 : decode cX10_nearest 89 = .ok (.iload_n 2, 1) := by decide +kernel
theorem dX10_nearest_90 : decode cX10_nearest 90 = .ok (.istore_n 2, 1) := by decide +kernel
theorem dX10_nearest_91 : decode cX10_nearest 91 = .ok (.iinc 3 2, 3) := by decide +kernel
theorem dX10_nearest_94 : decode cX10_nearest 94 = .ok (.goto (-90), 3) := by decide +kernel
theorem dX10_nearest_97 : decode cX10_nearest 97 = .ok (.iload_n 2, 1) := by decide +kernel
theorem dX10_nearest_98 : decode cX10_nearest 98 = .ok (.ireturn, 1) := by decide +kernel
theorem dX10_isKeptOf_0 : decode cX10_isKeptOf 0 = .ok (.aload_n 0, 1) := by decide +kernel
theorem dX10_isKeptOf_1 : decode cX10_isKeptOf 1 = .ok (.getfield 7, 3) := by decide +kernel
theorem dX10_isKeptOf_4 : decode cX10_isKeptOf 4 = .ok (.iload_n 1, 1) := by decide +kernel
theorem dX10_isKeptOf_5 : decode cX10_isKeptOf 5 = .ok (.iaload, 1) := by decide +kernel
theorem dX10_isKeptOf_6 : decode cX10_isKeptOf 6 = .ok (.aload_n 0, 1) := by decide +kernel
theorem dX10_isKeptOf_7 : decode cX10_isKeptOf 7 = .ok (.getfield 7, 3) := by decide +kernel
theorem dX10_isKeptOf_10 : decode cX10_isKeptOf 10 = .ok (.iload_n 2, 1) := by decide +kernel
theorem dX10_isKeptOf_11 : decode cX10_isKeptOf 11 = .ok (.iaload, 1) := by decide +kernel
theorem dX10_isKeptOf_12 : decode cX10_isKeptOf 12 = .ok (.invokestatic 217, 3) := by decide +kernel
theorem dX10_isKeptOf_15 : decode cX10_isKeptOf 15 = .ok (.istore 4, 2) := by decide +kernel
theorem dX10_isKeptOf_17 : decode cX10_isKeptOf 17 = .ok (.aload_n 0, 1) := by decide +kernel
theorem dX10_isKeptOf_18 : decode cX10_isKeptOf 18 = .ok (.getfield 7, 3) := by decide +kernel
theorem dX10_isKeptOf_21 : decode cX10_isKeptOf 21 = .ok (.iload_n 1, 1) := by decide +kernel
theorem dX10_isKeptOf_22 : decode cX10_isKeptOf 22 = .ok (.iaload, 1) := by decide +kernel
theorem dX10_isKeptOf_23 : decode cX10_isKeptOf 23 = .ok (.aload_n 0, 1) := by decide +kernel
theorem dX10_isKeptOf_24 : decode cX10_isKeptOf 24 = .ok (.getfield 7, 3) := by decide +kernel
theorem dX10_isKeptOf_27 : decode cX10_isKeptOf 27 = .ok (.iload_n 3, 1) := by decide +kernel
theorem dX10_isKeptOf_28 : decode cX10_isKeptOf 28 = .ok (.iaload, 1) := by decide +kernel
theorem dX10_isKeptOf_29 : decode cX10_isKeptOf 29 = .ok (.invokestatic 217, 3) := by decide +kernel
theorem dX10_isKeptOf_32 : decode cX10_isKeptOf 32 = .ok (.istore 5, 2) := by decide +kernel
theorem dX10_isKeptOf_34 : decode cX10_isKeptOf 34 = .ok (.iload 4, 2) := by decide +kernel
theorem dX10_isKeptOf_36 : decode cX10_isKeptOf 36 = .ok (.iload 5, 2) := by decide +kernel
theorem dX10_isKeptOf_38 : decode cX10_isKeptOf 38 = .ok (.if_icmp .eq 18, 3) := by decide +kernel
theorem dX10_isKeptOf_41 : decode cX10_isKeptOf 41 = .ok (.iload 4, 2) := by decide +kernel
theorem dX10_isKeptOf_43 : decode cX10_isKeptOf 43 = .ok (.iload 5, 2) := by decide +kernel
theorem dX10_isKeptOf_45 : decode cX10_isKeptOf 45 = .ok (.if_icmp .ge 7, 3) := by decide +kernel
theorem dX10_isKeptOf_48 : decode cX10_isKeptOf 48 = .ok (.iconst 1, 1) := by decide +kernel
theorem dX10_isKeptOf_49 : decode cX10_isKeptOf 49 = .ok (.goto 17, 3) := by decide +kernel
theorem dX10_isKeptOf_52 : decode cX10_isKeptOf 52 = .ok (.iconst 0, 1) := by decide +kernel
theorem dX10_isKeptOf_53 : decode cX10_isKeptOf 53 = .ok (.goto 13, 3) := by decide +kernel
theorem dX10_isKeptOf_56 : decode cX10_isKeptOf 56 = .ok (.iload_n 2, 1) := by decide +kernel
theorem dX10_isKeptOf_57 : decode cX10_isKeptOf 57 = .ok (.iload_n 3, 1) := by decide +kernel
theorem dX10_isKeptOf_58 : decode cX10_isKeptOf 58 = .ok (.if_icmp .ge 7, 3) := by decide +kernel
theorem dX10_isKeptOf_61 : decode cX10_isKeptOf 61 = .ok (.iconst 1, 1) := by decide +kernel
theorem dX10_isKeptOf_62 : decode cX10_isKeptOf 62 = .ok (.goto 4, 3) := by decide +kernel
theorem dX10_isKeptOf_65 : decode cX10_isKeptOf 65 = .ok (.iconst 0, 1) := by decide +kernel
theorem dX10_isKeptOf_66 : decode cX10_isKeptOf 66 = .ok (.ireturn, 1) := by decide +kernel
theorem dX10_ask_0 : decode cX10_ask 0 = .ok (.aload_n 0, 1) := by decide +kernel
theorem dX10_ask_1 : decode cX10_ask 1 = .ok (.getfield 74, 3) := by decide +kernel
theorem dX10_ask_4 : decode cX10_ask 4 = .ok (.iload_n 2, 1) := by decide +kernel
theorem dX10_ask_5 : decode cX10_ask 5 = .ok (.iaload, 1) := by decide +kernel
theorem dX10_ask_6 : decode cX10_ask 6 = .ok (.istore_n 3, 1) := by decide +kernel
theorem dX10_ask_7 : decode cX10_ask 7 = .ok (.iload_n 3, 1) := by decide +kernel
theorem dX10_ask_8 : decode cX10_ask 8 = .ok (.ifCond .lt 26, 3) := by decide +kernel
theorem dX10_ask_11 : decode cX10_ask 11 = .ok (.aload_n 0, 1) := by decide +kernel
theorem dX10_ask_12 : decode cX10_ask 12 = .ok (.iload_n 2, 1) := by decide +kernel
theorem dX10_ask_13 : decode cX10_ask 13 = .ok (.iload_n 3, 1) := by decide +kernel
theorem dX10_ask_14 : decode cX10_ask 14 = .ok (.iload_n 1, 1) := by decide +kernel
theorem dX10_ask_15 : decode cX10_ask 15 = .ok (.invokevirtual 292, 3) := by decide +kernel
theorem dX10_ask_18 : decode cX10_ask 18 = .ok (.ifCond .eq 16, 3) := by decide +kernel
theorem dX10_ask_21 : decode cX10_ask 21 = .ok (.aload_n 0, 1) := by decide +kernel
theorem dX10_ask_22 : decode cX10_ask 22 = .ok (.getfield 71, 3) := by decide +kernel
theorem dX10_ask_25 : decode cX10_ask 25 = .ok (.iload_n 1, 1) := by decide +kernel
theorem dX10_ask_26 : decode cX10_ask 26 = .ok (.dup2, 1) := by decide +kernel
theorem dX10_ask_27 : decode cX10_ask 27 = .ok (.iaload, 1) := by decide +kernel
theorem dX10_ask_28 : decode cX10_ask 28 = .ok (.iconst 1, 1) := by decide +kernel
theorem dX10_ask_29 : decode cX10_ask 29 = .ok (.iload_n 2, 1) := by decide +kernel
theorem dX10_ask_30 : decode cX10_ask 30 = .ok (.ishl, 1) := by decide +kernel
theorem dX10_ask_31 : decode cX10_ask 31 = .ok (.ior, 1) := by decide +kernel
theorem dX10_ask_32 : decode cX10_ask 32 = .ok (.iastore, 1) := by decide +kernel
theorem dX10_ask_33 : decode cX10_ask 33 = .ok (.return_, 1) := by decide +kernel
theorem dX10_ask_34 : decode cX10_ask 34 = .ok (.iload_n 3, 1) := by decide +kernel
theorem dX10_ask_35 : decode cX10_ask 35 = .ok (.ifCond .lt 22, 3) := by decide +kernel
theorem dX10_ask_38 : decode cX10_ask 38 = .ok (.aload_n 0, 1) := by decide +kernel
theorem dX10_ask_39 : decode cX10_ask 39 = .ok (.getfield 74, 3) := by decide +kernel
theorem dX10_ask_42 : decode cX10_ask 42 = .ok (.iload_n 3, 1) := by decide +kernel
theorem dX10_ask_43 : decode cX10_ask 43 = .ok (.iconst (-1), 1) := by decide +kernel
theorem dX10_ask_44 : decode cX10_ask 44 = .ok (.iastore, 1) := by decide +kernel
theorem dX10_ask_45 : decode cX10_ask 45 = .ok (.aload_n 0, 1) := by decide +kernel
theorem dX10_ask_46 : decode cX10_ask 46 = .ok (.getfield 71, 3) := by decide +kernel
theorem dX10_ask_49 : decode cX10_ask 49 = .ok (.iload_n 3, 1) := by decide +kernel
theorem dX10_ask_50 : decode cX10_ask 50 = .ok (.dup2, 1) := by decide +kernel
theorem dX10_ask_51 : decode cX10_ask 51 = .ok (.iaload, 1) := by decide +kernel
theorem dX10_ask_52 : decode cX10_ask 52 = .ok (.iconst 1, 1) := by decide +kernel
theorem dX10_ask_53 : decode cX10_ask 53 = .ok (.iload_n 2, 1) := by decide +kernel
theorem dX10_ask_54 : decode cX10_ask 54 = .ok (.ishl, 1) := by decide +kernel
theorem dX10_ask_55 : decode cX10_ask 55 = .ok (.ior, 1) := by decide +kernel
theorem dX10_ask_56 : decode cX10_ask 56 = .ok (.iastore, 1) := by decide +kernel
theorem dX10_ask_57 : decode cX10_ask 57 = .ok (.aload_n 0, 1) := by decide +kernel
theorem dX10_ask_58 : decode cX10_ask 58 = .ok (.getfield 74, 3) := by decide +kernel
theorem dX10_ask_61 : decode cX10_ask 61 = .ok (.iload_n 2, 1) := by decide +kernel
theorem dX10_ask_62 : decode cX10_ask 62 = .ok (.iload_n 1, 1) := by decide +kernel
theorem dX10_ask_63 : decode cX10_ask 63 = .ok (.iastore, 1) := by decide +kernel
theorem dX10_ask_64 : decode cX10_ask 64 = .ok (.aload_n 0, 1) := by decide +kernel
theorem dX10_ask_65 : decode cX10_ask 65 = .ok (.getfield 74, 3) := by decide +kernel
theorem dX10_ask_68 : decode cX10_ask 68 = .ok (.iload_n 1, 1) := by decide +kernel
theorem dX10_ask_69 : decode cX10_ask 69 = .ok (.iload_n 2, 1) := by decide +kernel
theorem dX10_ask_70 : decode cX10_ask 70 = .ok (.iastore, 1) := by decide +kernel
theorem dX10_ask_71 : decode cX10_ask 71 = .ok (.return_, 1) := by decide +kernel
theorem dX10_partner_0 : decode cX10_partner 0 = .ok (.aload_n 0, 1) := by decide +kernel
theorem dX10_partner_1 : decode cX10_partner 1 = .ok (.iload_n 1, 1) := by decide +kernel
theorem dX10_partner_2 : decode cX10_partner 2 = .ok (.invokevirtual 204, 3) := by decide +kernel
theorem dX10_partner_5 : decode cX10_partner 5 = .ok (.ifCond .ne 6, 3) := by decide +kernel
theorem dX10_partner_8 : decode cX10_partner 8 = .ok (.ldc 207, 2) := by decide +kernel
theorem dX10_partner_10 : decode cX10_partner 10 = .ok (.ireturn, 1) := by decide +kernel
theorem dX10_partner_11 : decode cX10_partner 11 = .ok (.iconst 0, 1) := by decide +kernel
theorem dX10_partner_12 : decode cX10_partner 12 = .ok (.istore_n 2, 1) := by decide +kernel
theorem dX10_partner_13 : decode cX10_partner 13 = .ok (.iload_n 2, 1) := by decide +kernel
theorem dX10_partner_14 : decode cX10_partner 14 = .ok (.bipush 8, 2) := by decide +kernel
theorem dX10_partner_16 : decode cX10_partner 16 = .ok (.if_icmp .ge 23, 3) := by decide +kernel
theorem dX10_partner_19 : decode cX10_partner 19 = .ok (.aload_n 0, 1) := by decide +kernel
theorem dX10_partner_20 : decode cX10_partner 20 = .ok (.getfield 71, 3) := by decide +kernel
theorem dX10_partner_23 : decode cX10_partner 23 = .ok (.iload_n 2, 1) := by decide +kernel
theorem dX10_partner_24 : decode cX10_partner 24 = .ok (.iconst 0, 1) := by decide +kernel
theorem dX10_partner_25 : decode cX10_partner 25 = .ok (.iastore, 1) := by decide +kernel
theorem dX10_partner_26 : decode cX10_partner 26 = .ok (.aload_n 0, 1) := by decide +kernel
theorem dX10_partner_27 : decode cX10_partner 27 = .ok (.getfield 74, 3) := by decide +kernel
theorem dX10_partner_30 : decode cX10_partner 30 = .ok (.iload_n 2, 1) := by decide +kernel
theorem dX10_partner_31 : decode cX10_partner 31 = .ok (.iconst (-1), 1) := by decide +kernel
theorem dX10_partner_32 : decode cX10_partner 32 = .ok (.iastore, 1) := by decide +kernel
theorem dX10_partner_33 : decode cX10_partner 33 = .ok (.iinc 2 1, 3) := by decide +kernel
theorem dX10_partner_36 : decode cX10_partner 36 = .ok (.goto (-23), 3) := by decide +kernel
theorem dX10_partner_39 : decode cX10_partner 39 = .ok (.iconst 1, 1) := by decide +kernel
theorem dX10_partner_40 : decode cX10_partner 40 = .ok (.istore_n 2, 1) := by decide +kernel
theorem dX10_partner_41 : decode cX10_partner 41 = .ok (.iload_n 2, 1) := by decide +kernel
theorem dX10_partner_42 : decode cX10_partner 42 = .ok (.ifCond .eq 69, 3) := by decide +kernel
theorem dX10_partner_45 : decode cX10_partner 45 = .ok (.iconst 0, 1) := by decide +kernel
theorem dX10_partner_46 : decode cX10_partner 46 = .ok (.istore_n 2, 1) := by decide +kernel
theorem dX10_partner_47 : decode cX10_partner 47 = .ok (.iconst 0, 1) := by decide +kernel
theorem dX10_partner_48 : decode cX10_partner 48 = .ok (.istore_n 3, 1) := by decide +kernel
theorem dX10_partner_49 : decode cX10_partner 49 = .ok (.iload_n 3, 1) := by decide +kernel
theorem dX10_partner_50 : decode cX10_partner 50 = .ok (.aload_n 0, 1) := by decide +kernel
theorem dX10_partner_51 : decode cX10_partner 51 = .ok (.getfield 102, 3) := by decide +kernel
theorem dX10_partner_54 : decode cX10_partner 54 = .ok (.if_icmp .ge 54, 3) := by decide +kernel
theorem dX10_partner_57 : decode cX10_partner 57 = .ok (.aload_n 0, 1) := by decide +kernel
theorem dX10_partner_58 : decode cX10_partner 58 = .ok (.getfield 29, 3) := by decide +kernel
theorem dX10_partner_61 : decode cX10_partner 61 = .ok (.iconst 3, 1) := by decide +kernel
theorem dX10_partner_62 : decode cX10_partner 62 = .ok (.iload_n 3, 1) := by decide +kernel
theorem dX10_partner_63 : decode cX10_partner 63 = .ok (.iadd, 1) := by decide +kernel
theorem dX10_partner_64 : decode cX10_partner 64 = .ok (.iaload, 1) := by decide +kernel
theorem dX10_partner_65 : decode cX10_partner 65 = .ok (.ifCond .le 20, 3) := by decide +kernel
theorem dX10_partner_68 : decode cX10_partner 68 = .ok (.aload_n 0, 1) := by decide +kernel
theorem dX10_partner_69 : decode cX10_partner 69 = .ok (.getfield 74, 3) := by decide +kernel
theorem dX10_partner_72 : decode cX10_partner 72 = .ok (.iload_n 3, 1) := by decide +kernel
theorem dX10_partner_73 : decode cX10_partner 73 = .ok (.iaload, 1) := by decide +kernel
theorem dX10_partner_74 : decode cX10_partner 74 = .ok (.ifCond .ge 11, 3) := by decide +kernel
theorem dX10_partner_77 : decode cX10_partner 77 = .ok (.aload_n 0, 1) := by decide +kernel
theorem dX10_partner_78 : decode cX10_partner 78 = .ok (.iload_n 3, 1) := by decide +kernel
theorem dX10_partner_79 : decode cX10_partner 79 = .ok (.invokevirtual 295, 3) := by decide +kernel
theorem dX10_partner_82 : decode cX10_partner 82 = .ok (.goto 4, 3) := by decide +kernel
theorem dX10_partner_85 : decode cX10_partner 85 = .ok (.iconst (-1), 1) := by decide +kernel
theorem dX10_partner_86 : decode cX10_partner 86 = .ok (.istore 4, 2) := by decide +kernel
theorem dX10_partner_88 : decode cX10_partner 88 = .ok (.iload 4, 2) := by decide +kernel
theorem dX10_partner_90 : decode cX10_partner 90 = .ok (.ifCond .lt 12, 3) := by decide +kernel
theorem dX10_partner_93 : decode cX10_partner 93 = .ok (.aload_n 0, 1) := by decide +kernel
theorem dX10_partner_94 : decode cX10_partner 94 = .ok (.iload_n 3, 1) := by decide +kernel
theorem dX10_partner_95 : decode cX10_partner 95 = .ok (.iload 4, 2) := by decide +kernel
theorem dX10_partner_97 : decode cX10_partner 97 = .ok (.invokevirtual 298, 3) := by decide +kernel
theorem dX10_partner_100 : decode cX10_partner 100 = .ok (.iconst 1, 1) := by decide +kernel
theorem dX10_partner_101 : decode cX10_partner 101 = .ok (.istore_n 2, 1) := by decide +kernel
theorem dX10_partner_102 : decode cX10_partner 102 = .ok (.iinc 3 2, 3) := by decide +kernel
theorem dX10_partner_105 : decode cX10_partner 105 = .ok (.goto (-56), 3) := by decide +kernel
theorem dX10_partner_108 : decode cX10_partner 108 = .ok (.goto (-67), 3) := by decide +kernel
theorem dX10_partner_111 : decode cX10_partner 111 = .ok (.aload_n 0, 1) := by decide +kernel
theorem dX10_partner_112 : decode cX10_partner 112 = .ok (.getfield 74, 3) := by decide +kernel
theorem dX10_partner_115 : decode cX10_partner 115 = .ok (.iload_n 1, 1) := by decide +kernel
theorem dX10_partner_116 : decode cX10_partner 116 = .ok (.iaload, 1) := by decide +kernel
theorem dX10_partner_117 : decode cX10_partner 117 = .ok (.ireturn, 1) := by decide +kernel
theorem dX10_duck_0 : decode cX10_duck 0 = .ok (.iload_n 1, 1) := by decide +kernel
theorem dX10_duck_1 : decode cX10_duck 1 = .ok (.i2l, 1) := by decide +kernel
theorem dX10_duck_2 : decode cX10_duck 2 = .ok (.lconst 0, 1) := by decide +kernel
theorem dX10_duck_3 : decode cX10_duck 3 = .ok (.ldc2_w 302, 3) := by decide +kernel
theorem dX10_duck_6 : decode cX10_duck 6 = .ok (.invokestatic 105, 3) := by decide +kernel
theorem dX10_duck_9 : decode cX10_duck 9 = .ok (.ifCond .eq 19, 3) := by decide +kernel
theorem dX10_duck_12 : decode cX10_duck 12 = .ok (.iload_n 2, 1) := by decide +kernel
theorem dX10_duck_13 : decode cX10_duck 13 = .ok (.i2l, 1) := by decide +kernel
theorem dX10_duck_14 : decode cX10_duck 14 = .ok (.lconst 0, 1) := by decide +kernel
theorem dX10_duck_15 : decode cX10_duck 15 = .ok (.aload_n 0, 1) := by decide +kernel
theorem dX10_duck_16 : decode cX10_duck 16 = .ok (.getfield 99, 3) := by decide +kernel
theorem dX10_duck_19 : decode cX10_duck 19 = .ok (.iconst 1, 1) := by decide +kernel
theorem dX10_duck_20 : decode cX10_duck 20 = .ok (.isub, 1) := by decide +kernel
theorem dX10_duck_21 : decode cX10_duck 21 = .ok (.i2l, 1) := by decide +kernel
theorem dX10_duck_22 : decode cX10_duck 22 = .ok (.invokestatic 105, 3) := by decide +kernel
theorem dX10_duck_25 : decode cX10_duck 25 = .ok (.ifCond .ne 6, 3) := by decide +kernel
theorem dX10_duck_28 : decode cX10_duck 28 = .ok (.ldc 111, 2) := by decide +kernel
theorem dX10_duck_30 : decode cX10_duck 30 = .ok (.ireturn, 1) := by decide +kernel
theorem dX10_duck_31 : decode cX10_duck 31 = .ok (.aload_n 0, 1) := by decide +kernel
theorem dX10_duck_32 : decode cX10_duck 32 = .ok (.getfield 185, 3) := by decide +kernel
theorem dX10_duck_35 : decode cX10_duck 35 = .ok (.bipush 6, 2) := by decide +kernel
theorem dX10_duck_37 : decode cX10_duck 37 = .ok (.if_icmp .ne 6, 3) := by decide +kernel
theorem dX10_duck_40 : decode cX10_duck 40 = .ok (.ldc 115, 2) := by decide +kernel
theorem dX10_duck_42 : decode cX10_duck 42 = .ok (.ireturn, 1) := by decide +kernel
theorem dX10_duck_43 : decode cX10_duck 43 = .ok (.aload_n 0, 1) := by decide +kernel
theorem dX10_duck_44 : decode cX10_duck 44 = .ok (.getfield 77, 3) := by decide +kernel
theorem dX10_duck_47 : decode cX10_duck 47 = .ok (.aload_n 0, 1) := by decide +kernel
theorem dX10_duck_48 : decode cX10_duck 48 = .ok (.getfield 185, 3) := by decide +kernel
theorem dX10_duck_51 : decode cX10_duck 51 = .ok (.iload_n 1, 1) := by decide +kernel
theorem dX10_duck_52 : decode cX10_duck 52 = .ok (.iastore, 1) := by decide +kernel
theorem dX10_duck_53 : decode cX10_duck 53 = .ok (.aload_n 0, 1) := by decide +kernel
theorem dX10_duck_54 : decode cX10_duck 54 = .ok (.getfield 80, 3) := by decide +kernel
theorem dX10_duck_57 : decode cX10_duck 57 = .ok (.aload_n 0, 1) := by decide +kernel
theorem dX10_duck_58 : decode cX10_duck 58 = .ok (.getfield 185, 3) := by decide +kernel
theorem dX10_duck_61 : decode cX10_duck 61 = .ok (.iload_n 2, 1) := by decide +kernel
theorem dX10_duck_62 : decode cX10_duck 62 = .ok (.iastore, 1) := by decide +kernel
theorem dX10_duck_63 : decode cX10_duck 63 = .ok (.aload_n 0, 1) := by decide +kernel
theorem dX10_duck_64 : decode cX10_duck 64 = .ok (.dup, 1) := by decide +kernel
theorem dX10_duck_65 : decode cX10_duck 65 = .ok (.getfield 185, 3) := by decide +kernel
theorem dX10_duck_68 : decode cX10_duck 68 = .ok (.iconst 1, 1) := by decide +kernel
theorem dX10_duck_69 : decode cX10_duck 69 = .ok (.iadd, 1) := by decide +kernel
theorem dX10_duck_70 : decode cX10_duck 70 = .ok (.putfield 185, 3) := by decide +kernel
theorem dX10_duck_73 : decode cX10_duck 73 = .ok (.aload_n 0, 1) := by decide +kernel
theorem dX10_duck_74 : decode cX10_duck 74 = .ok (.getfield 185, 3) := by decide +kernel
theorem dX10_duck_77 : decode cX10_duck 77 = .ok (.ireturn, 1) := by decide +kernel
theorem dX10_litOver_0 : decode cX10_litOver 0 = .ok (.iconst 0, 1) := by decide +kernel
theorem dX10_litOver_1 : decode cX10_litOver 1 = .ok (.istore_n 2, 1) := by decide +kernel
theorem dX10_litOver_2 : decode cX10_litOver 2 = .ok (.iconst 0, 1) := by decide +kernel
theorem dX10_litOver_3 : decode cX10_litOver 3 = .ok (.istore_n 3, 1) := by decide +kernel
theorem dX10_litOver_4 : decode cX10_litOver 4 = .ok (.iload_n 3, 1) := by decide +kernel
theorem dX10_litOver_5 : decode cX10_litOver 5 = .ok (.aload_n 0, 1) := by decide +kernel
theorem dX10_litOver_6 : decode cX10_litOver 6 = .ok (.getfield 102, 3) := by decide +kernel
theorem dX10_litOver_9 : decode cX10_litOver 9 = .ok (.if_icmp .ge 28, 3) := by decide +kernel
theorem dX10_litOver_12 : decode cX10_litOver 12 = .ok (.iload_n 2, 1) := by decide +kernel
theorem dX10_litOver_13 : decode cX10_litOver 13 = .ok (.aload_n 0, 1) := by decide +kernel
theorem dX10_litOver_14 : decode cX10_litOver 14 = .ok (.iload_n 3, 1) := by decide +kernel
theorem dX10_litOver_15 : decode cX10_litOver 15 = .ok (.invokevirtual 214, 3) := by decide +kernel
theorem dX10_litOver_18 : decode cX10_litOver 18 = .ok (.iload_n 1, 1) := by decide +kernel
theorem dX10_litOver_19 : decode cX10_litOver 19 = .ok (.if_icmp .ne 9, 3) := by decide +kernel
theorem dX10_litOver_22 : decode cX10_litOver 22 = .ok (.iconst 1, 1) := by decide +kernel
theorem dX10_litOver_23 : decode cX10_litOver 23 = .ok (.iload_n 3, 1) := by decide +kernel
theorem dX10_litOver_24 : decode cX10_litOver 24 = .ok (.ishl, 1) := by decide +kernel
theorem dX10_litOver_25 : decode cX10_litOver 25 = .ok (.goto 4, 3) := by decide +kernel
theorem dX10_litOver_28 : decode cX10_litOver 28 = .ok (.iconst 0, 1) := by decide +kernel
theorem dX10_litOver_29 : decode cX10_litOver 29 = .ok (.ior, 1) := by decide +kernel
theorem dX10_litOver_30 : decode cX10_litOver 30 = .ok (.istore_n 2, 1) := by decide +kernel
theorem dX10_litOver_31 : decode cX10_litOver 31 = .ok (.iinc 3 1, 3) := by decide +kernel
theorem dX10_litOver_34 : decode cX10_litOver 34 = .ok (.goto (-30), 3) := by decide +kernel
theorem dX10_litOver_37 : decode cX10_litOver 37 = .ok (.iload_n 2, 1) := by decide +kernel
theorem dX10_litOver_38 : decode cX10_litOver 38 = .ok (.ireturn, 1) := by decide +kernel
theorem dX10_lit_0 : decode cX10_lit 0 = .ok (.iload_n 1, 1) := by decide +kernel
theorem dX10_lit_1 : decode cX10_lit 1 = .ok (.iconst (-1), 1) := by decide +kernel
theorem dX10_lit_2 : decode cX10_lit 2 = .ok (.if_icmp .eq 34, 3) := by decide +kernel
theorem dX10_lit_5 : decode cX10_lit 5 = .ok (.iload_n 1, 1) := by decide +kernel
theorem dX10_lit_6 : decode cX10_lit 6 = .ok (.i2l, 1) := by decide +kernel
theorem dX10_lit_7 : decode cX10_lit 7 = .ok (.lconst 0, 1) := by decide +kernel
theorem dX10_lit_8 : decode cX10_lit 8 = .ok (.aload_n 0, 1) := by decide +kernel
theorem dX10_lit_9 : decode cX10_lit 9 = .ok (.getfield 185, 3) := by decide +kernel
theorem dX10_lit_12 : decode cX10_lit 12 = .ok (.iconst 1, 1) := by decide +kernel
theorem dX10_lit_13 : decode cX10_lit 13 = .ok (.isub, 1) := by decide +kernel
theorem dX10_lit_14 : decode cX10_lit 14 = .ok (.i2l, 1) := by decide +kernel
theorem dX10_lit_15 : decode cX10_lit 15 = .ok (.invokestatic 105, 3) := by decide +kernel
theorem dX10_lit_18 : decode cX10_lit 18 = .ok (.ifCond .eq 16, 3) := by decide +kernel
theorem dX10_lit_21 : decode cX10_lit 21 = .ok (.aload_n 0, 1) := by decide +kernel
theorem dX10_lit_22 : decode cX10_lit 22 = .ok (.aload_n 0, 1) := by decide +kernel
theorem dX10_lit_23 : decode cX10_lit 23 = .ok (.getfield 80, 3) := by decide +kernel
theorem dX10_lit_26 : decode cX10_lit 26 = .ok (.iload_n 1, 1) := by decide +kernel
theorem dX10_lit_27 : decode cX10_lit 27 = .ok (.iaload, 1) := by decide +kernel
theorem dX10_lit_28 : decode cX10_lit 28 = .ok (.invokevirtual 304, 3) := by decide +kernel
theorem dX10_lit_31 : decode cX10_lit 31 = .ok (.goto 4, 3) := by decide +kernel
theorem dX10_lit_34 : decode cX10_lit 34 = .ok (.iconst (-1), 1) := by decide +kernel
theorem dX10_lit_35 : decode cX10_lit 35 = .ok (.ireturn, 1) := by decide +kernel
theorem dX10_lit_36 : decode cX10_lit 36 = .ok (.iconst 1, 1) := by decide +kernel
theorem dX10_lit_37 : decode cX10_lit 37 = .ok (.istore_n 2, 1) := by decide +kernel
theorem dX10_lit_38 : decode cX10_lit 38 = .ok (.iconst 0, 1) := by decide +kernel
theorem dX10_lit_39 : decode cX10_lit 39 = .ok (.istore_n 3, 1) := by decide +kernel
theorem dX10_lit_40 : decode cX10_lit 40 = .ok (.iload_n 3, 1) := by decide +kernel
theorem dX10_lit_41 : decode cX10_lit 41 = .ok (.aload_n 0, 1) := by decide +kernel
theorem dX10_lit_42 : decode cX10_lit 42 = .ok (.getfield 185, 3) := by decide +kernel
theorem dX10_lit_45 : decode cX10_lit 45 = .ok (.if_icmp .ge 95, 3) := by decide +kernel
theorem dX10_lit_48 : decode cX10_lit 48 = .ok (.aload_n 0, 1) := by decide +kernel
theorem dX10_lit_49 : decode cX10_lit 49 = .ok (.aload_n 0, 1) := by decide +kernel
theorem dX10_lit_50 : decode cX10_lit 50 = .ok (.getfield 80, 3) := by decide +kernel
theorem dX10_lit_53 : decode cX10_lit 53 = .ok (.iload_n 3, 1) := by decide +kernel
theorem dX10_lit_54 : decode cX10_lit 54 = .ok (.iaload, 1) := by decide +kernel
theorem dX10_lit_55 : decode cX10_lit 55 = .ok (.invokevirtual 304, 3) := by decide +kernel
theorem dX10_lit_58 : decode cX10_lit 58 = .ok (.invokestatic 272, 3) := by decide +kernel
theorem dX10_lit_61 : decode cX10_lit 61 = .ok (.istore 4, 2) := by decide +kernel
theorem dX10_lit_63 : decode cX10_lit 63 = .ok (.iconst 0, 1) := by decide +kernel
theorem dX10_lit_64 : decode cX10_lit 64 = .ok (.istore 5, 2) := by decide +kernel
theorem dX10_lit_66 : decode cX10_lit 66 = .ok (.iload 5, 2) := by decide +kernel
theorem dX10_lit_68 : decode cX10_lit 68 = .ok (.iload_n 3, 1) := by decide +kernel
theorem dX10_lit_69 : decode cX10_lit 69 = .ok (.if_icmp .ge 51, 3) := by decide +kernel
theorem dX10_lit_72 : decode cX10_lit 72 = .ok (.iload 4, 2) := by decide +kernel
theorem dX10_lit_74 : decode cX10_lit 74 = .ok (.aload_n 0, 1) := by decide +kernel
theorem dX10_lit_75 : decode cX10_lit 75 = .ok (.getfield 77, 3) := by decide +kernel
theorem dX10_lit_78 : decode cX10_lit 78 = .ok (.iload_n 3, 1) := by decide +kernel
theorem dX10_lit_79 : decode cX10_lit 79 = .ok (.iaload, 1) := by decide +kernel
theorem dX10_lit_80 : decode cX10_lit 80 = .ok (.aload_n 0, 1) := by decide +kernel
theorem dX10_lit_81 : decode cX10_lit 81 = .ok (.getfield 77, 3) := by decide +kernel
theorem dX10_lit_84 : decode cX10_lit 84 = .ok (.iload 5, 2) := by decide +kernel
theorem dX10_lit_86 : decode cX10_lit 86 = .ok (.iaload, 1) := by decide +kernel
theorem dX10_lit_87 : decode cX10_lit 87 = .ok (.if_icmp .ne 23, 3) := by decide +kernel
theorem dX10_lit_90 : decode cX10_lit 90 = .ok (.aload_n 0, 1) := by decide +kernel
theorem dX10_lit_91 : decode cX10_lit 91 = .ok (.getfield 80, 3) := by decide +kernel
theorem dX10_lit_94 : decode cX10_lit 94 = .ok (.iload_n 3, 1) := by decide +kernel
theorem dX10_lit_95 : decode cX10_lit 95 = .ok (.iaload, 1) := by decide +kernel
theorem dX10_lit_96 : decode cX10_lit 96 = .ok (.aload_n 0, 1) := by decide +kernel
theorem dX10_lit_97 : decode cX10_lit 97 = .ok (.getfield 80, 3) := by decide +kernel
theorem dX10_lit_100 : decode cX10_lit 100 = .ok (.iload 5, 2) := by decide +kernel
theorem dX10_lit_102 : decode cX10_lit 102 = .ok (.iaload, 1) := by decide +kernel
theorem dX10_lit_103 : decode cX10_lit 103 = .ok (.if_icmp .ne 7, 3) := by decide +kernel
theorem dX10_lit_106 : decode cX10_lit 106 = .ok (.iconst 1, 1) := by decide +kernel
theorem dX10_lit_107 : decode cX10_lit 107 = .ok (.goto 4, 3) := by decide +kernel
theorem dX10_lit_110 : decode cX10_lit 110 = .ok (.iconst 0, 1) := by decide +kernel
theorem dX10_lit_111 : decode cX10_lit 111 = .ok (.isub, 1) := by decide +kernel
theorem dX10_lit_112 : decode cX10_lit 112 = .ok (.istore 4, 2) := by decide +kernel
theorem dX10_lit_114 : decode cX10_lit 114 = .ok (.iinc 5 1, 3) := by decide +kernel
theorem dX10_lit_117 : decode cX10_lit 117 = .ok (.goto (-51), 3) := by decide +kernel
theorem dX10_lit_120 : decode cX10_lit 120 = .ok (.iload_n 2, 1) := by decide +kernel
theorem dX10_lit_121 : decode cX10_lit 121 = .ok (.iload 4, 2) := by decide +kernel
theorem dX10_lit_123 : decode cX10_lit 123 = .ok (.ifCond .le 8, 3) := by decide +kernel
theorem dX10_lit_126 : decode cX10_lit 126 = .ok (.iload 4, 2) := by decide +kernel
theorem dX10_lit_128 : decode cX10_lit 128 = .ok (.goto 4, 3) := by decide +kernel
theorem dX10_lit_131 : decode cX10_lit 131 = .ok (.iconst 0, 1) := by decide +kernel
theorem dX10_lit_132 : decode cX10_lit 132 = .ok (.imul, 1) := by decide +kernel
theorem dX10_lit_133 : decode cX10_lit 133 = .ok (.istore_n 2, 1) := by decide +kernel
theorem dX10_lit_134 : decode cX10_lit 134 = .ok (.iinc 3 1, 3) := by decide +kernel
theorem dX10_lit_137 : decode cX10_lit 137 = .ok (.goto (-97), 3) := by decide +kernel
theorem dX10_lit_140 : decode cX10_lit 140 = .ok (.iload_n 2, 1) := by decide +kernel
theorem dX10_lit_141 : decode cX10_lit 141 = .ok (.ireturn, 1) := by decide +kernel
theorem dX10_write_0 : decode cX10_write 0 = .ok (.aload_n 0, 1) := by decide +kernel
theorem dX10_write_1 : decode cX10_write 1 = .ok (.iload_n 1, 1) := by decide +kernel
theorem dX10_write_2 : decode cX10_write 2 = .ok (.iload_n 2, 1) := by decide +kernel
theorem dX10_write_3 : decode cX10_write 3 = .ok (.invokevirtual 226, 3) := by decide +kernel
theorem dX10_write_6 : decode cX10_write 6 = .ok (.ifCond .ne 6, 3) := by decide +kernel
theorem dX10_write_9 : decode cX10_write 9 = .ok (.ldc 207, 2) := by decide +kernel
theorem dX10_write_11 : decode cX10_write 11 = .ok (.ireturn, 1) := by decide +kernel
theorem dX10_write_12 : decode cX10_write 12 = .ok (.aload_n 0, 1) := by decide +kernel
theorem dX10_write_13 : decode cX10_write 13 = .ok (.getfield 188, 3) := by decide +kernel
theorem dX10_write_16 : decode cX10_write 16 = .ok (.bipush 15, 2) := by decide +kernel
theorem dX10_write_18 : decode cX10_write 18 = .ok (.if_icmp .ne 6, 3) := by decide +kernel
theorem dX10_write_21 : decode cX10_write 21 = .ok (.ldc 115, 2) := by decide +kernel
theorem dX10_write_23 : decode cX10_write 23 = .ok (.ireturn, 1) := by decide +kernel
theorem dX10_write_24 : decode cX10_write 24 = .ok (.aload_n 0, 1) := by decide +kernel
theorem dX10_write_25 : decode cX10_write 25 = .ok (.getfield 83, 3) := by decide +kernel
theorem dX10_write_28 : decode cX10_write 28 = .ok (.aload_n 0, 1) := by decide +kernel
theorem dX10_write_29 : decode cX10_write 29 = .ok (.getfield 188, 3) := by decide +kernel
theorem dX10_write_32 : decode cX10_write 32 = .ok (.iload_n 1, 1) := by decide +kernel
theorem dX10_write_33 : decode cX10_write 33 = .ok (.iastore, 1) := by decide +kernel
theorem dX10_write_34 : decode cX10_write 34 = .ok (.aload_n 0, 1) := by decide +kernel
theorem dX10_write_35 : decode cX10_write 35 = .ok (.getfield 86, 3) := by decide +kernel
theorem dX10_write_38 : decode cX10_write 38 = .ok (.aload_n 0, 1) := by decide +kernel
theorem dX10_write_39 : decode cX10_write 39 = .ok (.getfield 188, 3) := by decide +kernel
theorem dX10_write_42 : decode cX10_write 42 = .ok (.iload_n 2, 1) := by decide +kernel
theorem dX10_write_43 : decode cX10_write 43 = .ok (.iastore, 1) := by decide +kernel
theorem dX10_write_44 : decode cX10_write 44 = .ok (.aload_n 0, 1) := by decide +kernel
theorem dX10_write_45 : decode cX10_write 45 = .ok (.getfield 89, 3) := by decide +kernel
theorem dX10_write_48 : decode cX10_write 48 = .ok (.aload_n 0, 1) := by decide +kernel
theorem dX10_write_49 : decode cX10_write 49 = .ok (.getfield 188, 3) := by decide +kernel
theorem dX10_write_52 : decode cX10_write 52 = .ok (.iload_n 3, 1) := by decide +kernel
theorem dX10_write_53 : decode cX10_write 53 = .ok (.bastore, 1) := by decide +kernel
theorem dX10_write_54 : decode cX10_write 54 = .ok (.aload_n 0, 1) := by decide +kernel
theorem dX10_write_55 : decode cX10_write 55 = .ok (.dup, 1) := by decide +kernel
theorem dX10_write_56 : decode cX10_write 56 = .ok (.getfield 188, 3) := by decide +kernel
theorem dX10_write_59 : decode cX10_write 59 = .ok (.iconst 1, 1) := by decide +kernel
theorem dX10_write_60 : decode cX10_write 60 = .ok (.iadd, 1) := by decide +kernel
theorem dX10_write_61 : decode cX10_write 61 = .ok (.putfield 188, 3) := by decide +kernel
theorem dX10_write_64 : decode cX10_write 64 = .ok (.aload_n 0, 1) := by decide +kernel
theorem dX10_write_65 : decode cX10_write 65 = .ok (.getfield 188, 3) := by decide +kernel
theorem dX10_write_68 : decode cX10_write 68 = .ok (.ireturn, 1) := by decide +kernel
theorem dX10_tear_0 : decode cX10_tear 0 = .ok (.aload_n 0, 1) := by decide +kernel
theorem dX10_tear_1 : decode cX10_tear 1 = .ok (.getfield 185, 3) := by decide +kernel
theorem dX10_tear_4 : decode cX10_tear 4 = .ok (.aload_n 0, 1) := by decide +kernel
theorem dX10_tear_5 : decode cX10_tear 5 = .ok (.getfield 188, 3) := by decide +kernel
theorem dX10_tear_8 : decode cX10_tear 8 = .ok (.iadd, 1) := by decide +kernel
theorem dX10_tear_9 : decode cX10_tear 9 = .ok (.istore_n 1, 1) := by decide +kernel
theorem dX10_tear_10 : decode cX10_tear 10 = .ok (.aload_n 0, 1) := by decide +kernel
theorem dX10_tear_11 : decode cX10_tear 11 = .ok (.iconst 0, 1) := by decide +kernel
theorem dX10_tear_12 : decode cX10_tear 12 = .ok (.putfield 185, 3) := by decide +kernel
theorem dX10_tear_15 : decode cX10_tear 15 = .ok (.aload_n 0, 1) := by decide +kernel
theorem dX10_tear_16 : decode cX10_tear 16 = .ok (.iconst 0, 1) := by decide +kernel
theorem dX10_tear_17 : decode cX10_tear 17 = .ok (.putfield 188, 3) := by decide +kernel
theorem dX10_tear_20 : decode cX10_tear 20 = .ok (.iload_n 1, 1) := by decide +kernel
theorem dX10_tear_21 : decode cX10_tear 21 = .ok (.ireturn, 1) := by decide +kernel
theorem dX10_judge_0 : decode cX10_judge 0 = .ok (.iconst 0, 1) := by decide +kernel
theorem dX10_judge_1 : decode cX10_judge 1 = .ok (.istore_n 1, 1) := by decide +kernel
theorem dX10_judge_2 : decode cX10_judge 2 = .ok (.iload_n 1, 1) := by decide +kernel
theorem dX10_judge_3 : decode cX10_judge 3 = .ok (.aload_n 0, 1) := by decide +kernel
theorem dX10_judge_4 : decode cX10_judge 4 = .ok (.getfield 188, 3) := by decide +kernel
theorem dX10_judge_7 : decode cX10_judge 7 = .ok (.if_icmp .ge 43, 3) := by decide +kernel
theorem dX10_judge_10 : decode cX10_judge 10 = .ok (.aload_n 0, 1) := by decide +kernel
theorem dX10_judge_11 : decode cX10_judge 11 = .ok (.getfield 29, 3) := by decide +kernel
theorem dX10_judge_14 : decode cX10_judge 14 = .ok (.bipush 35, 2) := by decide +kernel
theorem dX10_judge_16 : decode cX10_judge 16 = .ok (.aload_n 0, 1) := by decide +kernel
theorem dX10_judge_17 : decode cX10_judge 17 = .ok (.getfield 83, 3) := by decide +kernel
theorem dX10_judge_20 : decode cX10_judge 20 = .ok (.iload_n 1, 1) := by decide +kernel
theorem dX10_judge_21 : decode cX10_judge 21 = .ok (.iaload, 1) := by decide +kernel
theorem dX10_judge_22 : decode cX10_judge 22 = .ok (.iadd, 1) := by decide +kernel
theorem dX10_judge_23 : decode cX10_judge 23 = .ok (.iaload, 1) := by decide +kernel
theorem dX10_judge_24 : decode cX10_judge 24 = .ok (.aload_n 0, 1) := by decide +kernel
theorem dX10_judge_25 : decode cX10_judge 25 = .ok (.getfield 86, 3) := by decide +kernel
theorem dX10_judge_28 : decode cX10_judge 28 = .ok (.iload_n 1, 1) := by decide +kernel
theorem dX10_judge_29 : decode cX10_judge 29 = .ok (.iaload, 1) := by decide +kernel
theorem dX10_judge_30 : decode cX10_judge 30 = .ok (.invokestatic 194, 3) := by decide +kernel
theorem dX10_judge_33 : decode cX10_judge 33 = .ok (.aload_n 0, 1) := by decide +kernel
theorem dX10_judge_34 : decode cX10_judge 34 = .ok (.getfield 89, 3) := by decide +kernel
theorem dX10_judge_37 : decode cX10_judge 37 = .ok (.iload_n 1, 1) := by decide +kernel
theorem dX10_judge_38 : decode cX10_judge 38 = .ok (.baload, 1) := by decide +kernel
theorem dX10_judge_39 : decode cX10_judge 39 = .ok (.if_icmp .eq 5, 3) := by decide +kernel
theorem dX10_judge_42 : decode cX10_judge 42 = .ok (.iload_n 1, 1) := by decide +kernel
theorem dX10_judge_43 : decode cX10_judge 43 = .ok (.ireturn, 1) := by decide +kernel
theorem dX10_judge_44 : decode cX10_judge 44 = .ok (.iinc 1 1, 3) := by decide +kernel
theorem dX10_judge_47 : decode cX10_judge 47 = .ok (.goto (-45), 3) := by decide +kernel
theorem dX10_judge_50 : decode cX10_judge 50 = .ok (.iconst (-1), 1) := by decide +kernel
theorem dX10_judge_51 : decode cX10_judge 51 = .ok (.ireturn, 1) := by decide +kernel
theorem dX10_seed_0 : decode cX10_seed 0 = .ok (.iload_n 1, 1) := by decide +kernel
theorem dX10_seed_1 : decode cX10_seed 1 = .ok (.ifCond .ge 6, 3) := by decide +kernel
theorem dX10_seed_4 : decode cX10_seed 4 = .ok (.ldc 111, 2) := by decide +kernel
theorem dX10_seed_6 : decode cX10_seed 6 = .ok (.ireturn, 1) := by decide +kernel
theorem dX10_seed_7 : decode cX10_seed 7 = .ok (.aload_n 0, 1) := by decide +kernel
theorem dX10_seed_8 : decode cX10_seed 8 = .ok (.getfield 255, 3) := by decide +kernel
theorem dX10_seed_11 : decode cX10_seed 11 = .ok (.istore_n 2, 1) := by decide +kernel
theorem dX10_seed_12 : decode cX10_seed 12 = .ok (.aload_n 0, 1) := by decide +kernel
theorem dX10_seed_13 : decode cX10_seed 13 = .ok (.iload_n 1, 1) := by decide +kernel
theorem dX10_seed_14 : decode cX10_seed 14 = .ok (.putfield 255, 3) := by decide +kernel
theorem dX10_seed_17 : decode cX10_seed 17 = .ok (.iload_n 2, 1) := by decide +kernel
theorem dX10_seed_18 : decode cX10_seed 18 = .ok (.ireturn, 1) := by decide +kernel
theorem dX10_keep_0 : decode cX10_keep 0 = .ok (.iload_n 1, 1) := by decide +kernel
theorem dX10_keep_1 : decode cX10_keep 1 = .ok (.i2l, 1) := by decide +kernel
theorem dX10_keep_2 : decode cX10_keep 2 = .ok (.lconst 0, 1) := by decide +kernel
theorem dX10_keep_3 : decode cX10_keep 3 = .ok (.lconst 1, 1) := by decide +kernel
theorem dX10_keep_4 : decode cX10_keep 4 = .ok (.invokestatic 105, 3) := by decide +kernel
theorem dX10_keep_7 : decode cX10_keep 7 = .ok (.ifCond .ne 6, 3) := by decide +kernel
theorem dX10_keep_10 : decode cX10_keep 10 = .ok (.ldc 207, 2) := by decide +kernel
theorem dX10_keep_12 : decode cX10_keep 12 = .ok (.ireturn, 1) := by decide +kernel
theorem dX10_keep_13 : decode cX10_keep 13 = .ok (.iconst 0, 1) := by decide +kernel
theorem dX10_keep_14 : decode cX10_keep 14 = .ok (.istore_n 2, 1) := by decide +kernel
theorem dX10_keep_15 : decode cX10_keep 15 = .ok (.iload_n 2, 1) := by decide +kernel
theorem dX10_keep_16 : decode cX10_keep 16 = .ok (.bipush 43, 2) := by decide +kernel
theorem dX10_keep_18 : decode cX10_keep 18 = .ok (.if_icmp .ge 26, 3) := by decide +kernel
theorem dX10_keep_21 : decode cX10_keep 21 = .ok (.aload_n 0, 1) := by decide +kernel
theorem dX10_keep_22 : decode cX10_keep 22 = .ok (.getfield 93, 3) := by decide +kernel
theorem dX10_keep_25 : decode cX10_keep 25 = .ok (.bipush 44, 2) := by decide +kernel
theorem dX10_keep_27 : decode cX10_keep 27 = .ok (.iload_n 1, 1) := by decide +kernel
theorem dX10_keep_28 : decode cX10_keep 28 = .ok (.imul, 1) := by decide +kernel
theorem dX10_keep_29 : decode cX10_keep 29 = .ok (.iload_n 2, 1) := by decide +kernel
theorem dX10_keep_30 : decode cX10_keep 30 = .ok (.iadd, 1) := by decide +kernel
theorem dX10_keep_31 : decode cX10_keep 31 = .ok (.aload_n 0, 1) := by decide +kernel
theorem dX10_keep_32 : decode cX10_keep 32 = .ok (.getfield 29, 3) := by decide +kernel
theorem dX10_keep_35 : decode cX10_keep 35 = .ok (.iload_n 2, 1) := by decide +kernel
theorem dX10_keep_36 : decode cX10_keep 36 = .ok (.iaload, 1) := by decide +kernel
theorem dX10_keep_37 : decode cX10_keep 37 = .ok (.iastore, 1) := by decide +kernel
theorem dX10_keep_38 : decode cX10_keep 38 = .ok (.iinc 2 1, 3) := by decide +kernel
theorem dX10_keep_41 : decode cX10_keep 41 = .ok (.goto (-26), 3) := by decide +kernel
theorem dX10_keep_44 : decode cX10_keep 44 = .ok (.aload_n 0, 1) := by decide +kernel
theorem dX10_keep_45 : decode cX10_keep 45 = .ok (.getfield 93, 3) := by decide +kernel
theorem dX10_keep_48 : decode cX10_keep 48 = .ok (.bipush 44, 2) := by decide +kernel
theorem dX10_keep_50 : decode cX10_keep 50 = .ok (.iload_n 1, 1) := by decide +kernel
theorem dX10_keep_51 : decode cX10_keep 51 = .ok (.imul, 1) := by decide +kernel
theorem dX10_keep_52 : decode cX10_keep 52 = .ok (.bipush 43, 2) := by decide +kernel
theorem dX10_keep_54 : decode cX10_keep 54 = .ok (.iadd, 1) := by decide +kernel
theorem dX10_keep_55 : decode cX10_keep 55 = .ok (.aload_n 0, 1) := by decide +kernel
theorem dX10_keep_56 : decode cX10_keep 56 = .ok (.getfield 255, 3) := by decide +kernel
theorem dX10_keep_59 : decode cX10_keep 59 = .ok (.iastore, 1) := by decide +kernel
theorem dX10_keep_60 : decode cX10_keep 60 = .ok (.aload_n 0, 1) := by decide +kernel
theorem dX10_keep_61 : decode cX10_keep 61 = .ok (.getfield 96, 3) := by decide +kernel
theorem dX10_keep_64 : decode cX10_keep 64 = .ok (.iload_n 1, 1) := by decide +kernel
theorem dX10_keep_65 : decode cX10_keep 65 = .ok (.iconst 1, 1) := by decide +kernel
theorem dX10_keep_66 : decode cX10_keep 66 = .ok (.bastore, 1) := by decide +kernel
theorem dX10_keep_67 : decode cX10_keep 67 = .ok (.aload_n 0, 1) := by decide +kernel
theorem dX10_keep_68 : decode cX10_keep 68 = .ok (.iconst 0, 1) := by decide +kernel
theorem dX10_keep_69 : decode cX10_keep 69 = .ok (.putfield 191, 3) := by decide +kernel
theorem dX10_keep_72 : decode cX10_keep 72 = .ok (.iconst 1, 1) := by decide +kernel
theorem dX10_keep_73 : decode cX10_keep 73 = .ok (.ireturn, 1) := by decide +kernel
theorem dX10_goBack_0 : decode cX10_goBack 0 = .ok (.iload_n 1, 1) := by decide +kernel
theorem dX10_goBack_1 : decode cX10_goBack 1 = .ok (.i2l, 1) := by decide +kernel
theorem dX10_goBack_2 : decode cX10_goBack 2 = .ok (.lconst 0, 1) := by decide +kernel
theorem dX10_goBack_3 : decode cX10_goBack 3 = .ok (.lconst 1, 1) := by decide +kernel
theorem dX10_goBack_4 : decode cX10_goBack 4 = .ok (.invokestatic 105, 3) := by decide +kernel
theorem dX10_goBack_7 : decode cX10_goBack 7 = .ok (.ifCond .ne 6, 3) := by decide +kernel
theorem dX10_goBack_10 : decode cX10_goBack 10 = .ok (.ldc 207, 2) := by decide +kernel
theorem dX10_goBack_12 : decode cX10_goBack 12 = .ok (.ireturn, 1) := by decide +kernel
theorem dX10_goBack_13 : decode cX10_goBack 13 = .ok (.aload_n 0, 1) := by decide +kernel
theorem dX10_goBack_14 : decode cX10_goBack 14 = .ok (.getfield 96, 3) := by decide +kernel
theorem dX10_goBack_17 : decode cX10_goBack 17 = .ok (.iload_n 1, 1) := by decide +kernel
theorem dX10_goBack_18 : decode cX10_goBack 18 = .ok (.baload, 1) := by decide +kernel
theorem dX10_goBack_19 : decode cX10_goBack 19 = .ok (.ifCond .ne 6, 3) := by decide +kernel
theorem dX10_goBack_22 : decode cX10_goBack 22 = .ok (.ldc 232, 2) := by decide +kernel
theorem dX10_goBack_24 : decode cX10_goBack 24 = .ok (.ireturn, 1) := by decide +kernel
theorem dX10_goBack_25 : decode cX10_goBack 25 = .ok (.iconst 0, 1) := by decide +kernel
theorem dX10_goBack_26 : decode cX10_goBack 26 = .ok (.istore_n 2, 1) := by decide +kernel
theorem dX10_goBack_27 : decode cX10_goBack 27 = .ok (.iload_n 2, 1) := by decide +kernel
theorem dX10_goBack_28 : decode cX10_goBack 28 = .ok (.bipush 43, 2) := by decide +kernel
theorem dX10_goBack_30 : decode cX10_goBack 30 = .ok (.if_icmp .ge 26, 3) := by decide +kernel
theorem dX10_goBack_33 : decode cX10_goBack 33 = .ok (.aload_n 0, 1) := by decide +kernel
theorem dX10_goBack_34 : decode cX10_goBack 34 = .ok (.getfield 29, 3) := by decide +kernel
theorem dX10_goBack_37 : decode cX10_goBack 37 = .ok (.iload_n 2, 1) := by decide +kernel
theorem dX10_goBack_38 : decode cX10_goBack 38 = .ok (.aload_n 0, 1) := by decide +kernel
theorem dX10_goBack_39 : decode cX10_goBack 39 = .ok (.getfield 93, 3) := by decide +kernel
theorem dX10_goBack_42 : decode cX10_goBack 42 = .ok (.bipush 44, 2) := by decide +kernel
theorem dX10_goBack_44 : decode cX10_goBack 44 = .ok (.iload_n 1, 1) := by decide +kernel
theorem dX10_goBack_45 : decode cX10_goBack 45 = .ok (.imul, 1) := by decide +kernel
theorem dX10_goBack_46 : decode cX10_goBack 46 = .ok (.iload_n 2, 1) := by decide +kernel
theorem dX10_goBack_47 : decode cX10_goBack 47 = .ok (.iadd, 1) := by decide +kernel
theorem dX10_goBack_48 : decode cX10_goBack 48 = .ok (.iaload, 1) := by decide +kernel
theorem dX10_goBack_49 : decode cX10_goBack 49 = .ok (.iastore, 1) := by decide +kernel
theorem dX10_goBack_50 : decode cX10_goBack 50 = .ok (.iinc 2 1, 3) := by decide +kernel
theorem dX10_goBack_53 : decode cX10_goBack 53 = .ok (.goto (-26), 3) := by decide +kernel
theorem dX10_goBack_56 : decode cX10_goBack 56 = .ok (.aload_n 0, 1) := by decide +kernel
theorem dX10_goBack_57 : decode cX10_goBack 57 = .ok (.aload_n 0, 1) := by decide +kernel
theorem dX10_goBack_58 : decode cX10_goBack 58 = .ok (.getfield 93, 3) := by decide +kernel
theorem dX10_goBack_61 : decode cX10_goBack 61 = .ok (.bipush 44, 2) := by decide +kernel
theorem dX10_goBack_63 : decode cX10_goBack 63 = .ok (.iload_n 1, 1) := by decide +kernel
theorem dX10_goBack_64 : decode cX10_goBack 64 = .ok (.imul, 1) := by decide +kernel
theorem dX10_goBack_65 : decode cX10_goBack 65 = .ok (.bipush 43, 2) := by decide +kernel
theorem dX10_goBack_67 : decode cX10_goBack 67 = .ok (.iadd, 1) := by decide +kernel
theorem dX10_goBack_68 : decode cX10_goBack 68 = .ok (.iaload, 1) := by decide +kernel
theorem dX10_goBack_69 : decode cX10_goBack 69 = .ok (.putfield 255, 3) := by decide +kernel
theorem dX10_goBack_72 : decode cX10_goBack 72 = .ok (.aload_n 0, 1) := by decide +kernel
theorem dX10_goBack_73 : decode cX10_goBack 73 = .ok (.iconst 0, 1) := by decide +kernel
theorem dX10_goBack_74 : decode cX10_goBack 74 = .ok (.putfield 191, 3) := by decide +kernel
theorem dX10_goBack_77 : decode cX10_goBack 77 = .ok (.iconst 1, 1) := by decide +kernel
theorem dX10_goBack_78 : decode cX10_goBack 78 = .ok (.ireturn, 1) := by decide +kernel
theorem dJ6_bitCount_0f7a4_0 : decode cJ6_bitCount_0f7a4 0 = .ok (.iload_n 0, 1) := by decide +kernel
theorem dJ6_bitCount_0f7a4_1 : decode cJ6_bitCount_0f7a4 1 = .ok (.iload_n 0, 1) := by decide +kernel
theorem dJ6_bitCount_0f7a4_2 : decode cJ6_bitCount_0f7a4 2 = .ok (.iconst 1, 1) := by decide +kernel
theorem dJ6_bitCount_0f7a4_3 : decode cJ6_bitCount_0f7a4 3 = .ok (.iushr, 1) := by decide +kernel
theorem dJ6_bitCount_0f7a4_4 : decode cJ6_bitCount_0f7a4 4 = .ok (.ldc_w 265, 3) := by decide +kernel
theorem dJ6_bitCount_0f7a4_7 : decode cJ6_bitCount_0f7a4 7 = .ok (.iand, 1) := by decide +kernel
theorem dJ6_bitCount_0f7a4_8 : decode cJ6_bitCount_0f7a4 8 = .ok (.isub, 1) := by decide +kernel
theorem dJ6_bitCount_0f7a4_9 : decode cJ6_bitCount_0f7a4 9 = .ok (.istore_n 0, 1) := by decide +kernel
theorem dJ6_bitCount_0f7a4_10 : decode cJ6_bitCount_0f7a4 10 = .ok (.iload_n 0, 1) := by decide +kernel
theorem dJ6_bitCount_0f7a4_11 : decode cJ6_bitCount_0f7a4 11 = .ok (.ldc_w 266, 3) := by decide +kernel
theorem dJ6_bitCount_0f7a4_14 : decode cJ6_bitCount_0f7a4 14 = .ok (.iand, 1) := by decide +kernel
theorem dJ6_bitCount_0f7a4_15 : decode cJ6_bitCount_0f7a4 15 = .ok (.iload_n 0, 1) := by decide +kernel
theorem dJ6_bitCount_0f7a4_16 : decode cJ6_bitCount_0f7a4 16 = .ok (.iconst 2, 1) := by decide +kernel
theorem dJ6_bitCount_0f7a4_17 : decode cJ6_bitCount_0f7a4 17 = .ok (.iushr, 1) := by decide +kernel
theorem dJ6_bitCount_0f7a4_18 : decode cJ6_bitCount_0f7a4 18 = .ok (.ldc_w 266, 3) := by decide +kernel
theorem dJ6_bitCount_0f7a4_21 : decode cJ6_bitCount_0f7a4 21 = .ok (.iand, 1) := by decide +kernel
theorem dJ6_bitCount_0f7a4_22 : decode cJ6_bitCount_0f7a4 22 = .ok (.iadd, 1) := by decide +kernel
theorem dJ6_bitCount_0f7a4_23 : decode cJ6_bitCount_0f7a4 23 = .ok (.istore_n 0, 1) := by decide +kernel
theorem dJ6_bitCount_0f7a4_24 : decode cJ6_bitCount_0f7a4 24 = .ok (.iload_n 0, 1) := by decide +kernel
theorem dJ6_bitCount_0f7a4_25 : decode cJ6_bitCount_0f7a4 25 = .ok (.iload_n 0, 1) := by decide +kernel
theorem dJ6_bitCount_0f7a4_26 : decode cJ6_bitCount_0f7a4 26 = .ok (.iconst 4, 1) := by decide +kernel
theorem dJ6_bitCount_0f7a4_27 : decode cJ6_bitCount_0f7a4 27 = .ok (.iushr, 1) := by decide +kernel
theorem dJ6_bitCount_0f7a4_28 : decode cJ6_bitCount_0f7a4 28 = .ok (.iadd, 1) := by decide +kernel
theorem dJ6_bitCount_0f7a4_29 : decode cJ6_bitCount_0f7a4 29 = .ok (.ldc_w 267, 3) := by decide +kernel
theorem dJ6_bitCount_0f7a4_32 : decode cJ6_bitCount_0f7a4 32 = .ok (.iand, 1) := by decide +kernel
theorem dJ6_bitCount_0f7a4_33 : decode cJ6_bitCount_0f7a4 33 = .ok (.istore_n 0, 1) := by decide +kernel
theorem dJ6_bitCount_0f7a4_34 : decode cJ6_bitCount_0f7a4 34 = .ok (.iload_n 0, 1) := by decide +kernel
theorem dJ6_bitCount_0f7a4_35 : decode cJ6_bitCount_0f7a4 35 = .ok (.iload_n 0, 1) := by decide +kernel
theorem dJ6_bitCount_0f7a4_36 : decode cJ6_bitCount_0f7a4 36 = .ok (.bipush 8, 2) := by decide +kernel
theorem dJ6_bitCount_0f7a4_38 : decode cJ6_bitCount_0f7a4 38 = .ok (.iushr, 1) := by decide +kernel
theorem dJ6_bitCount_0f7a4_39 : decode cJ6_bitCount_0f7a4 39 = .ok (.iadd, 1) := by decide +kernel
theorem dJ6_bitCount_0f7a4_40 : decode cJ6_bitCount_0f7a4 40 = .ok (.istore_n 0, 1) := by decide +kernel
theorem dJ6_bitCount_0f7a4_41 : decode cJ6_bitCount_0f7a4 41 = .ok (.iload_n 0, 1) := by decide +kernel
theorem dJ6_bitCount_0f7a4_42 : decode cJ6_bitCount_0f7a4 42 = .ok (.iload_n 0, 1) := by decide +kernel
theorem dJ6_bitCount_0f7a4_43 : decode cJ6_bitCount_0f7a4 43 = .ok (.bipush 16, 2) := by decide +kernel
theorem dJ6_bitCount_0f7a4_45 : decode cJ6_bitCount_0f7a4 45 = .ok (.iushr, 1) := by decide +kernel
theorem dJ6_bitCount_0f7a4_46 : decode cJ6_bitCount_0f7a4 46 = .ok (.iadd, 1) := by decide +kernel
theorem dJ6_bitCount_0f7a4_47 : decode cJ6_bitCount_0f7a4 47 = .ok (.istore_n 0, 1) := by decide +kernel
theorem dJ6_bitCount_0f7a4_48 : decode cJ6_bitCount_0f7a4 48 = .ok (.iload_n 0, 1) := by decide +kernel
theorem dJ6_bitCount_0f7a4_49 : decode cJ6_bitCount_0f7a4 49 = .ok (.bipush 63, 2) := by decide +kernel
theorem dJ6_bitCount_0f7a4_51 : decode cJ6_bitCount_0f7a4 51 = .ok (.iand, 1) := by decide +kernel
theorem dJ6_bitCount_0f7a4_52 : decode cJ6_bitCount_0f7a4 52 = .ok (.ireturn, 1) := by decide +kernel
theorem dJ9_abs_0f7a4_0 : decode cJ9_abs_0f7a4 0 = .ok (.iload_n 0, 1) := by decide +kernel
theorem dJ9_abs_0f7a4_1 : decode cJ9_abs_0f7a4 1 = .ok (.ifCond .ge 8, 3) := by decide +kernel
theorem dJ9_abs_0f7a4_4 : decode cJ9_abs_0f7a4 4 = .ok (.iload_n 0, 1) := by decide +kernel
theorem dJ9_abs_0f7a4_5 : decode cJ9_abs_0f7a4 5 = .ok (.ineg, 1) := by decide +kernel
theorem dJ9_abs_0f7a4_6 : decode cJ9_abs_0f7a4 6 = .ok (.goto 4, 3) := by decide +kernel
theorem dJ9_abs_0f7a4_9 : decode cJ9_abs_0f7a4 9 = .ok (.iload_n 0, 1) := by decide +kernel
theorem dJ9_abs_0f7a4_10 : decode cJ9_abs_0f7a4 10 = .ok (.ireturn, 1) := by decide +kernel
theorem dJ9_max_7cf53_0 : decode cJ9_max_7cf53 0 = .ok (.iload_n 0, 1) := by decide +kernel
theorem dJ9_max_7cf53_1 : decode cJ9_max_7cf53 1 = .ok (.iload_n 1, 1) := by decide +kernel
theorem dJ9_max_7cf53_2 : decode cJ9_max_7cf53 2 = .ok (.if_icmp .lt 7, 3) := by decide +kernel
theorem dJ9_max_7cf53_5 : decode cJ9_max_7cf53 5 = .ok (.iload_n 0, 1) := by decide +kernel
theorem dJ9_max_7cf53_6 : decode cJ9_max_7cf53 6 = .ok (.goto 4, 3) := by decide +kernel
theorem dJ9_max_7cf53_9 : decode cJ9_max_7cf53 9 = .ok (.iload_n 1, 1) := by decide +kernel
theorem dJ9_max_7cf53_10 : decode cJ9_max_7cf53 10 = .ok (.ireturn, 1) := by decide +kernel
theorem dJ9_min_7cf53_0 : decode cJ9_min_7cf53 0 = .ok (.iload_n 0, 1) := by decide +kernel
theorem dJ9_min_7cf53_1 : decode cJ9_min_7cf53 1 = .ok (.iload_n 1, 1) := by decide +kernel
theorem dJ9_min_7cf53_2 : decode cJ9_min_7cf53 2 = .ok (.if_icmp .gt 7, 3) := by decide +kernel
theorem dJ9_min_7cf53_5 : decode cJ9_min_7cf53 5 = .ok (.iload_n 0, 1) := by decide +kernel
theorem dJ9_min_7cf53_6 : decode cJ9_min_7cf53 6 = .ok (.goto 4, 3) := by decide +kernel
theorem dJ9_min_7cf53_9 : decode cJ9_min_7cf53 9 = .ok (.iload_n 1, 1) := by decide +kernel
theorem dJ9_min_7cf53_10 : decode cJ9_min_7cf53 10 = .ok (.ireturn, 1) := by decide +kernel
theorem dL_law_0 : decode cL_law 0 = .ok (.new 7, 3) := by decide +kernel
theorem dL_law_3 : decode cL_law 3 = .ok (.dup, 1) := by decide +kernel
theorem dL_law_4 : decode cL_law 4 = .ok (.invokespecial 9, 3) := by decide +kernel
theorem dL_law_7 : decode cL_law 7 = .ok (.astore_n 1, 1) := by decide +kernel
theorem dL_law_8 : decode cL_law 8 = .ok (.new 10, 3) := by decide +kernel
theorem dL_law_11 : decode cL_law 11 = .ok (.dup, 1) := by decide +kernel
theorem dL_law_12 : decode cL_law 12 = .ok (.invokespecial 12, 3) := by decide +kernel
theorem dL_law_15 : decode cL_law 15 = .ok (.astore_n 2, 1) := by decide +kernel
theorem dL_law_16 : decode cL_law 16 = .ok (.iconst 0, 1) := by decide +kernel
theorem dL_law_17 : decode cL_law 17 = .ok (.istore_n 3, 1) := by decide +kernel
theorem dL_law_18 : decode cL_law 18 = .ok (.iload_n 3, 1) := by decide +kernel
