theorem dX7_fits_4 : decode cX7_fits 4 = .ok (.aload_n 1, 1) := by decide +kernel
theorem dX7_fits_5 : decode cX7_fits 5 = .ok (.aload_n 0, 1) := by decide +kernel
theorem dX7_fits_6 : decode cX7_fits 6 = .ok (.getfield 9, 3) := by decide +kernel
theorem dX7_fits_9 : decode cX7_fits 9 = .ok (.iload_n 3, 1) := by decide +kernel
theorem dX7_fits_10 : decode cX7_fits 10 = .ok (.iconst 1, 1) := by decide +kernel
theorem dX7_fits_11 : decode cX7_fits 11 = .ok (.isub, 1) := by decide +kernel
theorem dX7_fits_12 : decode cX7_fits 12 = .ok (.iaload, 1) := by decide +kernel
theorem dX7_fits_13 : decode cX7_fits 13 = .ok (.iload_n 2, 1) := by decide +kernel
theorem dX7_fits_14 : decode cX7_fits 14 = .ok (.invokevirtual 61, 3) := by decide +kernel
theorem dX7_fits_17 : decode cX7_fits 17 = .ok (.iconst 1, 1) := by decide +kernel
theorem dX7_fits_18 : decode cX7_fits 18 = .ok (.if_icmp .ne 5, 3) := by decide +kernel
theorem dX7_fits_21 : decode cX7_fits 21 = .ok (.iconst 0, 1) := by decide +kernel
theorem dX7_fits_22 : decode cX7_fits 22 = .ok (.ireturn, 1) := by decide +kernel
theorem dX7_fits_23 : decode cX7_fits 23 = .ok (.aload_n 0, 1) := by decide +kernel
theorem dX7_fits_24 : decode cX7_fits 24 = .ok (.getfield 18, 3) := by decide +kernel
theorem dX7_fits_27 : decode cX7_fits 27 = .ok (.aload_n 1, 1) := by decide +kernel
theorem dX7_fits_28 : decode cX7_fits 28 = .ok (.iload_n 2, 1) := by decide +kernel
theorem dX7_fits_29 : decode cX7_fits 29 = .ok (.invokevirtual 65, 3) := by decide +kernel
theorem dX7_fits_32 : decode cX7_fits 32 = .ok (.ifCond .ne 7, 3) := by decide +kernel
theorem dX7_fits_35 : decode cX7_fits 35 = .ok (.iconst 1, 1) := by decide +kernel
theorem dX7_fits_36 : decode cX7_fits 36 = .ok (.goto 4, 3) := by decide +kernel
theorem dX7_fits_39 : decode cX7_fits 39 = .ok (.iconst 0, 1) := by decide +kernel
theorem dX7_fits_40 : decode cX7_fits 40 = .ok (.ireturn, 1) := by decide +kernel
theorem dX8_areStars_0 : decode cX8_areStars 0 = .ok (.iload_n 0, 1) := by decide +kernel
theorem dX8_areStars_1 : decode cX8_areStars 1 = .ok (.iconst 1, 1) := by decide +kernel
theorem dX8_areStars_2 : decode cX8_areStars 2 = .ok (.if_icmp .lt 9, 3) := by decide +kernel
theorem dX8_areStars_5 : decode cX8_areStars 5 = .ok (.iload_n 0, 1) := by decide +kernel
theorem dX8_areStars_6 : decode cX8_areStars 6 = .ok (.ldc 9, 2) := by decide +kernel
theorem dX8_areStars_8 : decode cX8_areStars 8 = .ok (.if_icmp .le 5, 3) := by decide +kernel
theorem dX8_areStars_11 : decode cX8_areStars 11 = .ok (.iconst 0, 1) := by decide +kernel
theorem dX8_areStars_12 : decode cX8_areStars 12 = .ok (.ireturn, 1) := by decide +kernel
theorem dX8_areStars_13 : decode cX8_areStars 13 = .ok (.iload_n 0, 1) := by decide +kernel
theorem dX8_areStars_14 : decode cX8_areStars 14 = .ok (.istore_n 1, 1) := by decide +kernel
theorem dX8_areStars_15 : decode cX8_areStars 15 = .ok (.iload_n 1, 1) := by decide +kernel
theorem dX8_areStars_16 : decode cX8_areStars 16 = .ok (.ifCond .le 28, 3) := by decide +kernel
theorem dX8_areStars_19 : decode cX8_areStars 19 = .ok (.iload_n 1, 1) := by decide +kernel
theorem dX8_areStars_20 : decode cX8_areStars 20 = .ok (.bipush 10, 2) := by decide +kernel
theorem dX8_areStars_22 : decode cX8_areStars 22 = .ok (.irem, 1) := by decide +kernel
theorem dX8_areStars_23 : decode cX8_areStars 23 = .ok (.istore_n 2, 1) := by decide +kernel
theorem dX8_areStars_24 : decode cX8_areStars 24 = .ok (.iload_n 2, 1) := by decide +kernel
theorem dX8_areStars_25 : decode cX8_areStars 25 = .ok (.iconst 1, 1) := by decide +kernel
theorem dX8_areStars_26 : decode cX8_areStars 26 = .ok (.if_icmp .lt 8, 3) := by decide +kernel
theorem dX8_areStars_29 : decode cX8_areStars 29 = .ok (.iload_n 2, 1) := by decide +kernel
theorem dX8_areStars_30 : decode cX8_areStars 30 = .ok (.iconst 5, 1) := by decide +kernel
theorem dX8_areStars_31 : decode cX8_areStars 31 = .ok (.if_icmp .le 5, 3) := by decide +kernel
theorem dX8_areStars_34 : decode cX8_areStars 34 = .ok (.iconst 0, 1) := by decide +kernel
theorem dX8_areStars_35 : decode cX8_areStars 35 = .ok (.ireturn, 1) := by decide +kernel
theorem dX8_areStars_36 : decode cX8_areStars 36 = .ok (.iload_n 1, 1) := by decide +kernel
theorem dX8_areStars_37 : decode cX8_areStars 37 = .ok (.bipush 10, 2) := by decide +kernel
theorem dX8_areStars_39 : decode cX8_areStars 39 = .ok (.idiv, 1) := by decide +kernel
theorem dX8_areStars_40 : decode cX8_areStars 40 = .ok (.istore_n 1, 1) := by decide +kernel
theorem dX8_areStars_41 : decode cX8_areStars 41 = .ok (.goto (-26), 3) := by decide +kernel
theorem dX8_areStars_44 : decode cX8_areStars 44 = .ok (.iconst 1, 1) := by decide +kernel
theorem dX8_areStars_45 : decode cX8_areStars 45 = .ok (.ireturn, 1) := by decide +kernel
theorem dX8_count_0 : decode cX8_count 0 = .ok (.iconst 0, 1) := by decide +kernel
theorem dX8_count_1 : decode cX8_count 1 = .ok (.istore_n 1, 1) := by decide +kernel
theorem dX8_count_2 : decode cX8_count 2 = .ok (.iload_n 0, 1) := by decide +kernel
theorem dX8_count_3 : decode cX8_count 3 = .ok (.istore_n 2, 1) := by decide +kernel
theorem dX8_count_4 : decode cX8_count 4 = .ok (.iload_n 2, 1) := by decide +kernel
theorem dX8_count_5 : decode cX8_count 5 = .ok (.ifCond .le 14, 3) := by decide +kernel
theorem dX8_count_8 : decode cX8_count 8 = .ok (.iinc 1 1, 3) := by decide +kernel
theorem dX8_count_11 : decode cX8_count 11 = .ok (.iload_n 2, 1) := by decide +kernel
theorem dX8_count_12 : decode cX8_count 12 = .ok (.bipush 10, 2) := by decide +kernel
theorem dX8_count_14 : decode cX8_count 14 = .ok (.idiv, 1) := by decide +kernel
theorem dX8_count_15 : decode cX8_count 15 = .ok (.istore_n 2, 1) := by decide +kernel
theorem dX8_count_16 : decode cX8_count 16 = .ok (.goto (-12), 3) := by decide +kernel
theorem dX8_count_19 : decode cX8_count 19 = .ok (.iload_n 1, 1) := by decide +kernel
theorem dX8_count_20 : decode cX8_count 20 = .ok (.ireturn, 1) := by decide +kernel
theorem dX8_greens_0 : decode cX8_greens 0 = .ok (.iconst 0, 1) := by decide +kernel
theorem dX8_greens_1 : decode cX8_greens 1 = .ok (.istore_n 1, 1) := by decide +kernel
theorem dX8_greens_2 : decode cX8_greens 2 = .ok (.iload_n 0, 1) := by decide +kernel
theorem dX8_greens_3 : decode cX8_greens 3 = .ok (.istore_n 2, 1) := by decide +kernel
theorem dX8_greens_4 : decode cX8_greens 4 = .ok (.iload_n 2, 1) := by decide +kernel
theorem dX8_greens_5 : decode cX8_greens 5 = .ok (.ifCond .le 22, 3) := by decide +kernel
theorem dX8_greens_8 : decode cX8_greens 8 = .ok (.iload_n 2, 1) := by decide +kernel
theorem dX8_greens_9 : decode cX8_greens 9 = .ok (.bipush 10, 2) := by decide +kernel
theorem dX8_greens_11 : decode cX8_greens 11 = .ok (.irem, 1) := by decide +kernel
theorem dX8_greens_12 : decode cX8_greens 12 = .ok (.iconst 3, 1) := by decide +kernel
theorem dX8_greens_13 : decode cX8_greens 13 = .ok (.if_icmp .ne 6, 3) := by decide +kernel
theorem dX8_greens_16 : decode cX8_greens 16 = .ok (.iinc 1 1, 3) := by decide +kernel
theorem dX8_greens_19 : decode cX8_greens 19 = .ok (.iload_n 2, 1) := by decide +kernel
theorem dX8_greens_20 : decode cX8_greens 20 = .ok (.bipush 10, 2) := by decide +kernel
theorem dX8_greens_22 : decode cX8_greens 22 = .ok (.idiv, 1) := by decide +kernel
theorem dX8_greens_23 : decode cX8_greens 23 = .ok (.istore_n 2, 1) := by decide +kernel
theorem dX8_greens_24 : decode cX8_greens 24 = .ok (.goto (-20), 3) := by decide +kernel
theorem dX8_greens_27 : decode cX8_greens 27 = .ok (.iload_n 1, 1) := by decide +kernel
theorem dX8_greens_28 : decode cX8_greens 28 = .ok (.ireturn, 1) := by decide +kernel
theorem dX8_fromTheEnd_0 : decode cX8_fromTheEnd 0 = .ok (.iconst 0, 1) := by decide +kernel
theorem dX8_fromTheEnd_1 : decode cX8_fromTheEnd 1 = .ok (.istore_n 1, 1) := by decide +kernel
theorem dX8_fromTheEnd_2 : decode cX8_fromTheEnd 2 = .ok (.iload_n 0, 1) := by decide +kernel
theorem dX8_fromTheEnd_3 : decode cX8_fromTheEnd 3 = .ok (.istore_n 2, 1) := by decide +kernel
theorem dX8_fromTheEnd_4 : decode cX8_fromTheEnd 4 = .ok (.iload_n 2, 1) := by decide +kernel
theorem dX8_fromTheEnd_5 : decode cX8_fromTheEnd 5 = .ok (.ifCond .le 21, 3) := by decide +kernel
theorem dX8_fromTheEnd_8 : decode cX8_fromTheEnd 8 = .ok (.iload_n 1, 1) := by decide +kernel
theorem dX8_fromTheEnd_9 : decode cX8_fromTheEnd 9 = .ok (.bipush 10, 2) := by decide +kernel
theorem dX8_fromTheEnd_11 : decode cX8_fromTheEnd 11 = .ok (.imul, 1) := by decide +kernel
theorem dX8_fromTheEnd_12 : decode cX8_fromTheEnd 12 = .ok (.iload_n 2, 1) := by decide +kernel
theorem dX8_fromTheEnd_13 : decode cX8_fromTheEnd 13 = .ok (.bipush 10, 2) := by decide +kernel
theorem dX8_fromTheEnd_15 : decode cX8_fromTheEnd 15 = .ok (.irem, 1) := by decide +kernel
theorem dX8_fromTheEnd_16 : decode cX8_fromTheEnd 16 = .ok (.iadd, 1) := by decide +kernel
theorem dX8_fromTheEnd_17 : decode cX8_fromTheEnd 17 = .ok (.istore_n 1, 1) := by decide +kernel
theorem dX8_fromTheEnd_18 : decode cX8_fromTheEnd 18 = .ok (.iload_n 2, 1) := by decide +kernel
theorem dX8_fromTheEnd_19 : decode cX8_fromTheEnd 19 = .ok (.bipush 10, 2) := by decide +kernel
theorem dX8_fromTheEnd_21 : decode cX8_fromTheEnd 21 = .ok (.idiv, 1) := by decide +kernel
theorem dX8_fromTheEnd_22 : decode cX8_fromTheEnd 22 = .ok (.istore_n 2, 1) := by decide +kernel
theorem dX8_fromTheEnd_23 : decode cX8_fromTheEnd 23 = .ok (.goto (-19), 3) := by decide +kernel
theorem dX8_fromTheEnd_26 : decode cX8_fromTheEnd 26 = .ok (.iload_n 1, 1) := by decide +kernel
theorem dX8_fromTheEnd_27 : decode cX8_fromTheEnd 27 = .ok (.ireturn, 1) := by decide +kernel
theorem dX8_unlike_0 : decode cX8_unlike 0 = .ok (.iload_n 0, 1) := by decide +kernel
theorem dX8_unlike_1 : decode cX8_unlike 1 = .ok (.invokestatic 10, 3) := by decide +kernel
theorem dX8_unlike_4 : decode cX8_unlike 4 = .ok (.istore_n 2, 1) := by decide +kernel
theorem dX8_unlike_5 : decode cX8_unlike 5 = .ok (.iload_n 1, 1) := by decide +kernel
theorem dX8_unlike_6 : decode cX8_unlike 6 = .ok (.invokestatic 10, 3) := by decide +kernel
theorem dX8_unlike_9 : decode cX8_unlike 9 = .ok (.istore_n 3, 1) := by decide +kernel
theorem dX8_unlike_10 : decode cX8_unlike 10 = .ok (.iconst 0, 1) := by decide +kernel
theorem dX8_unlike_11 : decode cX8_unlike 11 = .ok (.istore 4, 2) := by decide +kernel
theorem dX8_unlike_13 : decode cX8_unlike 13 = .ok (.iconst 0, 1) := by decide +kernel
theorem dX8_unlike_14 : decode cX8_unlike 14 = .ok (.istore 5, 2) := by decide +kernel
theorem dX8_unlike_16 : decode cX8_unlike 16 = .ok (.iload 5, 2) := by decide +kernel
theorem dX8_unlike_18 : decode cX8_unlike 18 = .ok (.iconst 5, 1) := by decide +kernel
theorem dX8_unlike_19 : decode cX8_unlike 19 = .ok (.if_icmp .ge 33, 3) := by decide +kernel
theorem dX8_unlike_22 : decode cX8_unlike 22 = .ok (.iload_n 2, 1) := by decide +kernel
theorem dX8_unlike_23 : decode cX8_unlike 23 = .ok (.bipush 10, 2) := by decide +kernel
theorem dX8_unlike_25 : decode cX8_unlike 25 = .ok (.irem, 1) := by decide +kernel
theorem dX8_unlike_26 : decode cX8_unlike 26 = .ok (.iload_n 3, 1) := by decide +kernel
theorem dX8_unlike_27 : decode cX8_unlike 27 = .ok (.bipush 10, 2) := by decide +kernel
theorem dX8_unlike_29 : decode cX8_unlike 29 = .ok (.irem, 1) := by decide +kernel
theorem dX8_unlike_30 : decode cX8_unlike 30 = .ok (.if_icmp .eq 6, 3) := by decide +kernel
theorem dX8_unlike_33 : decode cX8_unlike 33 = .ok (.iinc 4 1, 3) := by decide +kernel
theorem dX8_unlike_36 : decode cX8_unlike 36 = .ok (.iload_n 2, 1) := by decide +kernel
theorem dX8_unlike_37 : decode cX8_unlike 37 = .ok (.bipush 10, 2) := by decide +kernel
theorem dX8_unlike_39 : decode cX8_unlike 39 = .ok (.idiv, 1) := by decide +kernel
theorem dX8_unlike_40 : decode cX8_unlike 40 = .ok (.istore_n 2, 1) := by decide +kernel
theorem dX8_unlike_41 : decode cX8_unlike 41 = .ok (.iload_n 3, 1) := by decide +kernel
theorem dX8_unlike_42 : decode cX8_unlike 42 = .ok (.bipush 10, 2) := by decide +kernel
theorem dX8_unlike_44 : decode cX8_unlike 44 = .ok (.idiv, 1) := by decide +kernel
theorem dX8_unlike_45 : decode cX8_unlike 45 = .ok (.istore_n 3, 1) := by decide +kernel
theorem dX8_unlike_46 : decode cX8_unlike 46 = .ok (.iinc 5 1, 3) := by decide +kernel
theorem dX8_unlike_49 : decode cX8_unlike 49 = .ok (.goto (-33), 3) := by decide +kernel
theorem dX8_unlike_52 : decode cX8_unlike 52 = .ok (.iload 4, 2) := by decide +kernel
theorem dX8_unlike_54 : decode cX8_unlike 54 = .ok (.ireturn, 1) := by decide +kernel
theorem dX9_init_0 : decode cX9_init 0 = .ok (.aload_n 0, 1) := by decide +kernel
theorem dX9_init_1 : decode cX9_init 1 = .ok (.invokespecial 1, 3) := by decide +kernel
theorem dX9_init_4 : decode cX9_init 4 = .ok (.aload_n 0, 1) := by decide +kernel
theorem dX9_init_5 : decode cX9_init 5 = .ok (.sipush 230, 3) := by decide +kernel
theorem dX9_init_8 : decode cX9_init 8 = .ok (.newarray .int, 2) := by decide +kernel
theorem dX9_init_10 : decode cX9_init 10 = .ok (.putfield 9, 3) := by decide +kernel
theorem dX9_init_13 : decode cX9_init 13 = .ok (.aload_n 0, 1) := by decide +kernel
theorem dX9_init_14 : decode cX9_init 14 = .ok (.iconst 0, 1) := by decide +kernel
theorem dX9_init_15 : decode cX9_init 15 = .ok (.putfield 13, 3) := by decide +kernel
theorem dX9_init_18 : decode cX9_init 18 = .ok (.aload_n 0, 1) := by decide +kernel
theorem dX9_init_19 : decode cX9_init 19 = .ok (.iconst (-1), 1) := by decide +kernel
theorem dX9_init_20 : decode cX9_init 20 = .ok (.putfield 17, 3) := by decide +kernel
theorem dX9_init_23 : decode cX9_init 23 = .ok (.aload_n 0, 1) := by decide +kernel
theorem dX9_init_24 : decode cX9_init 24 = .ok (.new 20, 3) := by decide +kernel
theorem dX9_init_27 : decode cX9_init 27 = .ok (.dup, 1) := by decide +kernel
theorem dX9_init_28 : decode cX9_init 28 = .ok (.invokespecial 22, 3) := by decide +kernel
theorem dX9_init_31 : decode cX9_init 31 = .ok (.putfield 23, 3) := by decide +kernel
theorem dX9_init_34 : decode cX9_init 34 = .ok (.aload_n 0, 1) := by decide +kernel
theorem dX9_init_35 : decode cX9_init 35 = .ok (.new 20, 3) := by decide +kernel
theorem dX9_init_38 : decode cX9_init 38 = .ok (.dup, 1) := by decide +kernel
theorem dX9_init_39 : decode cX9_init 39 = .ok (.invokespecial 22, 3) := by decide +kernel
theorem dX9_init_42 : decode cX9_init 42 = .ok (.putfield 27, 3) := by decide +kernel
theorem dX9_init_45 : decode cX9_init 45 = .ok (.aload_n 0, 1) := by decide +kernel
theorem dX9_init_46 : decode cX9_init 46 = .ok (.iconst 0, 1) := by decide +kernel
theorem dX9_init_47 : decode cX9_init 47 = .ok (.putfield 30, 3) := by decide +kernel
theorem dX9_init_50 : decode cX9_init 50 = .ok (.aload_n 0, 1) := by decide +kernel
theorem dX9_init_51 : decode cX9_init 51 = .ok (.new 33, 3) := by decide +kernel
theorem dX9_init_54 : decode cX9_init 54 = .ok (.dup, 1) := by decide +kernel
theorem dX9_init_55 : decode cX9_init 55 = .ok (.invokespecial 35, 3) := by decide +kernel
theorem dX9_init_58 : decode cX9_init 58 = .ok (.putfield 36, 3) := by decide +kernel
theorem dX9_init_61 : decode cX9_init 61 = .ok (.aload_n 0, 1) := by decide +kernel
theorem dX9_init_62 : decode cX9_init 62 = .ok (.new 40, 3) := by decide +kernel
theorem dX9_init_65 : decode cX9_init 65 = .ok (.dup, 1) := by decide +kernel
theorem dX9_init_66 : decode cX9_init 66 = .ok (.invokespecial 42, 3) := by decide +kernel
theorem dX9_init_69 : decode cX9_init 69 = .ok (.putfield 43, 3) := by decide +kernel
theorem dX9_init_72 : decode cX9_init 72 = .ok (.aload_n 0, 1) := by decide +kernel
theorem dX9_init_73 : decode cX9_init 73 = .ok (.getfield 43, 3) := by decide +kernel
theorem dX9_init_76 : decode cX9_init 76 = .ok (.aload_n 0, 1) := by decide +kernel
theorem dX9_init_77 : decode cX9_init 77 = .ok (.getfield 23, 3) := by decide +kernel
theorem dX9_init_80 : decode cX9_init 80 = .ok (.invokevirtual 47, 3) := by decide +kernel
theorem dX9_init_83 : decode cX9_init 83 = .ok (.aload_n 0, 1) := by decide +kernel
theorem dX9_init_84 : decode cX9_init 84 = .ok (.new 51, 3) := by decide +kernel
theorem dX9_init_87 : decode cX9_init 87 = .ok (.dup, 1) := by decide +kernel
theorem dX9_init_88 : decode cX9_init 88 = .ok (.invokespecial 53, 3) := by decide +kernel
theorem dX9_init_91 : decode cX9_init 91 = .ok (.putfield 54, 3) := by decide +kernel
theorem dX9_init_94 : decode cX9_init 94 = .ok (.aload_n 0, 1) := by decide +kernel
theorem dX9_init_95 : decode cX9_init 95 = .ok (.iconst 2, 1) := by decide +kernel
theorem dX9_init_96 : decode cX9_init 96 = .ok (.anewarray 40, 3) := by decide +kernel
theorem dX9_init_99 : decode cX9_init 99 = .ok (.putfield 58, 3) := by decide +kernel
theorem dX9_init_102 : decode cX9_init 102 = .ok (.iconst 0, 1) := by decide +kernel
theorem dX9_init_103 : decode cX9_init 103 = .ok (.istore_n 1, 1) := by decide +kernel
theorem dX9_init_104 : decode cX9_init 104 = .ok (.iload_n 1, 1) := by decide +kernel
theorem dX9_init_105 : decode cX9_init 105 = .ok (.iconst 2, 1) := by decide +kernel
theorem dX9_init_106 : decode cX9_init 106 = .ok (.if_icmp .ge 22, 3) := by decide +kernel
theorem dX9_init_109 : decode cX9_init 109 = .ok (.aload_n 0, 1) := by decide +kernel
theorem dX9_init_110 : decode cX9_init 110 = .ok (.getfield 58, 3) := by decide +kernel
theorem dX9_init_113 : decode cX9_init 113 = .ok (.iload_n 1, 1) := by decide +kernel
theorem dX9_init_114 : decode cX9_init 114 = .ok (.new 40, 3) := by decide +kernel
theorem dX9_init_117 : decode cX9_init 117 = .ok (.dup, 1) := by decide +kernel
theorem dX9_init_118 : decode cX9_init 118 = .ok (.invokespecial 42, 3) := by decide +kernel
theorem dX9_init_121 : decode cX9_init 121 = .ok (.aastore, 1) := by decide +kernel
theorem dX9_init_122 : decode cX9_init 122 = .ok (.iinc 1 1, 3) := by decide +kernel
theorem dX9_init_125 : decode cX9_init 125 = .ok (.goto (-21), 3) := by decide +kernel
theorem dX9_init_128 : decode cX9_init 128 = .ok (.aload_n 0, 1) := by decide +kernel
theorem dX9_init_129 : decode cX9_init 129 = .ok (.iconst 2, 1) := by decide +kernel
theorem dX9_init_130 : decode cX9_init 130 = .ok (.newarray .boolean, 2) := by decide +kernel
theorem dX9_init_132 : decode cX9_init 132 = .ok (.putfield 62, 3) := by decide +kernel
theorem dX9_init_135 : decode cX9_init 135 = .ok (.aload_n 0, 1) := by decide +kernel
theorem dX9_init_136 : decode cX9_init 136 = .ok (.iconst 2, 1) := by decide +kernel
theorem dX9_init_137 : decode cX9_init 137 = .ok (.newarray .int, 2) := by decide +kernel
theorem dX9_init_139 : decode cX9_init 139 = .ok (.putfield 66, 3) := by decide +kernel
theorem dX9_init_142 : decode cX9_init 142 = .ok (.aload_n 0, 1) := by decide +kernel
theorem dX9_init_143 : decode cX9_init 143 = .ok (.new 69, 3) := by decide +kernel
theorem dX9_init_146 : decode cX9_init 146 = .ok (.dup, 1) := by decide +kernel
theorem dX9_init_147 : decode cX9_init 147 = .ok (.invokespecial 71, 3) := by decide +kernel
theorem dX9_init_150 : decode cX9_init 150 = .ok (.putfield 72, 3) := by decide +kernel
theorem dX9_init_153 : decode cX9_init 153 = .ok (.aload_n 0, 1) := by decide +kernel
theorem dX9_init_154 : decode cX9_init 154 = .ok (.new 76, 3) := by decide +kernel
theorem dX9_init_157 : decode cX9_init 157 = .ok (.dup, 1) := by decide +kernel
theorem dX9_init_158 : decode cX9_init 158 = .ok (.invokespecial 78, 3) := by decide +kernel
theorem dX9_init_161 : decode cX9_init 161 = .ok (.putfield 79, 3) := by decide +kernel
theorem dX9_init_164 : decode cX9_init 164 = .ok (.aload_n 0, 1) := by decide +kernel
theorem dX9_init_165 : decode cX9_init 165 = .ok (.new 83, 3) := by decide +kernel
theorem dX9_init_168 : decode cX9_init 168 = .ok (.dup, 1) := by decide +kernel
theorem dX9_init_169 : decode cX9_init 169 = .ok (.invokespecial 85, 3) := by decide +kernel
theorem dX9_init_172 : decode cX9_init 172 = .ok (.putfield 86, 3) := by decide +kernel
theorem dX9_init_175 : decode cX9_init 175 = .ok (.aload_n 0, 1) := by decide +kernel
theorem dX9_init_176 : decode cX9_init 176 = .ok (.new 90, 3) := by decide +kernel
theorem dX9_init_179 : decode cX9_init 179 = .ok (.dup, 1) := by decide +kernel
theorem dX9_init_180 : decode cX9_init 180 = .ok (.invokespecial 92, 3) := by decide +kernel
theorem dX9_init_183 : decode cX9_init 183 = .ok (.putfield 93, 3) := by decide +kernel
theorem dX9_init_186 : decode cX9_init 186 = .ok (.return_, 1) := by decide +kernel
theorem dX9_feed_0 : decode cX9_feed 0 = .ok (.iload_n 1, 1) := by decide +kernel
theorem dX9_feed_1 : decode cX9_feed 1 = .ok (.ifCond .lt 10, 3) := by decide +kernel
theorem dX9_feed_4 : decode cX9_feed 4 = .ok (.iload_n 1, 1) := by decide +kernel
theorem dX9_feed_5 : decode cX9_feed 5 = .ok (.sipush 255, 3) := by decide +kernel
theorem dX9_feed_8 : decode cX9_feed 8 = .ok (.if_icmp .le 6, 3) := by decide +kernel
theorem dX9_feed_11 : decode cX9_feed 11 = .ok (.ldc 97, 2) := by decide +kernel
theorem dX9_feed_13 : decode cX9_feed 13 = .ok (.ireturn, 1) := by decide +kernel
theorem dX9_feed_14 : decode cX9_feed 14 = .ok (.aload_n 0, 1) := by decide +kernel
theorem dX9_feed_15 : decode cX9_feed 15 = .ok (.getfield 13, 3) := by decide +kernel
theorem dX9_feed_18 : decode cX9_feed 18 = .ok (.sipush 230, 3) := by decide +kernel
theorem dX9_feed_21 : decode cX9_feed 21 = .ok (.if_icmp .lt 6, 3) := by decide +kernel
theorem dX9_feed_24 : decode cX9_feed 24 = .ok (.ldc 98, 2) := by decide +kernel
theorem dX9_feed_26 : decode cX9_feed 26 = .ok (.ireturn, 1) := by decide +kernel
theorem dX9_feed_27 : decode cX9_feed 27 = .ok (.aload_n 0, 1) := by decide +kernel
theorem dX9_feed_28 : decode cX9_feed 28 = .ok (.getfield 9, 3) := by decide +kernel
theorem dX9_feed_31 : decode cX9_feed 31 = .ok (.aload_n 0, 1) := by decide +kernel
theorem dX9_feed_32 : decode cX9_feed 32 = .ok (.getfield 13, 3) := by decide +kernel
theorem dX9_feed_35 : decode cX9_feed 35 = .ok (.iload_n 1, 1) := by decide +kernel
theorem dX9_feed_36 : decode cX9_feed 36 = .ok (.iastore, 1) := by decide +kernel
theorem dX9_feed_37 : decode cX9_feed 37 = .ok (.aload_n 0, 1) := by decide +kernel
theorem dX9_feed_38 : decode cX9_feed 38 = .ok (.dup, 1) := by decide +kernel
theorem dX9_feed_39 : decode cX9_feed 39 = .ok (.getfield 13, 3) := by decide +kernel
theorem dX9_feed_42 : decode cX9_feed 42 = .ok (.iconst 1, 1) := by decide +kernel
theorem dX9_feed_43 : decode cX9_feed 43 = .ok (.iadd, 1) := by decide +kernel
theorem dX9_feed_44 : decode cX9_feed 44 = .ok (.putfield 13, 3) := by decide +kernel
theorem dX9_feed_47 : decode cX9_feed 47 = .ok (.aload_n 0, 1) := by decide +kernel
theorem dX9_feed_48 : decode cX9_feed 48 = .ok (.getfield 13, 3) := by decide +kernel
theorem dX9_feed_51 : decode cX9_feed 51 = .ok (.ireturn, 1) := by decide +kernel
theorem dX9_bay_0 : decode cX9_bay 0 = .ok (.aload_n 0, 1) := by decide +kernel
theorem dX9_bay_1 : decode cX9_bay 1 = .ok (.getfield 36, 3) := by decide +kernel
theorem dX9_bay_4 : decode cX9_bay 4 = .ok (.aload_n 0, 1) := by decide +kernel
theorem dX9_bay_5 : decode cX9_bay 5 = .ok (.getfield 9, 3) := by decide +kernel
theorem dX9_bay_8 : decode cX9_bay 8 = .ok (.aload_n 0, 1) := by decide +kernel
theorem dX9_bay_9 : decode cX9_bay 9 = .ok (.getfield 13, 3) := by decide +kernel
theorem dX9_bay_12 : decode cX9_bay 12 = .ok (.aload_n 0, 1) := by decide +kernel
theorem dX9_bay_13 : decode cX9_bay 13 = .ok (.getfield 27, 3) := by decide +kernel
theorem dX9_bay_16 : decode cX9_bay 16 = .ok (.invokevirtual 99, 3) := by decide +kernel
theorem dX9_bay_19 : decode cX9_bay 19 = .ok (.istore_n 1, 1) := by decide +kernel
theorem dX9_bay_20 : decode cX9_bay 20 = .ok (.aload_n 0, 1) := by decide +kernel
theorem dX9_bay_21 : decode cX9_bay 21 = .ok (.iconst 0, 1) := by decide +kernel
theorem dX9_bay_22 : decode cX9_bay 22 = .ok (.putfield 13, 3) := by decide +kernel
theorem dX9_bay_25 : decode cX9_bay 25 = .ok (.iload_n 1, 1) := by decide +kernel
theorem dX9_bay_26 : decode cX9_bay 26 = .ok (.ifCond .eq 19, 3) := by decide +kernel
theorem dX9_bay_29 : decode cX9_bay 29 = .ok (.aload_n 0, 1) := by decide +kernel
theorem dX9_bay_30 : decode cX9_bay 30 = .ok (.aload_n 0, 1) := by decide +kernel
theorem dX9_bay_31 : decode cX9_bay 31 = .ok (.getfield 36, 3) := by decide +kernel
theorem dX9_bay_34 : decode cX9_bay 34 = .ok (.getfield 103, 3) := by decide +kernel
theorem dX9_bay_37 : decode cX9_bay 37 = .ok (.putfield 17, 3) := by decide +kernel
theorem dX9_bay_40 : decode cX9_bay 40 = .ok (.bipush (-10), 2) := by decide +kernel
theorem dX9_bay_42 : decode cX9_bay 42 = .ok (.iload_n 1, 1) := by decide +kernel
theorem dX9_bay_43 : decode cX9_bay 43 = .ok (.isub, 1) := by decide +kernel
theorem dX9_bay_44 : decode cX9_bay 44 = .ok (.ireturn, 1) := by decide +kernel
theorem dX9_bay_45 : decode cX9_bay 45 = .ok (.aload_n 0, 1) := by decide +kernel
theorem dX9_bay_46 : decode cX9_bay 46 = .ok (.iconst (-1), 1) := by decide +kernel
theorem dX9_bay_47 : decode cX9_bay 47 = .ok (.putfield 17, 3) := by decide +kernel
theorem dX9_bay_50 : decode cX9_bay 50 = .ok (.aload_n 0, 1) := by decide +kernel
theorem dX9_bay_51 : decode cX9_bay 51 = .ok (.getfield 23, 3) := by decide +kernel
theorem dX9_bay_54 : decode cX9_bay 54 = .ok (.astore_n 2, 1) := by decide +kernel
theorem dX9_bay_55 : decode cX9_bay 55 = .ok (.aload_n 0, 1) := by decide +kernel
theorem dX9_bay_56 : decode cX9_bay 56 = .ok (.aload_n 0, 1) := by decide +kernel
theorem dX9_bay_57 : decode cX9_bay 57 = .ok (.getfield 27, 3) := by decide +kernel
theorem dX9_bay_60 : decode cX9_bay 60 = .ok (.putfield 23, 3) := by decide +kernel
theorem dX9_bay_63 : decode cX9_bay 63 = .ok (.aload_n 0, 1) := by decide +kernel
theorem dX9_bay_64 : decode cX9_bay 64 = .ok (.aload_n 2, 1) := by decide +kernel
theorem dX9_bay_65 : decode cX9_bay 65 = .ok (.putfield 27, 3) := by decide +kernel
theorem dX9_bay_68 : decode cX9_bay 68 = .ok (.aload_n 0, 1) := by decide +kernel
theorem dX9_bay_69 : decode cX9_bay 69 = .ok (.getfield 43, 3) := by decide +kernel
theorem dX9_bay_72 : decode cX9_bay 72 = .ok (.aload_n 0, 1) := by decide +kernel
theorem dX9_bay_73 : decode cX9_bay 73 = .ok (.getfield 23, 3) := by decide +kernel
theorem dX9_bay_76 : decode cX9_bay 76 = .ok (.invokevirtual 47, 3) := by decide +kernel
theorem dX9_bay_79 : decode cX9_bay 79 = .ok (.aload_n 0, 1) := by decide +kernel
theorem dX9_bay_80 : decode cX9_bay 80 = .ok (.getfield 54, 3) := by decide +kernel
theorem dX9_bay_83 : decode cX9_bay 83 = .ok (.invokevirtual 104, 3) := by decide +kernel
theorem dX9_bay_86 : decode cX9_bay 86 = .ok (.iconst 0, 1) := by decide +kernel
theorem dX9_bay_87 : decode cX9_bay 87 = .ok (.istore_n 3, 1) := by decide +kernel
theorem dX9_bay_88 : decode cX9_bay 88 = .ok (.iload_n 3, 1) := by decide +kernel
theorem dX9_bay_89 : decode cX9_bay 89 = .ok (.iconst 2, 1) := by decide +kernel
theorem dX9_bay_90 : decode cX9_bay 90 = .ok (.if_icmp .ge 16, 3) := by decide +kernel
theorem dX9_bay_93 : decode cX9_bay 93 = .ok (.aload_n 0, 1) := by decide +kernel
theorem dX9_bay_94 : decode cX9_bay 94 = .ok (.getfield 62, 3) := by decide +kernel
theorem dX9_bay_97 : decode cX9_bay 97 = .ok (.iload_n 3, 1) := by decide +kernel
theorem dX9_bay_98 : decode cX9_bay 98 = .ok (.iconst 0, 1) := by decide +kernel
theorem dX9_bay_99 : decode cX9_bay 99 = .ok (.bastore, 1) := by decide +kernel
theorem dX9_bay_100 : decode cX9_bay 100 = .ok (.iinc 3 1, 3) := by decide +kernel
theorem dX9_bay_103 : decode cX9_bay 103 = .ok (.goto (-15), 3) := by decide +kernel
theorem dX9_bay_106 : decode cX9_bay 106 = .ok (.aload_n 0, 1) := by decide +kernel
theorem dX9_bay_107 : decode cX9_bay 107 = .ok (.getfield 86, 3) := by decide +kernel
theorem dX9_bay_110 : decode cX9_bay 110 = .ok (.iconst 0, 1) := by decide +kernel
theorem dX9_bay_111 : decode cX9_bay 111 = .ok (.putfield 107, 3) := by decide +kernel
theorem dX9_bay_114 : decode cX9_bay 114 = .ok (.aload_n 0, 1) := by decide +kernel
theorem dX9_bay_115 : decode cX9_bay 115 = .ok (.getfield 93, 3) := by decide +kernel
theorem dX9_bay_118 : decode cX9_bay 118 = .ok (.iconst 0, 1) := by decide +kernel
theorem dX9_bay_119 : decode cX9_bay 119 = .ok (.putfield 110, 3) := by decide +kernel
theorem dX9_bay_122 : decode cX9_bay 122 = .ok (.aload_n 0, 1) := by decide +kernel
theorem dX9_bay_123 : decode cX9_bay 123 = .ok (.getfield 23, 3) := by decide +kernel
theorem dX9_bay_126 : decode cX9_bay 126 = .ok (.getfield 111, 3) := by decide +kernel
theorem dX9_bay_129 : decode cX9_bay 129 = .ok (.ireturn, 1) := by decide +kernel
theorem dX9_fault_0 : decode cX9_fault 0 = .ok (.aload_n 0, 1) := by decide +kernel
theorem dX9_fault_1 : decode cX9_fault 1 = .ok (.getfield 17, 3) := by decide +kernel
theorem dX9_fault_4 : decode cX9_fault 4 = .ok (.ireturn, 1) := by decide +kernel
theorem dX9_told_0 : decode cX9_told 0 = .ok (.iload_n 1, 1) := by decide +kernel
theorem dX9_told_1 : decode cX9_told 1 = .ok (.tableswitch 175 0 12 #[67, 75, 83, 91, 99, 107, 115, 120, 128, 139, 151, 159, 167], 67) := by decide +kernel
theorem dX9_told_68 : decode cX9_told 68 = .ok (.aload_n 0, 1) := by decide +kernel
theorem dX9_told_69 : decode cX9_told 69 = .ok (.getfield 23, 3) := by decide +kernel
theorem dX9_told_72 : decode cX9_told 72 = .ok (.getfield 112, 3) := by decide +kernel
theorem dX9_told_75 : decode cX9_told 75 = .ok (.ireturn, 1) := by decide +kernel
theorem dX9_told_76 : decode cX9_told 76 = .ok (.aload_n 0, 1) := by decide +kernel
theorem dX9_told_77 : decode cX9_told 77 = .ok (.getfield 43, 3) := by decide +kernel
theorem dX9_told_80 : decode cX9_told 80 = .ok (.getfield 115, 3) := by decide +kernel
theorem dX9_told_83 : decode cX9_told 83 = .ok (.ireturn, 1) := by decide +kernel
theorem dX9_told_84 : decode cX9_told 84 = .ok (.aload_n 0, 1) := by decide +kernel
theorem dX9_told_85 : decode cX9_told 85 = .ok (.getfield 43, 3) := by decide +kernel
theorem dX9_told_88 : decode cX9_told 88 = .ok (.getfield 118, 3) := by decide +kernel
theorem dX9_told_91 : decode cX9_told 91 = .ok (.ireturn, 1) := by decide +kernel
theorem dX9_told_92 : decode cX9_told 92 = .ok (.aload_n 0, 1) := by decide +kernel
theorem dX9_told_93 : decode cX9_told 93 = .ok (.getfield 23, 3) := by decide +kernel
theorem dX9_told_96 : decode cX9_told 96 = .ok (.getfield 111, 3) := by decide +kernel
theorem dX9_told_99 : decode cX9_told 99 = .ok (.ireturn, 1) := by decide +kernel
theorem dX9_told_100 : decode cX9_told 100 = .ok (.aload_n 0, 1) := by decide +kernel
theorem dX9_told_101 : decode cX9_told 101 = .ok (.getfield 23, 3) := by decide +kernel
theorem dX9_told_104 : decode cX9_told 104 = .ok (.getfield 121, 3) := by decide +kernel
theorem dX9_told_107 : decode cX9_told 107 = .ok (.ireturn, 1) := by decide +kernel
theorem dX9_told_108 : decode cX9_told 108 = .ok (.aload_n 0, 1) := by decide +kernel
theorem dX9_told_109 : decode cX9_told 109 = .ok (.getfield 23, 3) := by decide +kernel
theorem dX9_told_112 : decode cX9_told 112 = .ok (.getfield 124, 3) := by decide +kernel
theorem dX9_told_115 : decode cX9_told 115 = .ok (.ireturn, 1) := by decide +kernel
theorem dX9_told_116 : decode cX9_told 116 = .ok (.aload_n 0, 1) := by decide +kernel
theorem dX9_told_117 : decode cX9_told 117 = .ok (.getfield 13, 3) := by decide +kernel
theorem dX9_told_120 : decode cX9_told 120 = .ok (.ireturn, 1) := by decide +kernel
theorem dX9_told_121 : decode cX9_told 121 = .ok (.aload_n 0, 1) := by decide +kernel
theorem dX9_told_122 : decode cX9_told 122 = .ok (.getfield 43, 3) := by decide +kernel
theorem dX9_told_125 : decode cX9_told 125 = .ok (.getfield 127, 3) := by decide +kernel
theorem dX9_told_128 : decode cX9_told 128 = .ok (.ireturn, 1) := by decide +kernel
theorem dX9_told_129 : decode cX9_told 129 = .ok (.aload_n 0, 1) := by decide +kernel
theorem dX9_told_130 : decode cX9_told 130 = .ok (.getfield 43, 3) := by decide +kernel
theorem dX9_told_133 : decode cX9_told 133 = .ok (.getfield 130, 3) := by decide +kernel
theorem dX9_told_136 : decode cX9_told 136 = .ok (.invokestatic 133, 3) := by decide +kernel
theorem dX9_told_139 : decode cX9_told 139 = .ok (.ireturn, 1) := by decide +kernel
theorem dX9_told_140 : decode cX9_told 140 = .ok (.aload_n 0, 1) := by decide +kernel
theorem dX9_told_141 : decode cX9_told 141 = .ok (.getfield 43, 3) := by decide +kernel
theorem dX9_told_144 : decode cX9_told 144 = .ok (.aload_n 0, 1) := by decide +kernel
theorem dX9_told_145 : decode cX9_told 145 = .ok (.getfield 23, 3) := by decide +kernel
theorem dX9_told_148 : decode cX9_told 148 = .ok (.invokevirtual 139, 3) := by decide +kernel
theorem dX9_told_151 : decode cX9_told 151 = .ok (.ireturn, 1) := by decide +kernel
theorem dX9_told_152 : decode cX9_told 152 = .ok (.aload_n 0, 1) := by decide +kernel
theorem dX9_told_153 : decode cX9_told 153 = .ok (.getfield 86, 3) := by decide +kernel
theorem dX9_told_156 : decode cX9_told 156 = .ok (.getfield 107, 3) := by decide +kernel
theorem dX9_told_159 : decode cX9_told 159 = .ok (.ireturn, 1) := by decide +kernel
theorem dX9_told_160 : decode cX9_told 160 = .ok (.aload_n 0, 1) := by decide +kernel
theorem dX9_told_161 : decode cX9_told 161 = .ok (.getfield 93, 3) := by decide +kernel
theorem dX9_told_164 : decode cX9_told 164 = .ok (.getfield 110, 3) := by decide +kernel
theorem dX9_told_167 : decode cX9_told 167 = .ok (.ireturn, 1) := by decide +kernel
theorem dX9_told_168 : decode cX9_told 168 = .ok (.aload_n 0, 1) := by decide +kernel
theorem dX9_told_169 : decode cX9_told 169 = .ok (.getfield 54, 3) := by decide +kernel
theorem dX9_told_172 : decode cX9_told 172 = .ok (.getfield 143, 3) := by decide +kernel
theorem dX9_told_175 : decode cX9_told 175 = .ok (.ireturn, 1) := by decide +kernel
theorem dX9_told_176 : decode cX9_told 176 = .ok (.ldc 97, 2) := by decide +kernel
theorem dX9_told_178 : decode cX9_told 178 = .ok (.ireturn, 1) := by decide +kernel
theorem dX9_house_0 : decode cX9_house 0 = .ok (.aload_n 0, 1) := by decide +kernel
theorem dX9_house_1 : decode cX9_house 1 = .ok (.getfield 23, 3) := by decide +kernel
theorem dX9_house_4 : decode cX9_house 4 = .ok (.iload_n 1, 1) := by decide +kernel
theorem dX9_house_5 : decode cX9_house 5 = .ok (.invokevirtual 144, 3) := by decide +kernel
theorem dX9_house_8 : decode cX9_house 8 = .ok (.ifCond .ne 6, 3) := by decide +kernel
theorem dX9_house_11 : decode cX9_house 11 = .ok (.ldc 148, 2) := by decide +kernel
theorem dX9_house_13 : decode cX9_house 13 = .ok (.ireturn, 1) := by decide +kernel
theorem dX9_house_14 : decode cX9_house 14 = .ok (.iload_n 2, 1) := by decide +kernel
theorem dX9_house_15 : decode cX9_house 15 = .ok (.tableswitch 127 0 7 #[45, 55, 65, 75, 88, 98, 108, 118], 45) := by decide +kernel
theorem dX9_house_60 : decode cX9_house 60 = .ok (.aload_n 0, 1) := by decide +kernel
theorem dX9_house_61 : decode cX9_house 61 = .ok (.getfield 23, 3) := by decide +kernel
theorem dX9_house_64 : decode cX9_house 64 = .ok (.getfield 149, 3) := by decide +kernel
theorem dX9_house_67 : decode cX9_house 67 = .ok (.iload_n 1, 1) := by decide +kernel
theorem dX9_house_68 : decode cX9_house 68 = .ok (.iaload, 1) := by decide +kernel
theorem dX9_house_69 : decode cX9_house 69 = .ok (.ireturn, 1) := by decide +kernel
theorem dX9_house_70 : decode cX9_house 70 = .ok (.aload_n 0, 1) := by decide +kernel
theorem dX9_house_71 : decode cX9_house 71 = .ok (.getfield 23, 3) := by decide +kernel
theorem dX9_house_74 : decode cX9_house 74 = .ok (.getfield 152, 3) := by decide +kernel
theorem dX9_house_77 : decode cX9_house 77 = .ok (.iload_n 1, 1) := by decide +kernel
theorem dX9_house_78 : decode cX9_house 78 = .ok (.iaload, 1) := by decide +kernel
theorem dX9_house_79 : decode cX9_house 79 = .ok (.ireturn, 1) := by decide +kernel
theorem dX9_house_80 : decode cX9_house 80 = .ok (.aload_n 0, 1) := by decide +kernel
theorem dX9_house_81 : decode cX9_house 81 = .ok (.getfield 43, 3) := by decide +kernel
theorem dX9_house_84 : decode cX9_house 84 = .ok (.getfield 155, 3) := by decide +kernel
theorem dX9_house_87 : decode cX9_house 87 = .ok (.iload_n 1, 1) := by decide +kernel
theorem dX9_house_88 : decode cX9_house 88 = .ok (.iaload, 1) := by decide +kernel
theorem dX9_house_89 : decode cX9_house 89 = .ok (.ireturn, 1) := by decide +kernel
theorem dX9_house_90 : decode cX9_house 90 = .ok (.aload_n 0, 1) := by decide +kernel
theorem dX9_house_91 : decode cX9_house 91 = .ok (.getfield 23, 3) := by decide +kernel
theorem dX9_house_94 : decode cX9_house 94 = .ok (.getfield 158, 3) := by decide +kernel
theorem dX9_house_97 : decode cX9_house 97 = .ok (.iload_n 1, 1) := by decide +kernel
theorem dX9_house_98 : decode cX9_house 98 = .ok (.iaload, 1) := by decide +kernel
theorem dX9_house_99 : decode cX9_house 99 = .ok (.invokestatic 161, 3) := by decide +kernel
theorem dX9_house_102 : decode cX9_house 102 = .ok (.ireturn, 1) := by decide +kernel
theorem dX9_house_103 : decode cX9_house 103 = .ok (.aload_n 0, 1) := by decide +kernel
theorem dX9_house_104 : decode cX9_house 104 = .ok (.getfield 23, 3) := by decide +kernel
theorem dX9_house_107 : decode cX9_house 107 = .ok (.getfield 158, 3) := by decide +kernel
theorem dX9_house_110 : decode cX9_house 110 = .ok (.iload_n 1, 1) := by decide +kernel
theorem dX9_house_111 : decode cX9_house 111 = .ok (.iaload, 1) := by decide +kernel
theorem dX9_house_112 : decode cX9_house 112 = .ok (.ireturn, 1) := by decide +kernel
theorem dX9_house_113 : decode cX9_house 113 = .ok (.aload_n 0, 1) := by decide +kernel
theorem dX9_house_114 : decode cX9_house 114 = .ok (.getfield 43, 3) := by decide +kernel
theorem dX9_house_117 : decode cX9_house 117 = .ok (.getfield 165, 3) := by decide +kernel
theorem dX9_house_120 : decode cX9_house 120 = .ok (.iload_n 1, 1) := by decide +kernel
theorem dX9_house_121 : decode cX9_house 121 = .ok (.iaload, 1) := by decide +kernel
theorem dX9_house_122 : decode cX9_house 122 = .ok (.ireturn, 1) := by decide +kernel
theorem dX9_house_123 : decode cX9_house 123 = .ok (.aload_n 0, 1) := by decide +kernel
theorem dX9_house_124 : decode cX9_house 124 = .ok (.getfield 43, 3) := by decide +kernel
theorem dX9_house_127 : decode cX9_house 127 = .ok (.getfield 168, 3) := by decide +kernel
theorem dX9_house_130 : decode cX9_house 130 = .ok (.iload_n 1, 1) := by decide +kernel
theorem dX9_house_131 : decode cX9_house 131 = .ok (.iaload, 1) := by decide +kernel
theorem dX9_house_132 : decode cX9_house 132 = .ok (.ireturn, 1) := by decide +kernel
theorem dX9_house_133 : decode cX9_house 133 = .ok (.aload_n 0, 1) := by decide +kernel
theorem dX9_house_134 : decode cX9_house 134 = .ok (.getfield 23, 3) := by decide +kernel
theorem dX9_house_137 : decode cX9_house 137 = .ok (.iload_n 1, 1) := by decide +kernel
theorem dX9_house_138 : decode cX9_house 138 = .ok (.invokevirtual 171, 3) := by decide +kernel
theorem dX9_house_141 : decode cX9_house 141 = .ok (.ireturn, 1) := by decide +kernel
theorem dX9_house_142 : decode cX9_house 142 = .ok (.ldc 97, 2) := by decide +kernel
theorem dX9_house_144 : decode cX9_house 144 = .ok (.ireturn, 1) := by decide +kernel
theorem dX9_sees_0 : decode cX9_sees 0 = .ok (.aload_n 0, 1) := by decide +kernel
theorem dX9_sees_1 : decode cX9_sees 1 = .ok (.getfield 23, 3) := by decide +kernel
theorem dX9_sees_4 : decode cX9_sees 4 = .ok (.iload_n 1, 1) := by decide +kernel
theorem dX9_sees_5 : decode cX9_sees 5 = .ok (.iload_n 2, 1) := by decide +kernel
theorem dX9_sees_6 : decode cX9_sees 6 = .ok (.invokevirtual 174, 3) := by decide +kernel
theorem dX9_sees_9 : decode cX9_sees 9 = .ok (.ifCond .ne 6, 3) := by decide +kernel
theorem dX9_sees_12 : decode cX9_sees 12 = .ok (.ldc 148, 2) := by decide +kernel
theorem dX9_sees_14 : decode cX9_sees 14 = .ok (.ireturn, 1) := by decide +kernel
theorem dX9_sees_15 : decode cX9_sees 15 = .ok (.aload_n 0, 1) := by decide +kernel
theorem dX9_sees_16 : decode cX9_sees 16 = .ok (.getfield 43, 3) := by decide +kernel
theorem dX9_sees_19 : decode cX9_sees 19 = .ok (.aload_n 0, 1) := by decide +kernel
theorem dX9_sees_20 : decode cX9_sees 20 = .ok (.getfield 23, 3) := by decide +kernel
theorem dX9_sees_23 : decode cX9_sees 23 = .ok (.iload_n 2, 1) := by decide +kernel
theorem dX9_sees_24 : decode cX9_sees 24 = .ok (.invokevirtual 178, 3) := by decide +kernel
theorem dX9_sees_27 : decode cX9_sees 27 = .ok (.iload_n 1, 1) := by decide +kernel
theorem dX9_sees_28 : decode cX9_sees 28 = .ok (.ishr, 1) := by decide +kernel
theorem dX9_sees_29 : decode cX9_sees 29 = .ok (.iconst 1, 1) := by decide +kernel
theorem dX9_sees_30 : decode cX9_sees 30 = .ok (.iand, 1) := by decide +kernel
theorem dX9_sees_31 : decode cX9_sees 31 = .ok (.ireturn, 1) := by decide +kernel
theorem dX9_contract_0 : decode cX9_contract 0 = .ok (.aload_n 0, 1) := by decide +kernel
theorem dX9_contract_1 : decode cX9_contract 1 = .ok (.getfield 23, 3) := by decide +kernel
theorem dX9_contract_4 : decode cX9_contract 4 = .ok (.iload_n 1, 1) := by decide +kernel
theorem dX9_contract_5 : decode cX9_contract 5 = .ok (.iload_n 2, 1) := by decide +kernel
theorem dX9_contract_6 : decode cX9_contract 6 = .ok (.invokevirtual 174, 3) := by decide +kernel
theorem dX9_contract_9 : decode cX9_contract 9 = .ok (.ifCond .ne 6, 3) := by decide +kernel
theorem dX9_contract_12 : decode cX9_contract 12 = .ok (.ldc 148, 2) := by decide +kernel
theorem dX9_contract_14 : decode cX9_contract 14 = .ok (.ireturn, 1) := by decide +kernel
theorem dX9_contract_15 : decode cX9_contract 15 = .ok (.aload_n 0, 1) := by decide +kernel
theorem dX9_contract_16 : decode cX9_contract 16 = .ok (.getfield 43, 3) := by decide +kernel
theorem dX9_contract_19 : decode cX9_contract 19 = .ok (.iload_n 1, 1) := by decide +kernel
theorem dX9_contract_20 : decode cX9_contract 20 = .ok (.iload_n 2, 1) := by decide +kernel
theorem dX9_contract_21 : decode cX9_contract 21 = .ok (.invokevirtual 182, 3) := by decide +kernel
theorem dX9_contract_24 : decode cX9_contract 24 = .ok (.ifCond .ne 5, 3) := by decide +kernel
theorem dX9_contract_27 : decode cX9_contract 27 = .ok (.iconst 0, 1) := by decide +kernel
theorem dX9_contract_28 : decode cX9_contract 28 = .ok (.ireturn, 1) := by decide +kernel
theorem dX9_contract_29 : decode cX9_contract 29 = .ok (.aload_n 0, 1) := by decide +kernel
theorem dX9_contract_30 : decode cX9_contract 30 = .ok (.getfield 23, 3) := by decide +kernel
theorem dX9_contract_33 : decode cX9_contract 33 = .ok (.iload_n 1, 1) := by decide +kernel
theorem dX9_contract_34 : decode cX9_contract 34 = .ok (.iload_n 2, 1) := by decide +kernel
theorem dX9_contract_35 : decode cX9_contract 35 = .ok (.invokevirtual 185, 3) := by decide +kernel
theorem dX9_contract_38 : decode cX9_contract 38 = .ok (.ifCond .eq 7, 3) := by decide +kernel
theorem dX9_contract_41 : decode cX9_contract 41 = .ok (.iconst 2, 1) := by decide +kernel
theorem dX9_contract_42 : decode cX9_contract 42 = .ok (.goto 4, 3) := by decide +kernel
theorem dX9_contract_45 : decode cX9_contract 45 = .ok (.iconst 1, 1) := by decide +kernel
theorem dX9_contract_46 : decode cX9_contract 46 = .ok (.ireturn, 1) := by decide +kernel
theorem dX9_light_0 : decode cX9_light 0 = .ok (.aload_n 0, 1) := by decide +kernel
theorem dX9_light_1 : decode cX9_light 1 = .ok (.getfield 23, 3) := by decide +kernel
theorem dX9_light_4 : decode cX9_light 4 = .ok (.iload_n 1, 1) := by decide +kernel
theorem dX9_light_5 : decode cX9_light 5 = .ok (.invokevirtual 144, 3) := by decide +kernel
theorem dX9_light_8 : decode cX9_light 8 = .ok (.ifCond .ne 6, 3) := by decide +kernel
theorem dX9_light_11 : decode cX9_light 11 = .ok (.ldc 148, 2) := by decide +kernel
theorem dX9_light_13 : decode cX9_light 13 = .ok (.ireturn, 1) := by decide +kernel
theorem dX9_light_14 : decode cX9_light 14 = .ok (.aload_n 0, 1) := by decide +kernel
theorem dX9_light_15 : decode cX9_light 15 = .ok (.getfield 43, 3) := by decide +kernel
theorem dX9_light_18 : decode cX9_light 18 = .ok (.getfield 155, 3) := by decide +kernel
theorem dX9_light_21 : decode cX9_light 21 = .ok (.iload_n 1, 1) := by decide +kernel
theorem dX9_light_22 : decode cX9_light 22 = .ok (.iaload, 1) := by decide +kernel
theorem dX9_light_23 : decode cX9_light 23 = .ok (.ifCond .le 22, 3) := by decide +kernel
theorem dX9_light_26 : decode cX9_light 26 = .ok (.aload_n 0, 1) := by decide +kernel
theorem dX9_light_27 : decode cX9_light 27 = .ok (.getfield 43, 3) := by decide +kernel
theorem dX9_light_30 : decode cX9_light 30 = .ok (.getfield 165, 3) := by decide +kernel
theorem dX9_light_33 : decode cX9_light 33 = .ok (.iload_n 1, 1) := by decide +kernel
theorem dX9_light_34 : decode cX9_light 34 = .ok (.iaload, 1) := by decide +kernel
theorem dX9_light_35 : decode cX9_light 35 = .ok (.aload_n 0, 1) := by decide +kernel
theorem dX9_light_36 : decode cX9_light 36 = .ok (.getfield 43, 3) := by decide +kernel
theorem dX9_light_39 : decode cX9_light 39 = .ok (.getfield 127, 3) := by decide +kernel
theorem dX9_light_42 : decode cX9_light 42 = .ok (.if_icmp .ne 6, 3) := by decide +kernel
theorem dX9_light_45 : decode cX9_light 45 = .ok (.ldc 188, 2) := by decide +kernel
theorem dX9_light_47 : decode cX9_light 47 = .ok (.ireturn, 1) := by decide +kernel
theorem dX9_light_48 : decode cX9_light 48 = .ok (.aload_n 0, 1) := by decide +kernel
theorem dX9_light_49 : decode cX9_light 49 = .ok (.getfield 54, 3) := by decide +kernel
theorem dX9_light_52 : decode cX9_light 52 = .ok (.aload_n 0, 1) := by decide +kernel
theorem dX9_light_53 : decode cX9_light 53 = .ok (.getfield 43, 3) := by decide +kernel
theorem dX9_light_56 : decode cX9_light 56 = .ok (.invokevirtual 189, 3) := by decide +kernel
theorem dX9_light_59 : decode cX9_light 59 = .ok (.aload_n 0, 1) := by decide +kernel
theorem dX9_light_60 : decode cX9_light 60 = .ok (.getfield 43, 3) := by decide +kernel
theorem dX9_light_63 : decode cX9_light 63 = .ok (.getfield 155, 3) := by decide +kernel
theorem dX9_light_66 : decode cX9_light 66 = .ok (.iload_n 1, 1) := by decide +kernel
theorem dX9_light_67 : decode cX9_light 67 = .ok (.dup2, 1) := by decide +kernel
theorem dX9_light_68 : decode cX9_light 68 = .ok (.iaload, 1) := by decide +kernel
theorem dX9_light_69 : decode cX9_light 69 = .ok (.iconst 1, 1) := by decide +kernel
theorem dX9_light_70 : decode cX9_light 70 = .ok (.isub, 1) := by decide +kernel
theorem dX9_light_71 : decode cX9_light 71 = .ok (.iastore, 1) := by decide +kernel
theorem dX9_light_72 : decode cX9_light 72 = .ok (.aload_n 0, 1) := by decide +kernel
theorem dX9_light_73 : decode cX9_light 73 = .ok (.getfield 43, 3) := by decide +kernel
theorem dX9_light_76 : decode cX9_light 76 = .ok (.aload_n 0, 1) := by decide +kernel
theorem dX9_light_77 : decode cX9_light 77 = .ok (.getfield 23, 3) := by decide +kernel
theorem dX9_light_80 : decode cX9_light 80 = .ok (.iload_n 1, 1) := by decide +kernel
theorem dX9_light_81 : decode cX9_light 81 = .ok (.invokevirtual 193, 3) := by decide +kernel
theorem dX9_light_84 : decode cX9_light 84 = .ok (.aload_n 0, 1) := by decide +kernel
theorem dX9_light_85 : decode cX9_light 85 = .ok (.getfield 43, 3) := by decide +kernel
theorem dX9_light_88 : decode cX9_light 88 = .ok (.aload_n 0, 1) := by decide +kernel
theorem dX9_light_89 : decode cX9_light 89 = .ok (.getfield 23, 3) := by decide +kernel
theorem dX9_light_92 : decode cX9_light 92 = .ok (.iload_n 1, 1) := by decide +kernel
theorem dX9_light_93 : decode cX9_light 93 = .ok (.invokevirtual 197, 3) := by decide +kernel
theorem dX9_light_96 : decode cX9_light 96 = .ok (.ireturn, 1) := by decide +kernel
theorem dX9_minute_0 : decode cX9_minute 0 = .ok (.aload_n 0, 1) := by decide +kernel
theorem dX9_minute_1 : decode cX9_minute 1 = .ok (.iload_n 1, 1) := by decide +kernel
theorem dX9_minute_2 : decode cX9_minute 2 = .ok (.invokevirtual 200, 3) := by decide +kernel
theorem dX9_minute_5 : decode cX9_minute 5 = .ok (.istore_n 2, 1) := by decide +kernel
theorem dX9_minute_6 : decode cX9_minute 6 = .ok (.iload_n 2, 1) := by decide +kernel
theorem dX9_minute_7 : decode cX9_minute 7 = .ok (.ifCond .eq 5, 3) := by decide +kernel
theorem dX9_minute_10 : decode cX9_minute 10 = .ok (.iload_n 2, 1) := by decide +kernel
theorem dX9_minute_11 : decode cX9_minute 11 = .ok (.ireturn, 1) := by decide +kernel
theorem dX9_minute_12 : decode cX9_minute 12 = .ok (.aload_n 0, 1) := by decide +kernel
theorem dX9_minute_13 : decode cX9_minute 13 = .ok (.getfield 54, 3) := by decide +kernel
theorem dX9_minute_16 : decode cX9_minute 16 = .ok (.aload_n 0, 1) := by decide +kernel
theorem dX9_minute_17 : decode cX9_minute 17 = .ok (.getfield 43, 3) := by decide +kernel
theorem dX9_minute_20 : decode cX9_minute 20 = .ok (.invokevirtual 189, 3) := by decide +kernel
theorem dX9_minute_23 : decode cX9_minute 23 = .ok (.aload_n 0, 1) := by decide +kernel
theorem dX9_minute_24 : decode cX9_minute 24 = .ok (.getfield 43, 3) := by decide +kernel
theorem dX9_minute_27 : decode cX9_minute 27 = .ok (.dup, 1) := by decide +kernel
theorem dX9_minute_28 : decode cX9_minute 28 = .ok (.getfield 127, 3) := by decide +kernel
theorem dX9_minute_31 : decode cX9_minute 31 = .ok (.iload_n 1, 1) := by decide +kernel
theorem dX9_minute_32 : decode cX9_minute 32 = .ok (.iadd, 1) := by decide +kernel
theorem dX9_minute_33 : decode cX9_minute 33 = .ok (.putfield 127, 3) := by decide +kernel
theorem dX9_minute_36 : decode cX9_minute 36 = .ok (.aload_n 0, 1) := by decide +kernel
theorem dX9_minute_37 : decode cX9_minute 37 = .ok (.getfield 43, 3) := by decide +kernel
theorem dX9_minute_40 : decode cX9_minute 40 = .ok (.getfield 127, 3) := by decide +kernel
theorem dX9_minute_43 : decode cX9_minute 43 = .ok (.ireturn, 1) := by decide +kernel
theorem dX9_fog_0 : decode cX9_fog 0 = .ok (.iload_n 1, 1) := by decide +kernel
theorem dX9_fog_1 : decode cX9_fog 1 = .ok (.ifCond .lt 9, 3) := by decide +kernel
theorem dX9_fog_4 : decode cX9_fog 4 = .ok (.iload_n 1, 1) := by decide +kernel
theorem dX9_fog_5 : decode cX9_fog 5 = .ok (.bipush 20, 2) := by decide +kernel
theorem dX9_fog_7 : decode cX9_fog 7 = .ok (.if_icmp .le 6, 3) := by decide +kernel
theorem dX9_fog_10 : decode cX9_fog 10 = .ok (.ldc 97, 2) := by decide +kernel
theorem dX9_fog_12 : decode cX9_fog 12 = .ok (.ireturn, 1) := by decide +kernel
theorem dX9_fog_13 : decode cX9_fog 13 = .ok (.aload_n 0, 1) := by decide +kernel
theorem dX9_fog_14 : decode cX9_fog 14 = .ok (.getfield 23, 3) := by decide +kernel
theorem dX9_fog_17 : decode cX9_fog 17 = .ok (.getfield 112, 3) := by decide +kernel
theorem dX9_fog_20 : decode cX9_fog 20 = .ok (.ifCond .ne 6, 3) := by decide +kernel
theorem dX9_fog_23 : decode cX9_fog 23 = .ok (.ldc 188, 2) := by decide +kernel
theorem dX9_fog_25 : decode cX9_fog 25 = .ok (.ireturn, 1) := by decide +kernel
theorem dX9_fog_26 : decode cX9_fog 26 = .ok (.aload_n 0, 1) := by decide +kernel
theorem dX9_fog_27 : decode cX9_fog 27 = .ok (.getfield 54, 3) := by decide +kernel
theorem dX9_fog_30 : decode cX9_fog 30 = .ok (.aload_n 0, 1) := by decide +kernel
theorem dX9_fog_31 : decode cX9_fog 31 = .ok (.getfield 43, 3) := by decide +kernel
theorem dX9_fog_34 : decode cX9_fog 34 = .ok (.invokevirtual 189, 3) := by decide +kernel
theorem dX9_fog_37 : decode cX9_fog 37 = .ok (.aload_n 0, 1) := by decide +kernel
theorem dX9_fog_38 : decode cX9_fog 38 = .ok (.getfield 43, 3) := by decide +kernel
theorem dX9_fog_41 : decode cX9_fog 41 = .ok (.getfield 115, 3) := by decide +kernel
theorem dX9_fog_44 : decode cX9_fog 44 = .ok (.istore_n 2, 1) := by decide +kernel
theorem dX9_fog_45 : decode cX9_fog 45 = .ok (.aload_n 0, 1) := by decide +kernel
theorem dX9_fog_46 : decode cX9_fog 46 = .ok (.getfield 43, 3) := by decide +kernel
theorem dX9_fog_49 : decode cX9_fog 49 = .ok (.iload_n 1, 1) := by decide +kernel
theorem dX9_fog_50 : decode cX9_fog 50 = .ok (.putfield 115, 3) := by decide +kernel
theorem dX9_fog_53 : decode cX9_fog 53 = .ok (.iload_n 2, 1) := by decide +kernel
theorem dX9_fog_54 : decode cX9_fog 54 = .ok (.ireturn, 1) := by decide +kernel
theorem dX9_wind_0 : decode cX9_wind 0 = .ok (.iload_n 1, 1) := by decide +kernel
theorem dX9_wind_1 : decode cX9_wind 1 = .ok (.bipush (-5), 2) := by decide +kernel
theorem dX9_wind_3 : decode cX9_wind 3 = .ok (.if_icmp .lt 8, 3) := by decide +kernel
theorem dX9_wind_6 : decode cX9_wind 6 = .ok (.iload_n 1, 1) := by decide +kernel
theorem dX9_wind_7 : decode cX9_wind 7 = .ok (.iconst 5, 1) := by decide +kernel
theorem dX9_wind_8 : decode cX9_wind 8 = .ok (.if_icmp .le 6, 3) := by decide +kernel
theorem dX9_wind_11 : decode cX9_wind 11 = .ok (.ldc 97, 2) := by decide +kernel
theorem dX9_wind_13 : decode cX9_wind 13 = .ok (.ireturn, 1) := by decide +kernel
theorem dX9_wind_14 : decode cX9_wind 14 = .ok (.aload_n 0, 1) := by decide +kernel
theorem dX9_wind_15 : decode cX9_wind 15 = .ok (.getfield 23, 3) := by decide +kernel
theorem dX9_wind_18 : decode cX9_wind 18 = .ok (.getfield 112, 3) := by decide +kernel
theorem dX9_wind_21 : decode cX9_wind 21 = .ok (.ifCond .ne 6, 3) := by decide +kernel
theorem dX9_wind_24 : decode cX9_wind 24 = .ok (.ldc 188, 2) := by decide +kernel
theorem dX9_wind_26 : decode cX9_wind 26 = .ok (.ireturn, 1) := by decide +kernel
theorem dX9_wind_27 : decode cX9_wind 27 = .ok (.aload_n 0, 1) := by decide +kernel
theorem dX9_wind_28 : decode cX9_wind 28 = .ok (.getfield 54, 3) := by decide +kernel
theorem dX9_wind_31 : decode cX9_wind 31 = .ok (.aload_n 0, 1) := by decide +kernel
theorem dX9_wind_32 : decode cX9_wind 32 = .ok (.getfield 43, 3) := by decide +kernel
theorem dX9_wind_35 : decode cX9_wind 35 = .ok (.invokevirtual 189, 3) := by decide +kernel
theorem dX9_wind_38 : decode cX9_wind 38 = .ok (.aload_n 0, 1) := by decide +kernel
theorem dX9_wind_39 : decode cX9_wind 39 = .ok (.getfield 43, 3) := by decide +kernel
theorem dX9_wind_42 : decode cX9_wind 42 = .ok (.getfield 118, 3) := by decide +kernel
theorem dX9_wind_45 : decode cX9_wind 45 = .ok (.istore_n 2, 1) := by decide +kernel
theorem dX9_wind_46 : decode cX9_wind 46 = .ok (.aload_n 0, 1) := by decide +kernel
theorem dX9_wind_47 : decode cX9_wind 47 = .ok (.getfield 43, 3) := by decide +kernel
theorem dX9_wind_50 : decode cX9_wind 50 = .ok (.iload_n 1, 1) := by decide +kernel
theorem dX9_wind_51 : decode cX9_wind 51 = .ok (.putfield 118, 3) := by decide +kernel
theorem dX9_wind_54 : decode cX9_wind 54 = .ok (.iload_n 2, 1) := by decide +kernel
theorem dX9_wind_55 : decode cX9_wind 55 = .ok (.iconst 5, 1) := by decide +kernel
theorem dX9_wind_56 : decode cX9_wind 56 = .ok (.iadd, 1) := by decide +kernel
theorem dX9_wind_57 : decode cX9_wind 57 = .ok (.ireturn, 1) := by decide +kernel
theorem dX9_drift_0 : decode cX9_drift 0 = .ok (.aload_n 0, 1) := by decide +kernel
theorem dX9_drift_1 : decode cX9_drift 1 = .ok (.iload_n 1, 1) := by decide +kernel
theorem dX9_drift_2 : decode cX9_drift 2 = .ok (.invokevirtual 200, 3) := by decide +kernel
theorem dX9_drift_5 : decode cX9_drift 5 = .ok (.istore_n 2, 1) := by decide +kernel
theorem dX9_drift_6 : decode cX9_drift 6 = .ok (.iload_n 2, 1) := by decide +kernel
theorem dX9_drift_7 : decode cX9_drift 7 = .ok (.ifCond .eq 5, 3) := by decide +kernel
theorem dX9_drift_10 : decode cX9_drift 10 = .ok (.iload_n 2, 1) := by decide +kernel
theorem dX9_drift_11 : decode cX9_drift 11 = .ok (.ireturn, 1) := by decide +kernel
theorem dX9_drift_12 : decode cX9_drift 12 = .ok (.aload_n 0, 1) := by decide +kernel
theorem dX9_drift_13 : decode cX9_drift 13 = .ok (.getfield 54, 3) := by decide +kernel
theorem dX9_drift_16 : decode cX9_drift 16 = .ok (.aload_n 0, 1) := by decide +kernel
theorem dX9_drift_17 : decode cX9_drift 17 = .ok (.getfield 43, 3) := by decide +kernel
theorem dX9_drift_20 : decode cX9_drift 20 = .ok (.invokevirtual 189, 3) := by decide +kernel
theorem dX9_drift_23 : decode cX9_drift 23 = .ok (.iconst 0, 1) := by decide +kernel
theorem dX9_drift_24 : decode cX9_drift 24 = .ok (.istore_n 3, 1) := by decide +kernel
theorem dX9_drift_25 : decode cX9_drift 25 = .ok (.iload_n 3, 1) := by decide +kernel
theorem dX9_drift_26 : decode cX9_drift 26 = .ok (.iload_n 1, 1) := by decide +kernel
theorem dX9_drift_27 : decode cX9_drift 27 = .ok (.if_icmp .ge 26, 3) := by decide +kernel
theorem dX9_drift_30 : decode cX9_drift 30 = .ok (.aload_n 0, 1) := by decide +kernel
theorem dX9_drift_31 : decode cX9_drift 31 = .ok (.invokevirtual 203, 3) := by decide +kernel
theorem dX9_drift_34 : decode cX9_drift 34 = .ok (.aload_n 0, 1) := by decide +kernel
theorem dX9_drift_35 : decode cX9_drift 35 = .ok (.getfield 43, 3) := by decide +kernel
theorem dX9_drift_38 : decode cX9_drift 38 = .ok (.dup, 1) := by decide +kernel
theorem dX9_drift_39 : decode cX9_drift 39 = .ok (.getfield 127, 3) := by decide +kernel
theorem dX9_drift_42 : decode cX9_drift 42 = .ok (.iconst 1, 1) := by decide +kernel
theorem dX9_drift_43 : decode cX9_drift 43 = .ok (.iadd, 1) := by decide +kernel
theorem dX9_drift_44 : decode cX9_drift 44 = .ok (.putfield 127, 3) := by decide +kernel
theorem dX9_drift_47 : decode cX9_drift 47 = .ok (.iinc 3 1, 3) := by decide +kernel
theorem dX9_drift_50 : decode cX9_drift 50 = .ok (.goto (-25), 3) := by decide +kernel
theorem dX9_drift_53 : decode cX9_drift 53 = .ok (.aload_n 0, 1) := by decide +kernel
theorem dX9_drift_54 : decode cX9_drift 54 = .ok (.getfield 43, 3) := by decide +kernel
theorem dX9_drift_57 : decode cX9_drift 57 = .ok (.getfield 127, 3) := by decide +kernel
theorem dX9_drift_60 : decode cX9_drift 60 = .ok (.ireturn, 1) := by decide +kernel
theorem dX9_undo_0 : decode cX9_undo 0 = .ok (.aload_n 0, 1) := by decide +kernel
theorem dX9_undo_1 : decode cX9_undo 1 = .ok (.getfield 54, 3) := by decide +kernel
theorem dX9_undo_4 : decode cX9_undo 4 = .ok (.getfield 143, 3) := by decide +kernel
theorem dX9_undo_7 : decode cX9_undo 7 = .ok (.ifCond .ne 6, 3) := by decide +kernel
theorem dX9_undo_10 : decode cX9_undo 10 = .ok (.ldc 188, 2) := by decide +kernel
theorem dX9_undo_12 : decode cX9_undo 12 = .ok (.ireturn, 1) := by decide +kernel
theorem dX9_undo_13 : decode cX9_undo 13 = .ok (.aload_n 0, 1) := by decide +kernel
theorem dX9_undo_14 : decode cX9_undo 14 = .ok (.getfield 54, 3) := by decide +kernel
theorem dX9_undo_17 : decode cX9_undo 17 = .ok (.aload_n 0, 1) := by decide +kernel
theorem dX9_undo_18 : decode cX9_undo 18 = .ok (.getfield 43, 3) := by decide +kernel
theorem dX9_undo_21 : decode cX9_undo 21 = .ok (.invokevirtual 206, 3) := by decide +kernel
theorem dX9_undo_24 : decode cX9_undo 24 = .ok (.aload_n 0, 1) := by decide +kernel
theorem dX9_undo_25 : decode cX9_undo 25 = .ok (.getfield 54, 3) := by decide +kernel
theorem dX9_undo_28 : decode cX9_undo 28 = .ok (.getfield 143, 3) := by decide +kernel
theorem dX9_undo_31 : decode cX9_undo 31 = .ok (.ireturn, 1) := by decide +kernel
theorem dX9_order_0 : decode cX9_order 0 = .ok (.aload_n 0, 1) := by decide +kernel
theorem dX9_order_1 : decode cX9_order 1 = .ok (.getfield 23, 3) := by decide +kernel
theorem dX9_order_4 : decode cX9_order 4 = .ok (.iload_n 1, 1) := by decide +kernel
theorem dX9_order_5 : decode cX9_order 5 = .ok (.invokevirtual 209, 3) := by decide +kernel
theorem dX9_order_8 : decode cX9_order 8 = .ok (.ifCond .ne 6, 3) := by decide +kernel
theorem dX9_order_11 : decode cX9_order 11 = .ok (.ldc 148, 2) := by decide +kernel
theorem dX9_order_13 : decode cX9_order 13 = .ok (.ireturn, 1) := by decide +kernel
theorem dX9_order_14 : decode cX9_order 14 = .ok (.iload_n 1, 1) := by decide +kernel
theorem dX9_order_15 : decode cX9_order 15 = .ok (.invokestatic 133, 3) := by decide +kernel
theorem dX9_order_18 : decode cX9_order 18 = .ok (.istore_n 3, 1) := by decide +kernel
theorem dX9_order_19 : decode cX9_order 19 = .ok (.iload_n 3, 1) := by decide +kernel
theorem dX9_order_20 : decode cX9_order 20 = .ok (.bipush 6, 2) := by decide +kernel
theorem dX9_order_22 : decode cX9_order 22 = .ok (.if_icmp .le 6, 3) := by decide +kernel
theorem dX9_order_25 : decode cX9_order 25 = .ok (.ldc 97, 2) := by decide +kernel
theorem dX9_order_27 : decode cX9_order 27 = .ok (.ireturn, 1) := by decide +kernel
theorem dX9_order_28 : decode cX9_order 28 = .ok (.iload_n 2, 1) := by decide +kernel
theorem dX9_order_29 : decode cX9_order 29 = .ok (.ifCond .lt 27, 3) := by decide +kernel
theorem dX9_order_32 : decode cX9_order 32 = .ok (.iload_n 2, 1) := by decide +kernel
theorem dX9_order_33 : decode cX9_order 33 = .ok (.iload_n 3, 1) := by decide +kernel
theorem dX9_order_34 : decode cX9_order 34 = .ok (.if_icmp .ge 22, 3) := by decide +kernel
theorem dX9_order_37 : decode cX9_order 37 = .ok (.aload_n 0, 1) := by decide +kernel
theorem dX9_order_38 : decode cX9_order 38 = .ok (.getfield 72, 3) := by decide +kernel
theorem dX9_order_41 : decode cX9_order 41 = .ok (.aload_n 0, 1) := by decide +kernel
theorem dX9_order_42 : decode cX9_order 42 = .ok (.getfield 23, 3) := by decide +kernel
theorem dX9_order_45 : decode cX9_order 45 = .ok (.aload_n 0, 1) := by decide +kernel
theorem dX9_order_46 : decode cX9_order 46 = .ok (.getfield 43, 3) := by decide +kernel
theorem dX9_order_49 : decode cX9_order 49 = .ok (.iload_n 1, 1) := by decide +kernel
theorem dX9_order_50 : decode cX9_order 50 = .ok (.invokevirtual 212, 3) := by decide +kernel
theorem dX9_order_53 : decode cX9_order 53 = .ok (.ifCond .ne 5, 3) := by decide +kernel
theorem dX9_order_56 : decode cX9_order 56 = .ok (.iconst (-1), 1) := by decide +kernel
theorem dX9_order_57 : decode cX9_order 57 = .ok (.ireturn, 1) := by decide +kernel
theorem dX9_order_58 : decode cX9_order 58 = .ok (.aload_n 0, 1) := by decide +kernel
theorem dX9_order_59 : decode cX9_order 59 = .ok (.getfield 72, 3) := by decide +kernel
theorem dX9_order_62 : decode cX9_order 62 = .ok (.getfield 216, 3) := by decide +kernel
theorem dX9_order_65 : decode cX9_order 65 = .ok (.iload_n 2, 1) := by decide +kernel
theorem dX9_order_66 : decode cX9_order 66 = .ok (.iaload, 1) := by decide +kernel
theorem dX9_order_67 : decode cX9_order 67 = .ok (.ireturn, 1) := by decide +kernel
theorem dX9_signers_0 : decode cX9_signers 0 = .ok (.aload_n 0, 1) := by decide +kernel
theorem dX9_signers_1 : decode cX9_signers 1 = .ok (.getfield 23, 3) := by decide +kernel
theorem dX9_signers_4 : decode cX9_signers 4 = .ok (.iload_n 1, 1) := by decide +kernel
theorem dX9_signers_5 : decode cX9_signers 5 = .ok (.invokevirtual 144, 3) := by decide +kernel
theorem dX9_signers_8 : decode cX9_signers 8 = .ok (.ifCond .ne 6, 3) := by decide +kernel
theorem dX9_signers_11 : decode cX9_signers 11 = .ok (.ldc 148, 2) := by decide +kernel
theorem dX9_signers_13 : decode cX9_signers 13 = .ok (.ireturn, 1) := by decide +kernel
theorem dX9_signers_14 : decode cX9_signers 14 = .ok (.iconst 0, 1) := by decide +kernel
theorem dX9_signers_15 : decode cX9_signers 15 = .ok (.istore_n 2, 1) := by decide +kernel
theorem dX9_signers_16 : decode cX9_signers 16 = .ok (.iconst 0, 1) := by decide +kernel
theorem dX9_signers_17 : decode cX9_signers 17 = .ok (.istore_n 3, 1) := by decide +kernel
theorem dX9_signers_18 : decode cX9_signers 18 = .ok (.iload_n 3, 1) := by decide +kernel
theorem dX9_signers_19 : decode cX9_signers 19 = .ok (.aload_n 0, 1) := by decide +kernel
theorem dX9_signers_20 : decode cX9_signers 20 = .ok (.getfield 23, 3) := by decide +kernel
theorem dX9_signers_23 : decode cX9_signers 23 = .ok (.getfield 111, 3) := by decide +kernel
theorem dX9_signers_26 : decode cX9_signers 26 = .ok (.if_icmp .ge 27, 3) := by decide +kernel
theorem dX9_signers_29 : decode cX9_signers 29 = .ok (.aload_n 0, 1) := by decide +kernel
theorem dX9_signers_30 : decode cX9_signers 30 = .ok (.getfield 23, 3) := by decide +kernel
theorem dX9_signers_33 : decode cX9_signers 33 = .ok (.iload_n 3, 1) := by decide +kernel
theorem dX9_signers_34 : decode cX9_signers 34 = .ok (.invokevirtual 171, 3) := by decide +kernel
theorem dX9_signers_37 : decode cX9_signers 37 = .ok (.iload_n 1, 1) := by decide +kernel
theorem dX9_signers_38 : decode cX9_signers 38 = .ok (.if_icmp .ne 9, 3) := by decide +kernel
theorem dX9_signers_41 : decode cX9_signers 41 = .ok (.iload_n 2, 1) := by decide +kernel
theorem dX9_signers_42 : decode cX9_signers 42 = .ok (.iconst 1, 1) := by decide +kernel
theorem dX9_signers_43 : decode cX9_signers 43 = .ok (.iload_n 3, 1) := by decide +kernel
theorem dX9_signers_44 : decode cX9_signers 44 = .ok (.ishl, 1) := by decide +kernel
theorem dX9_signers_45 : decode cX9_signers 45 = .ok (.ior, 1) := by decide +kernel
theorem dX9_signers_46 : decode cX9_signers 46 = .ok (.istore_n 2, 1) := by decide +kernel
theorem dX9_signers_47 : decode cX9_signers 47 = .ok (.iinc 3 1, 3) := by decide +kernel
theorem dX9_signers_50 : decode cX9_signers 50 = .ok (.goto (-32), 3) := by decide +kernel
theorem dX9_signers_53 : decode cX9_signers 53 = .ok (.iload_n 2, 1) := by decide +kernel
theorem dX9_signers_54 : decode cX9_signers 54 = .ok (.ireturn, 1) := by decide +kernel
theorem dX9_farShore_0 : decode cX9_farShore 0 = .ok (.iload_n 1, 1) := by decide +kernel
theorem dX9_farShore_1 : decode cX9_farShore 1 = .ok (.ifCond .eq 11, 3) := by decide +kernel
theorem dX9_farShore_4 : decode cX9_farShore 4 = .ok (.iload_n 1, 1) := by decide +kernel
theorem dX9_farShore_5 : decode cX9_farShore 5 = .ok (.iconst 1, 1) := by decide +kernel
theorem dX9_farShore_6 : decode cX9_farShore 6 = .ok (.if_icmp .eq 6, 3) := by decide +kernel
theorem dX9_farShore_9 : decode cX9_farShore 9 = .ok (.ldc 97, 2) := by decide +kernel
theorem dX9_farShore_11 : decode cX9_farShore 11 = .ok (.ireturn, 1) := by decide +kernel
theorem dX9_farShore_12 : decode cX9_farShore 12 = .ok (.iconst 0, 1) := by decide +kernel
theorem dX9_farShore_13 : decode cX9_farShore 13 = .ok (.istore_n 2, 1) := by decide +kernel
theorem dX9_farShore_14 : decode cX9_farShore 14 = .ok (.iconst 0, 1) := by decide +kernel
theorem dX9_farShore_15 : decode cX9_farShore 15 = .ok (.istore_n 3, 1) := by decide +kernel
theorem dX9_farShore_16 : decode cX9_farShore 16 = .ok (.iload_n 3, 1) := by decide +kernel
theorem dX9_farShore_17 : decode cX9_farShore 17 = .ok (.aload_n 0, 1) := by decide +kernel
theorem dX9_farShore_18 : decode cX9_farShore 18 = .ok (.getfield 23, 3) := by decide +kernel
theorem dX9_farShore_21 : decode cX9_farShore 21 = .ok (.getfield 111, 3) := by decide +kernel
theorem dX9_farShore_24 : decode cX9_farShore 24 = .ok (.if_icmp .ge 79, 3) := by decide +kernel
theorem dX9_farShore_27 : decode cX9_farShore 27 = .ok (.aload_n 0, 1) := by decide +kernel
theorem dX9_farShore_28 : decode cX9_farShore 28 = .ok (.getfield 23, 3) := by decide +kernel
theorem dX9_farShore_31 : decode cX9_farShore 31 = .ok (.aload_n 0, 1) := by decide +kernel
theorem dX9_farShore_32 : decode cX9_farShore 32 = .ok (.getfield 23, 3) := by decide +kernel
theorem dX9_farShore_35 : decode cX9_farShore 35 = .ok (.getfield 158, 3) := by decide +kernel
theorem dX9_farShore_38 : decode cX9_farShore 38 = .ok (.iload_n 3, 1) := by decide +kernel
theorem dX9_farShore_39 : decode cX9_farShore 39 = .ok (.iaload, 1) := by decide +kernel
theorem dX9_farShore_40 : decode cX9_farShore 40 = .ok (.invokestatic 219, 3) := by decide +kernel
theorem dX9_farShore_43 : decode cX9_farShore 43 = .ok (.invokevirtual 222, 3) := by decide +kernel
theorem dX9_farShore_46 : decode cX9_farShore 46 = .ok (.istore 4, 2) := by decide +kernel
theorem dX9_farShore_48 : decode cX9_farShore 48 = .ok (.iload_n 1, 1) := by decide +kernel
theorem dX9_farShore_49 : decode cX9_farShore 49 = .ok (.iconst 1, 1) := by decide +kernel
theorem dX9_farShore_50 : decode cX9_farShore 50 = .ok (.if_icmp .ne 17, 3) := by decide +kernel
theorem dX9_farShore_53 : decode cX9_farShore 53 = .ok (.iload 4, 2) := by decide +kernel
theorem dX9_farShore_55 : decode cX9_farShore 55 = .ok (.iload_n 3, 1) := by decide +kernel
theorem dX9_farShore_56 : decode cX9_farShore 56 = .ok (.if_icmp .ne 7, 3) := by decide +kernel
theorem dX9_farShore_59 : decode cX9_farShore 59 = .ok (.iconst 1, 1) := by decide +kernel
theorem dX9_farShore_60 : decode cX9_farShore 60 = .ok (.goto 24, 3) := by decide +kernel
theorem dX9_farShore_63 : decode cX9_farShore 63 = .ok (.iconst 0, 1) := by decide +kernel
theorem dX9_farShore_64 : decode cX9_farShore 64 = .ok (.goto 20, 3) := by decide +kernel
theorem dX9_farShore_67 : decode cX9_farShore 67 = .ok (.iload 4, 2) := by decide +kernel
theorem dX9_farShore_69 : decode cX9_farShore 69 = .ok (.iconst (-1), 1) := by decide +kernel
theorem dX9_farShore_70 : decode cX9_farShore 70 = .ok (.if_icmp .eq 13, 3) := by decide +kernel
theorem dX9_farShore_73 : decode cX9_farShore 73 = .ok (.iload 4, 2) := by decide +kernel
theorem dX9_farShore_75 : decode cX9_farShore 75 = .ok (.iload_n 3, 1) := by decide +kernel
theorem dX9_farShore_76 : decode cX9_farShore 76 = .ok (.if_icmp .eq 7, 3) := by decide +kernel
theorem dX9_farShore_79 : decode cX9_farShore 79 = .ok (.iconst 1, 1) := by decide +kernel
theorem dX9_farShore_80 : decode cX9_farShore 80 = .ok (.goto 4, 3) := by decide +kernel
theorem dX9_farShore_83 : decode cX9_farShore 83 = .ok (.iconst 0, 1) := by decide +kernel
theorem dX9_farShore_84 : decode cX9_farShore 84 = .ok (.istore 5, 2) := by decide +kernel
theorem dX9_farShore_86 : decode cX9_farShore 86 = .ok (.iload 5, 2) := by decide +kernel
theorem dX9_farShore_88 : decode cX9_farShore 88 = .ok (.ifCond .eq 9, 3) := by decide +kernel
theorem dX9_farShore_91 : decode cX9_farShore 91 = .ok (.iload_n 2, 1) := by decide +kernel
theorem dX9_farShore_92 : decode cX9_farShore 92 = .ok (.iconst 1, 1) := by decide +kernel
theorem dX9_farShore_93 : decode cX9_farShore 93 = .ok (.iload_n 3, 1) := by decide +kernel
theorem dX9_farShore_94 : decode cX9_farShore 94 = .ok (.ishl, 1) := by decide +kernel
theorem dX9_farShore_95 : decode cX9_farShore 95 = .ok (.ior, 1) := by decide +kernel
theorem dX9_farShore_96 : decode cX9_farShore 96 = .ok (.istore_n 2, 1) := by decide +kernel
theorem dX9_farShore_97 : decode cX9_farShore 97 = .ok (.iinc 3 1, 3) := by decide +kernel
theorem dX9_farShore_100 : decode cX9_farShore 100 = .ok (.goto (-84), 3) := by decide +kernel
theorem dX9_farShore_103 : decode cX9_farShore 103 = .ok (.iload_n 2, 1) := by decide +kernel
theorem dX9_farShore_104 : decode cX9_farShore 104 = .ok (.ireturn, 1) := by decide +kernel
theorem dX9_cross_0 : decode cX9_cross 0 = .ok (.aload_n 0, 1) := by decide +kernel
theorem dX9_cross_1 : decode cX9_cross 1 = .ok (.getfield 23, 3) := by decide +kernel
theorem dX9_cross_4 : decode cX9_cross 4 = .ok (.iload_n 1, 1) := by decide +kernel
theorem dX9_cross_5 : decode cX9_cross 5 = .ok (.iload_n 2, 1) := by decide +kernel
theorem dX9_cross_6 : decode cX9_cross 6 = .ok (.invokevirtual 174, 3) := by decide +kernel
theorem dX9_cross_9 : decode cX9_cross 9 = .ok (.ifCond .ne 6, 3) := by decide +kernel
theorem dX9_cross_12 : decode cX9_cross 12 = .ok (.ldc 148, 2) := by decide +kernel
theorem dX9_cross_14 : decode cX9_cross 14 = .ok (.ireturn, 1) := by decide +kernel
theorem dX9_cross_15 : decode cX9_cross 15 = .ok (.aload_n 0, 1) := by decide +kernel
theorem dX9_cross_16 : decode cX9_cross 16 = .ok (.getfield 23, 3) := by decide +kernel
theorem dX9_cross_19 : decode cX9_cross 19 = .ok (.iload_n 1, 1) := by decide +kernel
theorem dX9_cross_20 : decode cX9_cross 20 = .ok (.iload_n 2, 1) := by decide +kernel
theorem dX9_cross_21 : decode cX9_cross 21 = .ok (.invokevirtual 225, 3) := by decide +kernel
theorem dX9_cross_24 : decode cX9_cross 24 = .ok (.iconst 2, 1) := by decide +kernel
theorem dX9_cross_25 : decode cX9_cross 25 = .ok (.if_icmp .eq 5, 3) := by decide +kernel
theorem dX9_cross_28 : decode cX9_cross 28 = .ok (.iconst (-1), 1) := by decide +kernel
theorem dX9_cross_29 : decode cX9_cross 29 = .ok (.ireturn, 1) := by decide +kernel
theorem dX9_cross_30 : decode cX9_cross 30 = .ok (.aload_n 0, 1) := by decide +kernel
theorem dX9_cross_31 : decode cX9_cross 31 = .ok (.getfield 23, 3) := by decide +kernel
theorem dX9_cross_34 : decode cX9_cross 34 = .ok (.aload_n 0, 1) := by decide +kernel
theorem dX9_cross_35 : decode cX9_cross 35 = .ok (.getfield 23, 3) := by decide +kernel
theorem dX9_cross_38 : decode cX9_cross 38 = .ok (.getfield 149, 3) := by decide +kernel
theorem dX9_cross_41 : decode cX9_cross 41 = .ok (.iload_n 1, 1) := by decide +kernel
theorem dX9_cross_42 : decode cX9_cross 42 = .ok (.iaload, 1) := by decide +kernel
theorem dX9_cross_43 : decode cX9_cross 43 = .ok (.aload_n 0, 1) := by decide +kernel
theorem dX9_cross_44 : decode cX9_cross 44 = .ok (.getfield 23, 3) := by decide +kernel
theorem dX9_cross_47 : decode cX9_cross 47 = .ok (.getfield 149, 3) := by decide +kernel
theorem dX9_cross_50 : decode cX9_cross 50 = .ok (.iload_n 2, 1) := by decide +kernel
theorem dX9_cross_51 : decode cX9_cross 51 = .ok (.iaload, 1) := by decide +kernel
theorem dX9_cross_52 : decode cX9_cross 52 = .ok (.invokestatic 229, 3) := by decide +kernel
theorem dX9_cross_55 : decode cX9_cross 55 = .ok (.iconst 1, 1) := by decide +kernel
theorem dX9_cross_56 : decode cX9_cross 56 = .ok (.iadd, 1) := by decide +kernel
theorem dX9_cross_57 : decode cX9_cross 57 = .ok (.invokevirtual 234, 3) := by decide +kernel
theorem dX9_cross_60 : decode cX9_cross 60 = .ok (.ireturn, 1) := by decide +kernel
theorem dX9_treaty_0 : decode cX9_treaty 0 = .ok (.aload_n 0, 1) := by decide +kernel
theorem dX9_treaty_1 : decode cX9_treaty 1 = .ok (.getfield 23, 3) := by decide +kernel
theorem dX9_treaty_4 : decode cX9_treaty 4 = .ok (.iload_n 1, 1) := by decide +kernel
theorem dX9_treaty_5 : decode cX9_treaty 5 = .ok (.invokevirtual 209, 3) := by decide +kernel
theorem dX9_treaty_8 : decode cX9_treaty 8 = .ok (.ifCond .ne 6, 3) := by decide +kernel
theorem dX9_treaty_11 : decode cX9_treaty 11 = .ok (.ldc 148, 2) := by decide +kernel
theorem dX9_treaty_13 : decode cX9_treaty 13 = .ok (.ireturn, 1) := by decide +kernel
theorem dX9_treaty_14 : decode cX9_treaty 14 = .ok (.iconst 0, 1) := by decide +kernel
theorem dX9_treaty_15 : decode cX9_treaty 15 = .ok (.istore_n 2, 1) := by decide +kernel
theorem dX9_treaty_16 : decode cX9_treaty 16 = .ok (.iconst 0, 1) := by decide +kernel
theorem dX9_treaty_17 : decode cX9_treaty 17 = .ok (.istore_n 3, 1) := by decide +kernel
theorem dX9_treaty_18 : decode cX9_treaty 18 = .ok (.iload_n 3, 1) := by decide +kernel
theorem dX9_treaty_19 : decode cX9_treaty 19 = .ok (.aload_n 0, 1) := by decide +kernel
theorem dX9_treaty_20 : decode cX9_treaty 20 = .ok (.getfield 23, 3) := by decide +kernel
theorem dX9_treaty_23 : decode cX9_treaty 23 = .ok (.getfield 111, 3) := by decide +kernel
theorem dX9_treaty_26 : decode cX9_treaty 26 = .ok (.if_icmp .ge 34, 3) := by decide +kernel
theorem dX9_treaty_29 : decode cX9_treaty 29 = .ok (.iload_n 1, 1) := by decide +kernel
theorem dX9_treaty_30 : decode cX9_treaty 30 = .ok (.iload_n 3, 1) := by decide +kernel
theorem dX9_treaty_31 : decode cX9_treaty 31 = .ok (.ishr, 1) := by decide +kernel
theorem dX9_treaty_32 : decode cX9_treaty 32 = .ok (.iconst 1, 1) := by decide +kernel
theorem dX9_treaty_33 : decode cX9_treaty 33 = .ok (.iand, 1) := by decide +kernel
theorem dX9_treaty_34 : decode cX9_treaty 34 = .ok (.iconst 1, 1) := by decide +kernel
theorem dX9_treaty_35 : decode cX9_treaty 35 = .ok (.if_icmp .ne 19, 3) := by decide +kernel
theorem dX9_treaty_38 : decode cX9_treaty 38 = .ok (.iload_n 2, 1) := by decide +kernel
theorem dX9_treaty_39 : decode cX9_treaty 39 = .ok (.aload_n 0, 1) := by decide +kernel
theorem dX9_treaty_40 : decode cX9_treaty 40 = .ok (.getfield 43, 3) := by decide +kernel
theorem dX9_treaty_43 : decode cX9_treaty 43 = .ok (.aload_n 0, 1) := by decide +kernel
theorem dX9_treaty_44 : decode cX9_treaty 44 = .ok (.getfield 23, 3) := by decide +kernel
theorem dX9_treaty_47 : decode cX9_treaty 47 = .ok (.iload_n 3, 1) := by decide +kernel
theorem dX9_treaty_48 : decode cX9_treaty 48 = .ok (.iload_n 1, 1) := by decide +kernel
theorem dX9_treaty_49 : decode cX9_treaty 49 = .ok (.invokevirtual 237, 3) := by decide +kernel
theorem dX9_treaty_52 : decode cX9_treaty 52 = .ok (.iadd, 1) := by decide +kernel
theorem dX9_treaty_53 : decode cX9_treaty 53 = .ok (.istore_n 2, 1) := by decide +kernel
theorem dX9_treaty_54 : decode cX9_treaty 54 = .ok (.iinc 3 1, 3) := by decide +kernel
theorem dX9_treaty_57 : decode cX9_treaty 57 = .ok (.goto (-39), 3) := by decide +kernel
theorem dX9_treaty_60 : decode cX9_treaty 60 = .ok (.iload_n 2, 1) := by decide +kernel
theorem dX9_treaty_61 : decode cX9_treaty 61 = .ok (.ireturn, 1) := by decide +kernel
theorem dX9_forged_0 : decode cX9_forged 0 = .ok (.aload_n 0, 1) := by decide +kernel
theorem dX9_forged_1 : decode cX9_forged 1 = .ok (.getfield 23, 3) := by decide +kernel
theorem dX9_forged_4 : decode cX9_forged 4 = .ok (.iload_n 1, 1) := by decide +kernel
theorem dX9_forged_5 : decode cX9_forged 5 = .ok (.invokevirtual 144, 3) := by decide +kernel
theorem dX9_forged_8 : decode cX9_forged 8 = .ok (.ifCond .ne 6, 3) := by decide +kernel
theorem dX9_forged_11 : decode cX9_forged 11 = .ok (.ldc 148, 2) := by decide +kernel
theorem dX9_forged_13 : decode cX9_forged 13 = .ok (.ireturn, 1) := by decide +kernel
theorem dX9_forged_14 : decode cX9_forged 14 = .ok (.iload_n 2, 1) := by decide +kernel
theorem dX9_forged_15 : decode cX9_forged 15 = .ok (.invokestatic 241, 3) := by decide +kernel
theorem dX9_forged_18 : decode cX9_forged 18 = .ok (.ifCond .eq 12, 3) := by decide +kernel
theorem dX9_forged_21 : decode cX9_forged 21 = .ok (.iload_n 3, 1) := by decide +kernel
theorem dX9_forged_22 : decode cX9_forged 22 = .ok (.ifCond .lt 8, 3) := by decide +kernel
theorem dX9_forged_25 : decode cX9_forged 25 = .ok (.iload_n 3, 1) := by decide +kernel
theorem dX9_forged_26 : decode cX9_forged 26 = .ok (.iconst 1, 1) := by decide +kernel
theorem dX9_forged_27 : decode cX9_forged 27 = .ok (.if_icmp .le 6, 3) := by decide +kernel
theorem dX9_forged_30 : decode cX9_forged 30 = .ok (.ldc 97, 2) := by decide +kernel
theorem dX9_forged_32 : decode cX9_forged 32 = .ok (.ireturn, 1) := by decide +kernel
theorem dX9_forged_33 : decode cX9_forged 33 = .ok (.aload_n 0, 1) := by decide +kernel
theorem dX9_forged_34 : decode cX9_forged 34 = .ok (.getfield 23, 3) := by decide +kernel
theorem dX9_forged_37 : decode cX9_forged 37 = .ok (.getfield 158, 3) := by decide +kernel
theorem dX9_forged_40 : decode cX9_forged 40 = .ok (.iload_n 1, 1) := by decide +kernel
theorem dX9_forged_41 : decode cX9_forged 41 = .ok (.iaload, 1) := by decide +kernel
theorem dX9_forged_42 : decode cX9_forged 42 = .ok (.iload_n 2, 1) := by decide +kernel
theorem dX9_forged_43 : decode cX9_forged 43 = .ok (.invokestatic 244, 3) := by decide +kernel
theorem dX9_forged_46 : decode cX9_forged 46 = .ok (.istore 4, 2) := by decide +kernel
