theorem dX9_forged_48 : decode cX9_forged 48 = .ok (.iload_n 3, 1) := by decide +kernel
theorem dX9_forged_49 : decode cX9_forged 49 = .ok (.ifCond .ne 6, 3) := by decide +kernel
theorem dX9_forged_52 : decode cX9_forged 52 = .ok (.iload 4, 2) := by decide +kernel
theorem dX9_forged_54 : decode cX9_forged 54 = .ok (.ireturn, 1) := by decide +kernel
theorem dX9_forged_55 : decode cX9_forged 55 = .ok (.aload_n 0, 1) := by decide +kernel
theorem dX9_forged_56 : decode cX9_forged 56 = .ok (.getfield 23, 3) := by decide +kernel
theorem dX9_forged_59 : decode cX9_forged 59 = .ok (.getfield 158, 3) := by decide +kernel
theorem dX9_forged_62 : decode cX9_forged 62 = .ok (.iload_n 1, 1) := by decide +kernel
theorem dX9_forged_63 : decode cX9_forged 63 = .ok (.iaload, 1) := by decide +kernel
theorem dX9_forged_64 : decode cX9_forged 64 = .ok (.invokestatic 161, 3) := by decide +kernel
theorem dX9_forged_67 : decode cX9_forged 67 = .ok (.iload_n 2, 1) := by decide +kernel
theorem dX9_forged_68 : decode cX9_forged 68 = .ok (.invokestatic 161, 3) := by decide +kernel
theorem dX9_forged_71 : decode cX9_forged 71 = .ok (.invokestatic 247, 3) := by decide +kernel
theorem dX9_forged_74 : decode cX9_forged 74 = .ok (.istore 5, 2) := by decide +kernel
theorem dX9_forged_76 : decode cX9_forged 76 = .ok (.ldc 250, 2) := by decide +kernel
theorem dX9_forged_78 : decode cX9_forged 78 = .ok (.bipush 90, 2) := by decide +kernel
theorem dX9_forged_80 : decode cX9_forged 80 = .ok (.iload 5, 2) := by decide +kernel
theorem dX9_forged_82 : decode cX9_forged 82 = .ok (.iload 4, 2) := by decide +kernel
theorem dX9_forged_84 : decode cX9_forged 84 = .ok (.isub, 1) := by decide +kernel
theorem dX9_forged_85 : decode cX9_forged 85 = .ok (.invokestatic 251, 3) := by decide +kernel
theorem dX9_forged_88 : decode cX9_forged 88 = .ok (.bipush 10, 2) := by decide +kernel
theorem dX9_forged_90 : decode cX9_forged 90 = .ok (.iload 4, 2) := by decide +kernel
theorem dX9_forged_92 : decode cX9_forged 92 = .ok (.invokestatic 251, 3) := by decide +kernel
theorem dX9_forged_95 : decode cX9_forged 95 = .ok (.ireturn, 1) := by decide +kernel
theorem dX9_damp_0 : decode cX9_damp 0 = .ok (.aload_n 0, 1) := by decide +kernel
theorem dX9_damp_1 : decode cX9_damp 1 = .ok (.getfield 23, 3) := by decide +kernel
theorem dX9_damp_4 : decode cX9_damp 4 = .ok (.iload_n 1, 1) := by decide +kernel
theorem dX9_damp_5 : decode cX9_damp 5 = .ok (.invokevirtual 209, 3) := by decide +kernel
theorem dX9_damp_8 : decode cX9_damp 8 = .ok (.ifCond .ne 6, 3) := by decide +kernel
theorem dX9_damp_11 : decode cX9_damp 11 = .ok (.ldc 148, 2) := by decide +kernel
theorem dX9_damp_13 : decode cX9_damp 13 = .ok (.ireturn, 1) := by decide +kernel
theorem dX9_damp_14 : decode cX9_damp 14 = .ok (.ldc 250, 2) := by decide +kernel
theorem dX9_damp_16 : decode cX9_damp 16 = .ok (.istore_n 2, 1) := by decide +kernel
theorem dX9_damp_17 : decode cX9_damp 17 = .ok (.iconst 0, 1) := by decide +kernel
theorem dX9_damp_18 : decode cX9_damp 18 = .ok (.istore_n 3, 1) := by decide +kernel
theorem dX9_damp_19 : decode cX9_damp 19 = .ok (.iload_n 3, 1) := by decide +kernel
theorem dX9_damp_20 : decode cX9_damp 20 = .ok (.aload_n 0, 1) := by decide +kernel
theorem dX9_damp_21 : decode cX9_damp 21 = .ok (.getfield 23, 3) := by decide +kernel
theorem dX9_damp_24 : decode cX9_damp 24 = .ok (.getfield 111, 3) := by decide +kernel
theorem dX9_damp_27 : decode cX9_damp 27 = .ok (.if_icmp .ge 45, 3) := by decide +kernel
theorem dX9_damp_30 : decode cX9_damp 30 = .ok (.iload_n 1, 1) := by decide +kernel
theorem dX9_damp_31 : decode cX9_damp 31 = .ok (.iload_n 3, 1) := by decide +kernel
theorem dX9_damp_32 : decode cX9_damp 32 = .ok (.ishr, 1) := by decide +kernel
theorem dX9_damp_33 : decode cX9_damp 33 = .ok (.iconst 1, 1) := by decide +kernel
theorem dX9_damp_34 : decode cX9_damp 34 = .ok (.iand, 1) := by decide +kernel
theorem dX9_damp_35 : decode cX9_damp 35 = .ok (.iconst 1, 1) := by decide +kernel
theorem dX9_damp_36 : decode cX9_damp 36 = .ok (.if_icmp .ne 30, 3) := by decide +kernel
theorem dX9_damp_39 : decode cX9_damp 39 = .ok (.iload_n 2, 1) := by decide +kernel
theorem dX9_damp_40 : decode cX9_damp 40 = .ok (.bipush 100, 2) := by decide +kernel
theorem dX9_damp_42 : decode cX9_damp 42 = .ok (.aload_n 0, 1) := by decide +kernel
theorem dX9_damp_43 : decode cX9_damp 43 = .ok (.getfield 23, 3) := by decide +kernel
theorem dX9_damp_46 : decode cX9_damp 46 = .ok (.getfield 124, 3) := by decide +kernel
theorem dX9_damp_49 : decode cX9_damp 49 = .ok (.isub, 1) := by decide +kernel
theorem dX9_damp_50 : decode cX9_damp 50 = .ok (.aload_n 0, 1) := by decide +kernel
theorem dX9_damp_51 : decode cX9_damp 51 = .ok (.getfield 23, 3) := by decide +kernel
theorem dX9_damp_54 : decode cX9_damp 54 = .ok (.getfield 158, 3) := by decide +kernel
theorem dX9_damp_57 : decode cX9_damp 57 = .ok (.iload_n 3, 1) := by decide +kernel
theorem dX9_damp_58 : decode cX9_damp 58 = .ok (.iaload, 1) := by decide +kernel
theorem dX9_damp_59 : decode cX9_damp 59 = .ok (.invokestatic 255, 3) := by decide +kernel
theorem dX9_damp_62 : decode cX9_damp 62 = .ok (.invokestatic 251, 3) := by decide +kernel
theorem dX9_damp_65 : decode cX9_damp 65 = .ok (.istore_n 2, 1) := by decide +kernel
theorem dX9_damp_66 : decode cX9_damp 66 = .ok (.iinc 3 1, 3) := by decide +kernel
theorem dX9_damp_69 : decode cX9_damp 69 = .ok (.goto (-50), 3) := by decide +kernel
theorem dX9_damp_72 : decode cX9_damp 72 = .ok (.iload_n 2, 1) := by decide +kernel
theorem dX9_damp_73 : decode cX9_damp 73 = .ok (.ireturn, 1) := by decide +kernel
theorem dX9_partner_0 : decode cX9_partner 0 = .ok (.aload_n 0, 1) := by decide +kernel
theorem dX9_partner_1 : decode cX9_partner 1 = .ok (.getfield 23, 3) := by decide +kernel
theorem dX9_partner_4 : decode cX9_partner 4 = .ok (.iload_n 1, 1) := by decide +kernel
theorem dX9_partner_5 : decode cX9_partner 5 = .ok (.invokevirtual 144, 3) := by decide +kernel
theorem dX9_partner_8 : decode cX9_partner 8 = .ok (.ifCond .ne 6, 3) := by decide +kernel
theorem dX9_partner_11 : decode cX9_partner 11 = .ok (.ldc 148, 2) := by decide +kernel
theorem dX9_partner_13 : decode cX9_partner 13 = .ok (.ireturn, 1) := by decide +kernel
theorem dX9_partner_14 : decode cX9_partner 14 = .ok (.aload_n 0, 1) := by decide +kernel
theorem dX9_partner_15 : decode cX9_partner 15 = .ok (.getfield 79, 3) := by decide +kernel
theorem dX9_partner_18 : decode cX9_partner 18 = .ok (.aload_n 0, 1) := by decide +kernel
theorem dX9_partner_19 : decode cX9_partner 19 = .ok (.getfield 23, 3) := by decide +kernel
theorem dX9_partner_22 : decode cX9_partner 22 = .ok (.aload_n 0, 1) := by decide +kernel
theorem dX9_partner_23 : decode cX9_partner 23 = .ok (.getfield 43, 3) := by decide +kernel
theorem dX9_partner_26 : decode cX9_partner 26 = .ok (.invokevirtual 258, 3) := by decide +kernel
theorem dX9_partner_29 : decode cX9_partner 29 = .ok (.aload_n 0, 1) := by decide +kernel
theorem dX9_partner_30 : decode cX9_partner 30 = .ok (.getfield 79, 3) := by decide +kernel
theorem dX9_partner_33 : decode cX9_partner 33 = .ok (.getfield 262, 3) := by decide +kernel
theorem dX9_partner_36 : decode cX9_partner 36 = .ok (.iload_n 1, 1) := by decide +kernel
theorem dX9_partner_37 : decode cX9_partner 37 = .ok (.iaload, 1) := by decide +kernel
theorem dX9_partner_38 : decode cX9_partner 38 = .ok (.ireturn, 1) := by decide +kernel
theorem dX9_duck_0 : decode cX9_duck 0 = .ok (.iload_n 1, 1) := by decide +kernel
theorem dX9_duck_1 : decode cX9_duck 1 = .ok (.ifCond .lt 25, 3) := by decide +kernel
theorem dX9_duck_4 : decode cX9_duck 4 = .ok (.iload_n 1, 1) := by decide +kernel
theorem dX9_duck_5 : decode cX9_duck 5 = .ok (.sipush 999, 3) := by decide +kernel
theorem dX9_duck_8 : decode cX9_duck 8 = .ok (.if_icmp .gt 18, 3) := by decide +kernel
theorem dX9_duck_11 : decode cX9_duck 11 = .ok (.iload_n 2, 1) := by decide +kernel
theorem dX9_duck_12 : decode cX9_duck 12 = .ok (.ifCond .lt 14, 3) := by decide +kernel
theorem dX9_duck_15 : decode cX9_duck 15 = .ok (.iload_n 2, 1) := by decide +kernel
theorem dX9_duck_16 : decode cX9_duck 16 = .ok (.aload_n 0, 1) := by decide +kernel
theorem dX9_duck_17 : decode cX9_duck 17 = .ok (.getfield 23, 3) := by decide +kernel
theorem dX9_duck_20 : decode cX9_duck 20 = .ok (.getfield 112, 3) := by decide +kernel
theorem dX9_duck_23 : decode cX9_duck 23 = .ok (.if_icmp .lt 6, 3) := by decide +kernel
theorem dX9_duck_26 : decode cX9_duck 26 = .ok (.ldc 97, 2) := by decide +kernel
theorem dX9_duck_28 : decode cX9_duck 28 = .ok (.ireturn, 1) := by decide +kernel
theorem dX9_duck_29 : decode cX9_duck 29 = .ok (.aload_n 0, 1) := by decide +kernel
theorem dX9_duck_30 : decode cX9_duck 30 = .ok (.getfield 86, 3) := by decide +kernel
theorem dX9_duck_33 : decode cX9_duck 33 = .ok (.getfield 107, 3) := by decide +kernel
theorem dX9_duck_36 : decode cX9_duck 36 = .ok (.bipush 6, 2) := by decide +kernel
theorem dX9_duck_38 : decode cX9_duck 38 = .ok (.if_icmp .lt 6, 3) := by decide +kernel
theorem dX9_duck_41 : decode cX9_duck 41 = .ok (.ldc 98, 2) := by decide +kernel
theorem dX9_duck_43 : decode cX9_duck 43 = .ok (.ireturn, 1) := by decide +kernel
theorem dX9_duck_44 : decode cX9_duck 44 = .ok (.aload_n 0, 1) := by decide +kernel
theorem dX9_duck_45 : decode cX9_duck 45 = .ok (.getfield 86, 3) := by decide +kernel
theorem dX9_duck_48 : decode cX9_duck 48 = .ok (.iload_n 1, 1) := by decide +kernel
theorem dX9_duck_49 : decode cX9_duck 49 = .ok (.iload_n 2, 1) := by decide +kernel
theorem dX9_duck_50 : decode cX9_duck 50 = .ok (.invokevirtual 265, 3) := by decide +kernel
theorem dX9_duck_53 : decode cX9_duck 53 = .ok (.aload_n 0, 1) := by decide +kernel
theorem dX9_duck_54 : decode cX9_duck 54 = .ok (.getfield 86, 3) := by decide +kernel
theorem dX9_duck_57 : decode cX9_duck 57 = .ok (.getfield 107, 3) := by decide +kernel
theorem dX9_duck_60 : decode cX9_duck 60 = .ok (.ireturn, 1) := by decide +kernel
theorem dX9_lit_0 : decode cX9_lit 0 = .ok (.iload_n 1, 1) := by decide +kernel
theorem dX9_lit_1 : decode cX9_lit 1 = .ok (.iconst (-1), 1) := by decide +kernel
theorem dX9_lit_2 : decode cX9_lit 2 = .ok (.if_icmp .ne 19, 3) := by decide +kernel
theorem dX9_lit_5 : decode cX9_lit 5 = .ok (.aload_n 0, 1) := by decide +kernel
theorem dX9_lit_6 : decode cX9_lit 6 = .ok (.getfield 86, 3) := by decide +kernel
theorem dX9_lit_9 : decode cX9_lit 9 = .ok (.aload_n 0, 1) := by decide +kernel
theorem dX9_lit_10 : decode cX9_lit 10 = .ok (.getfield 23, 3) := by decide +kernel
theorem dX9_lit_13 : decode cX9_lit 13 = .ok (.aload_n 0, 1) := by decide +kernel
theorem dX9_lit_14 : decode cX9_lit 14 = .ok (.getfield 43, 3) := by decide +kernel
theorem dX9_lit_17 : decode cX9_lit 17 = .ok (.invokevirtual 269, 3) := by decide +kernel
theorem dX9_lit_20 : decode cX9_lit 20 = .ok (.ireturn, 1) := by decide +kernel
theorem dX9_lit_21 : decode cX9_lit 21 = .ok (.iload_n 1, 1) := by decide +kernel
theorem dX9_lit_22 : decode cX9_lit 22 = .ok (.ifCond .lt 14, 3) := by decide +kernel
theorem dX9_lit_25 : decode cX9_lit 25 = .ok (.iload_n 1, 1) := by decide +kernel
theorem dX9_lit_26 : decode cX9_lit 26 = .ok (.aload_n 0, 1) := by decide +kernel
theorem dX9_lit_27 : decode cX9_lit 27 = .ok (.getfield 86, 3) := by decide +kernel
theorem dX9_lit_30 : decode cX9_lit 30 = .ok (.getfield 107, 3) := by decide +kernel
theorem dX9_lit_33 : decode cX9_lit 33 = .ok (.if_icmp .lt 5, 3) := by decide +kernel
theorem dX9_lit_36 : decode cX9_lit 36 = .ok (.iconst (-1), 1) := by decide +kernel
theorem dX9_lit_37 : decode cX9_lit 37 = .ok (.ireturn, 1) := by decide +kernel
theorem dX9_lit_38 : decode cX9_lit 38 = .ok (.aload_n 0, 1) := by decide +kernel
theorem dX9_lit_39 : decode cX9_lit 39 = .ok (.getfield 43, 3) := by decide +kernel
theorem dX9_lit_42 : decode cX9_lit 42 = .ok (.aload_n 0, 1) := by decide +kernel
theorem dX9_lit_43 : decode cX9_lit 43 = .ok (.getfield 23, 3) := by decide +kernel
theorem dX9_lit_46 : decode cX9_lit 46 = .ok (.aload_n 0, 1) := by decide +kernel
theorem dX9_lit_47 : decode cX9_lit 47 = .ok (.getfield 86, 3) := by decide +kernel
theorem dX9_lit_50 : decode cX9_lit 50 = .ok (.getfield 273, 3) := by decide +kernel
theorem dX9_lit_53 : decode cX9_lit 53 = .ok (.iload_n 1, 1) := by decide +kernel
theorem dX9_lit_54 : decode cX9_lit 54 = .ok (.iaload, 1) := by decide +kernel
theorem dX9_lit_55 : decode cX9_lit 55 = .ok (.invokevirtual 274, 3) := by decide +kernel
theorem dX9_lit_58 : decode cX9_lit 58 = .ok (.ireturn, 1) := by decide +kernel
theorem dX9_write_0 : decode cX9_write 0 = .ok (.aload_n 0, 1) := by decide +kernel
theorem dX9_write_1 : decode cX9_write 1 = .ok (.getfield 23, 3) := by decide +kernel
theorem dX9_write_4 : decode cX9_write 4 = .ok (.iload_n 1, 1) := by decide +kernel
theorem dX9_write_5 : decode cX9_write 5 = .ok (.iload_n 2, 1) := by decide +kernel
theorem dX9_write_6 : decode cX9_write 6 = .ok (.invokevirtual 174, 3) := by decide +kernel
theorem dX9_write_9 : decode cX9_write 9 = .ok (.ifCond .ne 6, 3) := by decide +kernel
theorem dX9_write_12 : decode cX9_write 12 = .ok (.ldc 148, 2) := by decide +kernel
theorem dX9_write_14 : decode cX9_write 14 = .ok (.ireturn, 1) := by decide +kernel
theorem dX9_write_15 : decode cX9_write 15 = .ok (.aload_n 0, 1) := by decide +kernel
theorem dX9_write_16 : decode cX9_write 16 = .ok (.getfield 93, 3) := by decide +kernel
theorem dX9_write_19 : decode cX9_write 19 = .ok (.getfield 110, 3) := by decide +kernel
theorem dX9_write_22 : decode cX9_write 22 = .ok (.bipush 15, 2) := by decide +kernel
theorem dX9_write_24 : decode cX9_write 24 = .ok (.if_icmp .lt 6, 3) := by decide +kernel
theorem dX9_write_27 : decode cX9_write 27 = .ok (.ldc 98, 2) := by decide +kernel
theorem dX9_write_29 : decode cX9_write 29 = .ok (.ireturn, 1) := by decide +kernel
theorem dX9_write_30 : decode cX9_write 30 = .ok (.aload_n 0, 1) := by decide +kernel
theorem dX9_write_31 : decode cX9_write 31 = .ok (.getfield 93, 3) := by decide +kernel
theorem dX9_write_34 : decode cX9_write 34 = .ok (.iload_n 1, 1) := by decide +kernel
theorem dX9_write_35 : decode cX9_write 35 = .ok (.iload_n 2, 1) := by decide +kernel
theorem dX9_write_36 : decode cX9_write 36 = .ok (.iload_n 3, 1) := by decide +kernel
theorem dX9_write_37 : decode cX9_write 37 = .ok (.invokevirtual 277, 3) := by decide +kernel
theorem dX9_write_40 : decode cX9_write 40 = .ok (.aload_n 0, 1) := by decide +kernel
theorem dX9_write_41 : decode cX9_write 41 = .ok (.getfield 93, 3) := by decide +kernel
theorem dX9_write_44 : decode cX9_write 44 = .ok (.getfield 110, 3) := by decide +kernel
theorem dX9_write_47 : decode cX9_write 47 = .ok (.ireturn, 1) := by decide +kernel
theorem dX9_tear_0 : decode cX9_tear 0 = .ok (.aload_n 0, 1) := by decide +kernel
theorem dX9_tear_1 : decode cX9_tear 1 = .ok (.getfield 86, 3) := by decide +kernel
theorem dX9_tear_4 : decode cX9_tear 4 = .ok (.getfield 107, 3) := by decide +kernel
theorem dX9_tear_7 : decode cX9_tear 7 = .ok (.aload_n 0, 1) := by decide +kernel
theorem dX9_tear_8 : decode cX9_tear 8 = .ok (.getfield 93, 3) := by decide +kernel
theorem dX9_tear_11 : decode cX9_tear 11 = .ok (.getfield 110, 3) := by decide +kernel
theorem dX9_tear_14 : decode cX9_tear 14 = .ok (.iadd, 1) := by decide +kernel
theorem dX9_tear_15 : decode cX9_tear 15 = .ok (.istore_n 1, 1) := by decide +kernel
theorem dX9_tear_16 : decode cX9_tear 16 = .ok (.aload_n 0, 1) := by decide +kernel
theorem dX9_tear_17 : decode cX9_tear 17 = .ok (.getfield 86, 3) := by decide +kernel
theorem dX9_tear_20 : decode cX9_tear 20 = .ok (.iconst 0, 1) := by decide +kernel
theorem dX9_tear_21 : decode cX9_tear 21 = .ok (.putfield 107, 3) := by decide +kernel
theorem dX9_tear_24 : decode cX9_tear 24 = .ok (.aload_n 0, 1) := by decide +kernel
theorem dX9_tear_25 : decode cX9_tear 25 = .ok (.getfield 93, 3) := by decide +kernel
theorem dX9_tear_28 : decode cX9_tear 28 = .ok (.iconst 0, 1) := by decide +kernel
theorem dX9_tear_29 : decode cX9_tear 29 = .ok (.putfield 110, 3) := by decide +kernel
theorem dX9_tear_32 : decode cX9_tear 32 = .ok (.iload_n 1, 1) := by decide +kernel
theorem dX9_tear_33 : decode cX9_tear 33 = .ok (.ireturn, 1) := by decide +kernel
theorem dX9_judge_0 : decode cX9_judge 0 = .ok (.aload_n 0, 1) := by decide +kernel
theorem dX9_judge_1 : decode cX9_judge 1 = .ok (.getfield 93, 3) := by decide +kernel
theorem dX9_judge_4 : decode cX9_judge 4 = .ok (.aload_n 0, 1) := by decide +kernel
theorem dX9_judge_5 : decode cX9_judge 5 = .ok (.getfield 43, 3) := by decide +kernel
theorem dX9_judge_8 : decode cX9_judge 8 = .ok (.invokevirtual 280, 3) := by decide +kernel
theorem dX9_judge_11 : decode cX9_judge 11 = .ok (.ireturn, 1) := by decide +kernel
theorem dX9_seed_0 : decode cX9_seed 0 = .ok (.iload_n 1, 1) := by decide +kernel
theorem dX9_seed_1 : decode cX9_seed 1 = .ok (.ifCond .ge 6, 3) := by decide +kernel
theorem dX9_seed_4 : decode cX9_seed 4 = .ok (.ldc 97, 2) := by decide +kernel
theorem dX9_seed_6 : decode cX9_seed 6 = .ok (.ireturn, 1) := by decide +kernel
theorem dX9_seed_7 : decode cX9_seed 7 = .ok (.aload_n 0, 1) := by decide +kernel
theorem dX9_seed_8 : decode cX9_seed 8 = .ok (.getfield 30, 3) := by decide +kernel
theorem dX9_seed_11 : decode cX9_seed 11 = .ok (.istore_n 2, 1) := by decide +kernel
theorem dX9_seed_12 : decode cX9_seed 12 = .ok (.aload_n 0, 1) := by decide +kernel
theorem dX9_seed_13 : decode cX9_seed 13 = .ok (.iload_n 1, 1) := by decide +kernel
theorem dX9_seed_14 : decode cX9_seed 14 = .ok (.putfield 30, 3) := by decide +kernel
theorem dX9_seed_17 : decode cX9_seed 17 = .ok (.iload_n 2, 1) := by decide +kernel
theorem dX9_seed_18 : decode cX9_seed 18 = .ok (.ireturn, 1) := by decide +kernel
theorem dX9_keep_0 : decode cX9_keep 0 = .ok (.iload_n 1, 1) := by decide +kernel
theorem dX9_keep_1 : decode cX9_keep 1 = .ok (.ifCond .lt 8, 3) := by decide +kernel
theorem dX9_keep_4 : decode cX9_keep 4 = .ok (.iload_n 1, 1) := by decide +kernel
theorem dX9_keep_5 : decode cX9_keep 5 = .ok (.iconst 2, 1) := by decide +kernel
theorem dX9_keep_6 : decode cX9_keep 6 = .ok (.if_icmp .lt 6, 3) := by decide +kernel
theorem dX9_keep_9 : decode cX9_keep 9 = .ok (.ldc 148, 2) := by decide +kernel
theorem dX9_keep_11 : decode cX9_keep 11 = .ok (.ireturn, 1) := by decide +kernel
theorem dX9_keep_12 : decode cX9_keep 12 = .ok (.aload_n 0, 1) := by decide +kernel
theorem dX9_keep_13 : decode cX9_keep 13 = .ok (.getfield 58, 3) := by decide +kernel
theorem dX9_keep_16 : decode cX9_keep 16 = .ok (.iload_n 1, 1) := by decide +kernel
theorem dX9_keep_17 : decode cX9_keep 17 = .ok (.aaload, 1) := by decide +kernel
theorem dX9_keep_18 : decode cX9_keep 18 = .ok (.aload_n 0, 1) := by decide +kernel
theorem dX9_keep_19 : decode cX9_keep 19 = .ok (.getfield 43, 3) := by decide +kernel
theorem dX9_keep_22 : decode cX9_keep 22 = .ok (.invokevirtual 284, 3) := by decide +kernel
theorem dX9_keep_25 : decode cX9_keep 25 = .ok (.aload_n 0, 1) := by decide +kernel
theorem dX9_keep_26 : decode cX9_keep 26 = .ok (.getfield 66, 3) := by decide +kernel
theorem dX9_keep_29 : decode cX9_keep 29 = .ok (.iload_n 1, 1) := by decide +kernel
theorem dX9_keep_30 : decode cX9_keep 30 = .ok (.aload_n 0, 1) := by decide +kernel
theorem dX9_keep_31 : decode cX9_keep 31 = .ok (.getfield 30, 3) := by decide +kernel
theorem dX9_keep_34 : decode cX9_keep 34 = .ok (.iastore, 1) := by decide +kernel
theorem dX9_keep_35 : decode cX9_keep 35 = .ok (.aload_n 0, 1) := by decide +kernel
theorem dX9_keep_36 : decode cX9_keep 36 = .ok (.getfield 62, 3) := by decide +kernel
theorem dX9_keep_39 : decode cX9_keep 39 = .ok (.iload_n 1, 1) := by decide +kernel
theorem dX9_keep_40 : decode cX9_keep 40 = .ok (.iconst 1, 1) := by decide +kernel
theorem dX9_keep_41 : decode cX9_keep 41 = .ok (.bastore, 1) := by decide +kernel
theorem dX9_keep_42 : decode cX9_keep 42 = .ok (.aload_n 0, 1) := by decide +kernel
theorem dX9_keep_43 : decode cX9_keep 43 = .ok (.getfield 54, 3) := by decide +kernel
theorem dX9_keep_46 : decode cX9_keep 46 = .ok (.invokevirtual 104, 3) := by decide +kernel
theorem dX9_keep_49 : decode cX9_keep 49 = .ok (.iconst 1, 1) := by decide +kernel
theorem dX9_keep_50 : decode cX9_keep 50 = .ok (.ireturn, 1) := by decide +kernel
theorem dX9_goBack_0 : decode cX9_goBack 0 = .ok (.iload_n 1, 1) := by decide +kernel
theorem dX9_goBack_1 : decode cX9_goBack 1 = .ok (.ifCond .lt 8, 3) := by decide +kernel
theorem dX9_goBack_4 : decode cX9_goBack 4 = .ok (.iload_n 1, 1) := by decide +kernel
theorem dX9_goBack_5 : decode cX9_goBack 5 = .ok (.iconst 2, 1) := by decide +kernel
theorem dX9_goBack_6 : decode cX9_goBack 6 = .ok (.if_icmp .lt 6, 3) := by decide +kernel
theorem dX9_goBack_9 : decode cX9_goBack 9 = .ok (.ldc 148, 2) := by decide +kernel
theorem dX9_goBack_11 : decode cX9_goBack 11 = .ok (.ireturn, 1) := by decide +kernel
theorem dX9_goBack_12 : decode cX9_goBack 12 = .ok (.aload_n 0, 1) := by decide +kernel
theorem dX9_goBack_13 : decode cX9_goBack 13 = .ok (.getfield 62, 3) := by decide +kernel
theorem dX9_goBack_16 : decode cX9_goBack 16 = .ok (.iload_n 1, 1) := by decide +kernel
theorem dX9_goBack_17 : decode cX9_goBack 17 = .ok (.baload, 1) := by decide +kernel
theorem dX9_goBack_18 : decode cX9_goBack 18 = .ok (.ifCond .ne 6, 3) := by decide +kernel
theorem dX9_goBack_21 : decode cX9_goBack 21 = .ok (.ldc 188, 2) := by decide +kernel
theorem dX9_goBack_23 : decode cX9_goBack 23 = .ok (.ireturn, 1) := by decide +kernel
theorem dX9_goBack_24 : decode cX9_goBack 24 = .ok (.aload_n 0, 1) := by decide +kernel
theorem dX9_goBack_25 : decode cX9_goBack 25 = .ok (.getfield 43, 3) := by decide +kernel
theorem dX9_goBack_28 : decode cX9_goBack 28 = .ok (.aload_n 0, 1) := by decide +kernel
theorem dX9_goBack_29 : decode cX9_goBack 29 = .ok (.getfield 58, 3) := by decide +kernel
theorem dX9_goBack_32 : decode cX9_goBack 32 = .ok (.iload_n 1, 1) := by decide +kernel
theorem dX9_goBack_33 : decode cX9_goBack 33 = .ok (.aaload, 1) := by decide +kernel
theorem dX9_goBack_34 : decode cX9_goBack 34 = .ok (.invokevirtual 284, 3) := by decide +kernel
theorem dX9_goBack_37 : decode cX9_goBack 37 = .ok (.aload_n 0, 1) := by decide +kernel
theorem dX9_goBack_38 : decode cX9_goBack 38 = .ok (.aload_n 0, 1) := by decide +kernel
theorem dX9_goBack_39 : decode cX9_goBack 39 = .ok (.getfield 66, 3) := by decide +kernel
theorem dX9_goBack_42 : decode cX9_goBack 42 = .ok (.iload_n 1, 1) := by decide +kernel
theorem dX9_goBack_43 : decode cX9_goBack 43 = .ok (.iaload, 1) := by decide +kernel
theorem dX9_goBack_44 : decode cX9_goBack 44 = .ok (.putfield 30, 3) := by decide +kernel
theorem dX9_goBack_47 : decode cX9_goBack 47 = .ok (.aload_n 0, 1) := by decide +kernel
theorem dX9_goBack_48 : decode cX9_goBack 48 = .ok (.getfield 54, 3) := by decide +kernel
theorem dX9_goBack_51 : decode cX9_goBack 51 = .ok (.invokevirtual 104, 3) := by decide +kernel
theorem dX9_goBack_54 : decode cX9_goBack 54 = .ok (.iconst 1, 1) := by decide +kernel
theorem dX9_goBack_55 : decode cX9_goBack 55 = .ok (.ireturn, 1) := by decide +kernel
theorem dX9_refusalOfMinutes_0 : decode cX9_refusalOfMinutes 0 = .ok (.iload_n 1, 1) := by decide +kernel
theorem dX9_refusalOfMinutes_1 : decode cX9_refusalOfMinutes 1 = .ok (.iconst 1, 1) := by decide +kernel
theorem dX9_refusalOfMinutes_2 : decode cX9_refusalOfMinutes 2 = .ok (.if_icmp .lt 9, 3) := by decide +kernel
theorem dX9_refusalOfMinutes_5 : decode cX9_refusalOfMinutes 5 = .ok (.iload_n 1, 1) := by decide +kernel
theorem dX9_refusalOfMinutes_6 : decode cX9_refusalOfMinutes 6 = .ok (.bipush 99, 2) := by decide +kernel
theorem dX9_refusalOfMinutes_8 : decode cX9_refusalOfMinutes 8 = .ok (.if_icmp .le 6, 3) := by decide +kernel
theorem dX9_refusalOfMinutes_11 : decode cX9_refusalOfMinutes 11 = .ok (.ldc 97, 2) := by decide +kernel
theorem dX9_refusalOfMinutes_13 : decode cX9_refusalOfMinutes 13 = .ok (.ireturn, 1) := by decide +kernel
theorem dX9_refusalOfMinutes_14 : decode cX9_refusalOfMinutes 14 = .ok (.aload_n 0, 1) := by decide +kernel
theorem dX9_refusalOfMinutes_15 : decode cX9_refusalOfMinutes 15 = .ok (.getfield 23, 3) := by decide +kernel
theorem dX9_refusalOfMinutes_18 : decode cX9_refusalOfMinutes 18 = .ok (.getfield 112, 3) := by decide +kernel
theorem dX9_refusalOfMinutes_21 : decode cX9_refusalOfMinutes 21 = .ok (.ifCond .ne 6, 3) := by decide +kernel
theorem dX9_refusalOfMinutes_24 : decode cX9_refusalOfMinutes 24 = .ok (.ldc 188, 2) := by decide +kernel
theorem dX9_refusalOfMinutes_26 : decode cX9_refusalOfMinutes 26 = .ok (.ireturn, 1) := by decide +kernel
theorem dX9_refusalOfMinutes_27 : decode cX9_refusalOfMinutes 27 = .ok (.aload_n 0, 1) := by decide +kernel
theorem dX9_refusalOfMinutes_28 : decode cX9_refusalOfMinutes 28 = .ok (.getfield 43, 3) := by decide +kernel
theorem dX9_refusalOfMinutes_31 : decode cX9_refusalOfMinutes 31 = .ok (.getfield 127, 3) := by decide +kernel
theorem dX9_refusalOfMinutes_34 : decode cX9_refusalOfMinutes 34 = .ok (.ldc_w 287, 3) := by decide +kernel
theorem dX9_refusalOfMinutes_37 : decode cX9_refusalOfMinutes 37 = .ok (.if_icmp .le 8, 3) := by decide +kernel
theorem dX9_refusalOfMinutes_40 : decode cX9_refusalOfMinutes 40 = .ok (.ldc 98, 2) := by decide +kernel
theorem dX9_refusalOfMinutes_42 : decode cX9_refusalOfMinutes 42 = .ok (.goto 4, 3) := by decide +kernel
theorem dX9_refusalOfMinutes_45 : decode cX9_refusalOfMinutes 45 = .ok (.iconst 0, 1) := by decide +kernel
theorem dX9_refusalOfMinutes_46 : decode cX9_refusalOfMinutes 46 = .ok (.ireturn, 1) := by decide +kernel
theorem dX9_changeWeather_0 : decode cX9_changeWeather 0 = .ok (.aload_n 0, 1) := by decide +kernel
theorem dX9_changeWeather_1 : decode cX9_changeWeather 1 = .ok (.iconst 3, 1) := by decide +kernel
theorem dX9_changeWeather_2 : decode cX9_changeWeather 2 = .ok (.invokevirtual 288, 3) := by decide +kernel
theorem dX9_changeWeather_5 : decode cX9_changeWeather 5 = .ok (.istore_n 1, 1) := by decide +kernel
theorem dX9_changeWeather_6 : decode cX9_changeWeather 6 = .ok (.iload_n 1, 1) := by decide +kernel
theorem dX9_changeWeather_7 : decode cX9_changeWeather 7 = .ok (.ifCond .ne 19, 3) := by decide +kernel
theorem dX9_changeWeather_10 : decode cX9_changeWeather 10 = .ok (.aload_n 0, 1) := by decide +kernel
theorem dX9_changeWeather_11 : decode cX9_changeWeather 11 = .ok (.getfield 43, 3) := by decide +kernel
theorem dX9_changeWeather_14 : decode cX9_changeWeather 14 = .ok (.aload_n 0, 1) := by decide +kernel
theorem dX9_changeWeather_15 : decode cX9_changeWeather 15 = .ok (.bipush 21, 2) := by decide +kernel
theorem dX9_changeWeather_17 : decode cX9_changeWeather 17 = .ok (.invokevirtual 288, 3) := by decide +kernel
theorem dX9_changeWeather_20 : decode cX9_changeWeather 20 = .ok (.putfield 115, 3) := by decide +kernel
theorem dX9_changeWeather_23 : decode cX9_changeWeather 23 = .ok (.goto 23, 3) := by decide +kernel
theorem dX9_changeWeather_26 : decode cX9_changeWeather 26 = .ok (.iload_n 1, 1) := by decide +kernel
theorem dX9_changeWeather_27 : decode cX9_changeWeather 27 = .ok (.iconst 1, 1) := by decide +kernel
theorem dX9_changeWeather_28 : decode cX9_changeWeather 28 = .ok (.if_icmp .ne 18, 3) := by decide +kernel
theorem dX9_changeWeather_31 : decode cX9_changeWeather 31 = .ok (.aload_n 0, 1) := by decide +kernel
theorem dX9_changeWeather_32 : decode cX9_changeWeather 32 = .ok (.getfield 43, 3) := by decide +kernel
theorem dX9_changeWeather_35 : decode cX9_changeWeather 35 = .ok (.aload_n 0, 1) := by decide +kernel
theorem dX9_changeWeather_36 : decode cX9_changeWeather 36 = .ok (.bipush 11, 2) := by decide +kernel
theorem dX9_changeWeather_38 : decode cX9_changeWeather 38 = .ok (.invokevirtual 288, 3) := by decide +kernel
theorem dX9_changeWeather_41 : decode cX9_changeWeather 41 = .ok (.iconst 5, 1) := by decide +kernel
theorem dX9_changeWeather_42 : decode cX9_changeWeather 42 = .ok (.isub, 1) := by decide +kernel
theorem dX9_changeWeather_43 : decode cX9_changeWeather 43 = .ok (.putfield 118, 3) := by decide +kernel
theorem dX9_changeWeather_46 : decode cX9_changeWeather 46 = .ok (.return_, 1) := by decide +kernel
theorem dX9_draw_0 : decode cX9_draw 0 = .ok (.aload_n 0, 1) := by decide +kernel
theorem dX9_draw_1 : decode cX9_draw 1 = .ok (.aload_n 0, 1) := by decide +kernel
theorem dX9_draw_2 : decode cX9_draw 2 = .ok (.getfield 30, 3) := by decide +kernel
theorem dX9_draw_5 : decode cX9_draw 5 = .ok (.i2l, 1) := by decide +kernel
theorem dX9_draw_6 : decode cX9_draw 6 = .ok (.ldc2_w 291, 3) := by decide +kernel
theorem dX9_draw_9 : decode cX9_draw 9 = .ok (.lmul, 1) := by decide +kernel
theorem dX9_draw_10 : decode cX9_draw 10 = .ok (.ldc2_w 293, 3) := by decide +kernel
theorem dX9_draw_13 : decode cX9_draw 13 = .ok (.ladd, 1) := by decide +kernel
theorem dX9_draw_14 : decode cX9_draw 14 = .ok (.ldc2_w 295, 3) := by decide +kernel
theorem dX9_draw_17 : decode cX9_draw 17 = .ok (.land, 1) := by decide +kernel
theorem dX9_draw_18 : decode cX9_draw 18 = .ok (.l2i, 1) := by decide +kernel
theorem dX9_draw_19 : decode cX9_draw 19 = .ok (.putfield 30, 3) := by decide +kernel
theorem dX9_draw_22 : decode cX9_draw 22 = .ok (.iload_n 1, 1) := by decide +kernel
theorem dX9_draw_23 : decode cX9_draw 23 = .ok (.iconst 1, 1) := by decide +kernel
theorem dX9_draw_24 : decode cX9_draw 24 = .ok (.if_icmp .ge 7, 3) := by decide +kernel
theorem dX9_draw_27 : decode cX9_draw 27 = .ok (.iconst 0, 1) := by decide +kernel
theorem dX9_draw_28 : decode cX9_draw 28 = .ok (.goto 13, 3) := by decide +kernel
theorem dX9_draw_31 : decode cX9_draw 31 = .ok (.aload_n 0, 1) := by decide +kernel
theorem dX9_draw_32 : decode cX9_draw 32 = .ok (.getfield 30, 3) := by decide +kernel
theorem dX9_draw_35 : decode cX9_draw 35 = .ok (.ldc_w 297, 3) := by decide +kernel
theorem dX9_draw_38 : decode cX9_draw 38 = .ok (.idiv, 1) := by decide +kernel
theorem dX9_draw_39 : decode cX9_draw 39 = .ok (.iload_n 1, 1) := by decide +kernel
theorem dX9_draw_40 : decode cX9_draw 40 = .ok (.irem, 1) := by decide +kernel
theorem dX9_draw_41 : decode cX9_draw 41 = .ok (.ireturn, 1) := by decide +kernel
theorem dX9_cutOdds_0 : decode cX9_cutOdds 0 = .ok (.iload_n 0, 1) := by decide +kernel
theorem dX9_cutOdds_1 : decode cX9_cutOdds 1 = .ok (.i2l, 1) := by decide +kernel
theorem dX9_cutOdds_2 : decode cX9_cutOdds 2 = .ok (.lstore_n 3, 1) := by decide +kernel
theorem dX9_cutOdds_3 : decode cX9_cutOdds 3 = .ok (.iconst 0, 1) := by decide +kernel
theorem dX9_cutOdds_4 : decode cX9_cutOdds 4 = .ok (.istore 5, 2) := by decide +kernel
theorem dX9_cutOdds_6 : decode cX9_cutOdds 6 = .ok (.iload 5, 2) := by decide +kernel
theorem dX9_cutOdds_8 : decode cX9_cutOdds 8 = .ok (.iload_n 2, 1) := by decide +kernel
theorem dX9_cutOdds_9 : decode cX9_cutOdds 9 = .ok (.if_icmp .ge 18, 3) := by decide +kernel
theorem dX9_cutOdds_12 : decode cX9_cutOdds 12 = .ok (.lload_n 3, 1) := by decide +kernel
theorem dX9_cutOdds_13 : decode cX9_cutOdds 13 = .ok (.iload_n 1, 1) := by decide +kernel
theorem dX9_cutOdds_14 : decode cX9_cutOdds 14 = .ok (.i2l, 1) := by decide +kernel
theorem dX9_cutOdds_15 : decode cX9_cutOdds 15 = .ok (.lmul, 1) := by decide +kernel
theorem dX9_cutOdds_16 : decode cX9_cutOdds 16 = .ok (.ldc2_w 298, 3) := by decide +kernel
theorem dX9_cutOdds_19 : decode cX9_cutOdds 19 = .ok (.ldiv, 1) := by decide +kernel
theorem dX9_cutOdds_20 : decode cX9_cutOdds 20 = .ok (.lstore_n 3, 1) := by decide +kernel
theorem dX9_cutOdds_21 : decode cX9_cutOdds 21 = .ok (.iinc 5 1, 3) := by decide +kernel
theorem dX9_cutOdds_24 : decode cX9_cutOdds 24 = .ok (.goto (-18), 3) := by decide +kernel
theorem dX9_cutOdds_27 : decode cX9_cutOdds 27 = .ok (.lload_n 3, 1) := by decide +kernel
theorem dX9_cutOdds_28 : decode cX9_cutOdds 28 = .ok (.l2i, 1) := by decide +kernel
theorem dX9_cutOdds_29 : decode cX9_cutOdds 29 = .ok (.ireturn, 1) := by decide +kernel
theorem dX10_init_0 : decode cX10_init 0 = .ok (.aload_n 0, 1) := by decide +kernel
theorem dX10_init_1 : decode cX10_init 1 = .ok (.invokespecial 1, 3) := by decide +kernel
theorem dX10_init_4 : decode cX10_init 4 = .ok (.aload_n 0, 1) := by decide +kernel
theorem dX10_init_5 : decode cX10_init 5 = .ok (.bipush 8, 2) := by decide +kernel
theorem dX10_init_7 : decode cX10_init 7 = .ok (.newarray .int, 2) := by decide +kernel
theorem dX10_init_9 : decode cX10_init 9 = .ok (.putfield 7, 3) := by decide +kernel
theorem dX10_init_12 : decode cX10_init 12 = .ok (.aload_n 0, 1) := by decide +kernel
theorem dX10_init_13 : decode cX10_init 13 = .ok (.bipush 8, 2) := by decide +kernel
theorem dX10_init_15 : decode cX10_init 15 = .ok (.newarray .int, 2) := by decide +kernel
theorem dX10_init_17 : decode cX10_init 17 = .ok (.putfield 13, 3) := by decide +kernel
theorem dX10_init_20 : decode cX10_init 20 = .ok (.aload_n 0, 1) := by decide +kernel
theorem dX10_init_21 : decode cX10_init 21 = .ok (.bipush 8, 2) := by decide +kernel
theorem dX10_init_23 : decode cX10_init 23 = .ok (.newarray .int, 2) := by decide +kernel
theorem dX10_init_25 : decode cX10_init 25 = .ok (.putfield 16, 3) := by decide +kernel
theorem dX10_init_28 : decode cX10_init 28 = .ok (.aload_n 0, 1) := by decide +kernel
theorem dX10_init_29 : decode cX10_init 29 = .ok (.bipush 40, 2) := by decide +kernel
theorem dX10_init_31 : decode cX10_init 31 = .ok (.newarray .int, 2) := by decide +kernel
theorem dX10_init_33 : decode cX10_init 33 = .ok (.putfield 19, 3) := by decide +kernel
theorem dX10_init_36 : decode cX10_init 36 = .ok (.aload_n 0, 1) := by decide +kernel
theorem dX10_init_37 : decode cX10_init 37 = .ok (.iconst 2, 1) := by decide +kernel
theorem dX10_init_38 : decode cX10_init 38 = .ok (.putfield 22, 3) := by decide +kernel
theorem dX10_init_41 : decode cX10_init 41 = .ok (.aload_n 0, 1) := by decide +kernel
theorem dX10_init_42 : decode cX10_init 42 = .ok (.bipush 10, 2) := by decide +kernel
theorem dX10_init_44 : decode cX10_init 44 = .ok (.putfield 26, 3) := by decide +kernel
theorem dX10_init_47 : decode cX10_init 47 = .ok (.aload_n 0, 1) := by decide +kernel
theorem dX10_init_48 : decode cX10_init 48 = .ok (.bipush 43, 2) := by decide +kernel
theorem dX10_init_50 : decode cX10_init 50 = .ok (.newarray .int, 2) := by decide +kernel
theorem dX10_init_52 : decode cX10_init 52 = .ok (.putfield 29, 3) := by decide +kernel
theorem dX10_init_55 : decode cX10_init 55 = .ok (.aload_n 0, 1) := by decide +kernel
theorem dX10_init_56 : decode cX10_init 56 = .ok (.sipush 230, 3) := by decide +kernel
theorem dX10_init_59 : decode cX10_init 59 = .ok (.newarray .int, 2) := by decide +kernel
theorem dX10_init_61 : decode cX10_init 61 = .ok (.putfield 32, 3) := by decide +kernel
theorem dX10_init_64 : decode cX10_init 64 = .ok (.aload_n 0, 1) := by decide +kernel
theorem dX10_init_65 : decode cX10_init 65 = .ok (.iconst (-1), 1) := by decide +kernel
theorem dX10_init_66 : decode cX10_init 66 = .ok (.putfield 35, 3) := by decide +kernel
theorem dX10_init_69 : decode cX10_init 69 = .ok (.aload_n 0, 1) := by decide +kernel
theorem dX10_init_70 : decode cX10_init 70 = .ok (.iconst 3, 1) := by decide +kernel
theorem dX10_init_71 : decode cX10_init 71 = .ok (.newarray .int, 2) := by decide +kernel
theorem dX10_init_73 : decode cX10_init 73 = .ok (.putfield 38, 3) := by decide +kernel
theorem dX10_init_76 : decode cX10_init 76 = .ok (.aload_n 0, 1) := by decide +kernel
theorem dX10_init_77 : decode cX10_init 77 = .ok (.bipush 8, 2) := by decide +kernel
theorem dX10_init_79 : decode cX10_init 79 = .ok (.newarray .int, 2) := by decide +kernel
theorem dX10_init_81 : decode cX10_init 81 = .ok (.putfield 41, 3) := by decide +kernel
theorem dX10_init_84 : decode cX10_init 84 = .ok (.aload_n 0, 1) := by decide +kernel
theorem dX10_init_85 : decode cX10_init 85 = .ok (.bipush 8, 2) := by decide +kernel
theorem dX10_init_87 : decode cX10_init 87 = .ok (.newarray .int, 2) := by decide +kernel
theorem dX10_init_89 : decode cX10_init 89 = .ok (.putfield 44, 3) := by decide +kernel
theorem dX10_init_92 : decode cX10_init 92 = .ok (.aload_n 0, 1) := by decide +kernel
theorem dX10_init_93 : decode cX10_init 93 = .ok (.bipush 8, 2) := by decide +kernel
theorem dX10_init_95 : decode cX10_init 95 = .ok (.newarray .int, 2) := by decide +kernel
theorem dX10_init_97 : decode cX10_init 97 = .ok (.putfield 47, 3) := by decide +kernel
theorem dX10_init_100 : decode cX10_init 100 = .ok (.aload_n 0, 1) := by decide +kernel
theorem dX10_init_101 : decode cX10_init 101 = .ok (.bipush 8, 2) := by decide +kernel
theorem dX10_init_103 : decode cX10_init 103 = .ok (.newarray .int, 2) := by decide +kernel
theorem dX10_init_105 : decode cX10_init 105 = .ok (.putfield 50, 3) := by decide +kernel
theorem dX10_init_108 : decode cX10_init 108 = .ok (.aload_n 0, 1) := by decide +kernel
theorem dX10_init_109 : decode cX10_init 109 = .ok (.bipush 40, 2) := by decide +kernel
theorem dX10_init_111 : decode cX10_init 111 = .ok (.newarray .int, 2) := by decide +kernel
theorem dX10_init_113 : decode cX10_init 113 = .ok (.putfield 53, 3) := by decide +kernel
theorem dX10_init_116 : decode cX10_init 116 = .ok (.aload_n 0, 1) := by decide +kernel
theorem dX10_init_117 : decode cX10_init 117 = .ok (.iconst 1, 1) := by decide +kernel
theorem dX10_init_118 : decode cX10_init 118 = .ok (.newarray .int, 2) := by decide +kernel
theorem dX10_init_120 : decode cX10_init 120 = .ok (.putfield 56, 3) := by decide +kernel
theorem dX10_init_123 : decode cX10_init 123 = .ok (.aload_n 0, 1) := by decide +kernel
theorem dX10_init_124 : decode cX10_init 124 = .ok (.iconst 1, 1) := by decide +kernel
theorem dX10_init_125 : decode cX10_init 125 = .ok (.newarray .int, 2) := by decide +kernel
theorem dX10_init_127 : decode cX10_init 127 = .ok (.putfield 59, 3) := by decide +kernel
theorem dX10_init_130 : decode cX10_init 130 = .ok (.aload_n 0, 1) := by decide +kernel
theorem dX10_init_131 : decode cX10_init 131 = .ok (.sipush 860, 3) := by decide +kernel
theorem dX10_init_134 : decode cX10_init 134 = .ok (.newarray .int, 2) := by decide +kernel
theorem dX10_init_136 : decode cX10_init 136 = .ok (.putfield 62, 3) := by decide +kernel
theorem dX10_init_139 : decode cX10_init 139 = .ok (.aload_n 0, 1) := by decide +kernel
theorem dX10_init_140 : decode cX10_init 140 = .ok (.bipush 43, 2) := by decide +kernel
theorem dX10_init_142 : decode cX10_init 142 = .ok (.newarray .int, 2) := by decide +kernel
theorem dX10_init_144 : decode cX10_init 144 = .ok (.putfield 65, 3) := by decide +kernel
theorem dX10_init_147 : decode cX10_init 147 = .ok (.aload_n 0, 1) := by decide +kernel
theorem dX10_init_148 : decode cX10_init 148 = .ok (.iconst 5, 1) := by decide +kernel
theorem dX10_init_149 : decode cX10_init 149 = .ok (.newarray .int, 2) := by decide +kernel
theorem dX10_init_151 : decode cX10_init 151 = .ok (.putfield 68, 3) := by decide +kernel
theorem dX10_init_154 : decode cX10_init 154 = .ok (.aload_n 0, 1) := by decide +kernel
theorem dX10_init_155 : decode cX10_init 155 = .ok (.bipush 8, 2) := by decide +kernel
theorem dX10_init_157 : decode cX10_init 157 = .ok (.newarray .int, 2) := by decide +kernel
theorem dX10_init_159 : decode cX10_init 159 = .ok (.putfield 71, 3) := by decide +kernel
theorem dX10_init_162 : decode cX10_init 162 = .ok (.aload_n 0, 1) := by decide +kernel
theorem dX10_init_163 : decode cX10_init 163 = .ok (.bipush 8, 2) := by decide +kernel
theorem dX10_init_165 : decode cX10_init 165 = .ok (.newarray .int, 2) := by decide +kernel
theorem dX10_init_167 : decode cX10_init 167 = .ok (.putfield 74, 3) := by decide +kernel
theorem dX10_init_170 : decode cX10_init 170 = .ok (.aload_n 0, 1) := by decide +kernel
theorem dX10_init_171 : decode cX10_init 171 = .ok (.bipush 6, 2) := by decide +kernel
theorem dX10_init_173 : decode cX10_init 173 = .ok (.newarray .int, 2) := by decide +kernel
theorem dX10_init_175 : decode cX10_init 175 = .ok (.putfield 77, 3) := by decide +kernel
theorem dX10_init_178 : decode cX10_init 178 = .ok (.aload_n 0, 1) := by decide +kernel
theorem dX10_init_179 : decode cX10_init 179 = .ok (.bipush 6, 2) := by decide +kernel
theorem dX10_init_181 : decode cX10_init 181 = .ok (.newarray .int, 2) := by decide +kernel
theorem dX10_init_183 : decode cX10_init 183 = .ok (.putfield 80, 3) := by decide +kernel
theorem dX10_init_186 : decode cX10_init 186 = .ok (.aload_n 0, 1) := by decide +kernel
theorem dX10_init_187 : decode cX10_init 187 = .ok (.bipush 15, 2) := by decide +kernel
theorem dX10_init_189 : decode cX10_init 189 = .ok (.newarray .int, 2) := by decide +kernel
theorem dX10_init_191 : decode cX10_init 191 = .ok (.putfield 83, 3) := by decide +kernel
theorem dX10_init_194 : decode cX10_init 194 = .ok (.aload_n 0, 1) := by decide +kernel
theorem dX10_init_195 : decode cX10_init 195 = .ok (.bipush 15, 2) := by decide +kernel
theorem dX10_init_197 : decode cX10_init 197 = .ok (.newarray .int, 2) := by decide +kernel
theorem dX10_init_199 : decode cX10_init 199 = .ok (.putfield 86, 3) := by decide +kernel
theorem dX10_init_202 : decode cX10_init 202 = .ok (.aload_n 0, 1) := by decide +kernel
theorem dX10_init_203 : decode cX10_init 203 = .ok (.bipush 15, 2) := by decide +kernel
theorem dX10_init_205 : decode cX10_init 205 = .ok (.newarray .boolean, 2) := by decide +kernel
theorem dX10_init_207 : decode cX10_init 207 = .ok (.putfield 89, 3) := by decide +kernel
theorem dX10_init_210 : decode cX10_init 210 = .ok (.aload_n 0, 1) := by decide +kernel
theorem dX10_init_211 : decode cX10_init 211 = .ok (.bipush 88, 2) := by decide +kernel
theorem dX10_init_213 : decode cX10_init 213 = .ok (.newarray .int, 2) := by decide +kernel
theorem dX10_init_215 : decode cX10_init 215 = .ok (.putfield 93, 3) := by decide +kernel
theorem dX10_init_218 : decode cX10_init 218 = .ok (.aload_n 0, 1) := by decide +kernel
theorem dX10_init_219 : decode cX10_init 219 = .ok (.iconst 2, 1) := by decide +kernel
theorem dX10_init_220 : decode cX10_init 220 = .ok (.newarray .boolean, 2) := by decide +kernel
theorem dX10_init_222 : decode cX10_init 222 = .ok (.putfield 96, 3) := by decide +kernel
theorem dX10_init_225 : decode cX10_init 225 = .ok (.aload_n 0, 1) := by decide +kernel
theorem dX10_init_226 : decode cX10_init 226 = .ok (.iconst 0, 1) := by decide +kernel
theorem dX10_init_227 : decode cX10_init 227 = .ok (.putfield 99, 3) := by decide +kernel
theorem dX10_init_230 : decode cX10_init 230 = .ok (.return_, 1) := by decide +kernel
theorem dX10_in_0 : decode cX10_in 0 = .ok (.lload_n 0, 1) := by decide +kernel
theorem dX10_in_1 : decode cX10_in 1 = .ok (.lload_n 2, 1) := by decide +kernel
theorem dX10_in_2 : decode cX10_in 2 = .ok (.lcmp, 1) := by decide +kernel
theorem dX10_in_3 : decode cX10_in 3 = .ok (.ifCond .lt 14, 3) := by decide +kernel
theorem dX10_in_6 : decode cX10_in 6 = .ok (.lload_n 0, 1) := by decide +kernel
theorem dX10_in_7 : decode cX10_in 7 = .ok (.lload 4, 2) := by decide +kernel
theorem dX10_in_9 : decode cX10_in 9 = .ok (.lcmp, 1) := by decide +kernel
theorem dX10_in_10 : decode cX10_in 10 = .ok (.ifCond .gt 7, 3) := by decide +kernel
theorem dX10_in_13 : decode cX10_in 13 = .ok (.iconst 1, 1) := by decide +kernel
theorem dX10_in_14 : decode cX10_in 14 = .ok (.goto 4, 3) := by decide +kernel
theorem dX10_in_17 : decode cX10_in 17 = .ok (.iconst 0, 1) := by decide +kernel
theorem dX10_in_18 : decode cX10_in 18 = .ok (.ireturn, 1) := by decide +kernel
theorem dX10_has_0 : decode cX10_has 0 = .ok (.iload_n 0, 1) := by decide +kernel
theorem dX10_has_1 : decode cX10_has 1 = .ok (.iload_n 1, 1) := by decide +kernel
theorem dX10_has_2 : decode cX10_has 2 = .ok (.ishr, 1) := by decide +kernel
theorem dX10_has_3 : decode cX10_has 3 = .ok (.iconst 1, 1) := by decide +kernel
theorem dX10_has_4 : decode cX10_has 4 = .ok (.iand, 1) := by decide +kernel
theorem dX10_has_5 : decode cX10_has 5 = .ok (.iconst 1, 1) := by decide +kernel
theorem dX10_has_6 : decode cX10_has 6 = .ok (.if_icmp .ne 7, 3) := by decide +kernel
theorem dX10_has_9 : decode cX10_has 9 = .ok (.iconst 1, 1) := by decide +kernel
theorem dX10_has_10 : decode cX10_has 10 = .ok (.goto 4, 3) := by decide +kernel
theorem dX10_has_13 : decode cX10_has 13 = .ok (.iconst 0, 1) := by decide +kernel
theorem dX10_has_14 : decode cX10_has 14 = .ok (.ireturn, 1) := by decide +kernel
theorem dX10_bits_0 : decode cX10_bits 0 = .ok (.iconst 0, 1) := by decide +kernel
theorem dX10_bits_1 : decode cX10_bits 1 = .ok (.istore_n 1, 1) := by decide +kernel
theorem dX10_bits_2 : decode cX10_bits 2 = .ok (.iconst 0, 1) := by decide +kernel
theorem dX10_bits_3 : decode cX10_bits 3 = .ok (.istore_n 2, 1) := by decide +kernel
theorem dX10_bits_4 : decode cX10_bits 4 = .ok (.iload_n 2, 1) := by decide +kernel
theorem dX10_bits_5 : decode cX10_bits 5 = .ok (.bipush 8, 2) := by decide +kernel
theorem dX10_bits_7 : decode cX10_bits 7 = .ok (.if_icmp .ge 17, 3) := by decide +kernel
theorem dX10_bits_10 : decode cX10_bits 10 = .ok (.iload_n 1, 1) := by decide +kernel
theorem dX10_bits_11 : decode cX10_bits 11 = .ok (.iload_n 0, 1) := by decide +kernel
theorem dX10_bits_12 : decode cX10_bits 12 = .ok (.iload_n 2, 1) := by decide +kernel
theorem dX10_bits_13 : decode cX10_bits 13 = .ok (.ishr, 1) := by decide +kernel
theorem dX10_bits_14 : decode cX10_bits 14 = .ok (.iconst 1, 1) := by decide +kernel
theorem dX10_bits_15 : decode cX10_bits 15 = .ok (.iand, 1) := by decide +kernel
theorem dX10_bits_16 : decode cX10_bits 16 = .ok (.iadd, 1) := by decide +kernel
theorem dX10_bits_17 : decode cX10_bits 17 = .ok (.istore_n 1, 1) := by decide +kernel
theorem dX10_bits_18 : decode cX10_bits 18 = .ok (.iinc 2 1, 3) := by decide +kernel
theorem dX10_bits_21 : decode cX10_bits 21 = .ok (.goto (-17), 3) := by decide +kernel
theorem dX10_bits_24 : decode cX10_bits 24 = .ok (.iload_n 1, 1) := by decide +kernel
theorem dX10_bits_25 : decode cX10_bits 25 = .ok (.ireturn, 1) := by decide +kernel
theorem dX10_apart_0 : decode cX10_apart 0 = .ok (.iload_n 0, 1) := by decide +kernel
theorem dX10_apart_1 : decode cX10_apart 1 = .ok (.iload_n 1, 1) := by decide +kernel
theorem dX10_apart_2 : decode cX10_apart 2 = .ok (.if_icmp .le 9, 3) := by decide +kernel
theorem dX10_apart_5 : decode cX10_apart 5 = .ok (.iload_n 0, 1) := by decide +kernel
theorem dX10_apart_6 : decode cX10_apart 6 = .ok (.iload_n 1, 1) := by decide +kernel
theorem dX10_apart_7 : decode cX10_apart 7 = .ok (.isub, 1) := by decide +kernel
theorem dX10_apart_8 : decode cX10_apart 8 = .ok (.goto 6, 3) := by decide +kernel
theorem dX10_apart_11 : decode cX10_apart 11 = .ok (.iload_n 1, 1) := by decide +kernel
theorem dX10_apart_12 : decode cX10_apart 12 = .ok (.iload_n 0, 1) := by decide +kernel
theorem dX10_apart_13 : decode cX10_apart 13 = .ok (.isub, 1) := by decide +kernel
theorem dX10_apart_14 : decode cX10_apart 14 = .ok (.ireturn, 1) := by decide +kernel
theorem dX10_isHouse_0 : decode cX10_isHouse 0 = .ok (.iload_n 1, 1) := by decide +kernel
theorem dX10_isHouse_1 : decode cX10_isHouse 1 = .ok (.i2l, 1) := by decide +kernel
theorem dX10_isHouse_2 : decode cX10_isHouse 2 = .ok (.lconst 0, 1) := by decide +kernel
theorem dX10_isHouse_3 : decode cX10_isHouse 3 = .ok (.aload_n 0, 1) := by decide +kernel
theorem dX10_isHouse_4 : decode cX10_isHouse 4 = .ok (.getfield 102, 3) := by decide +kernel
theorem dX10_isHouse_7 : decode cX10_isHouse 7 = .ok (.iconst 1, 1) := by decide +kernel
theorem dX10_isHouse_8 : decode cX10_isHouse 8 = .ok (.isub, 1) := by decide +kernel
theorem dX10_isHouse_9 : decode cX10_isHouse 9 = .ok (.i2l, 1) := by decide +kernel
theorem dX10_isHouse_10 : decode cX10_isHouse 10 = .ok (.invokestatic 105, 3) := by decide +kernel
theorem dX10_isHouse_13 : decode cX10_isHouse 13 = .ok (.ireturn, 1) := by decide +kernel
theorem dX10_isSet_0 : decode cX10_isSet 0 = .ok (.iload_n 1, 1) := by decide +kernel
theorem dX10_isSet_1 : decode cX10_isSet 1 = .ok (.i2l, 1) := by decide +kernel
theorem dX10_isSet_2 : decode cX10_isSet 2 = .ok (.lconst 0, 1) := by decide +kernel
theorem dX10_isSet_3 : decode cX10_isSet 3 = .ok (.iconst 1, 1) := by decide +kernel
theorem dX10_isSet_4 : decode cX10_isSet 4 = .ok (.aload_n 0, 1) := by decide +kernel
theorem dX10_isSet_5 : decode cX10_isSet 5 = .ok (.getfield 102, 3) := by decide +kernel
theorem dX10_isSet_8 : decode cX10_isSet 8 = .ok (.ishl, 1) := by decide +kernel
theorem dX10_isSet_9 : decode cX10_isSet 9 = .ok (.iconst 1, 1) := by decide +kernel
theorem dX10_isSet_10 : decode cX10_isSet 10 = .ok (.isub, 1) := by decide +kernel
theorem dX10_isSet_11 : decode cX10_isSet 11 = .ok (.i2l, 1) := by decide +kernel
theorem dX10_isSet_12 : decode cX10_isSet 12 = .ok (.invokestatic 105, 3) := by decide +kernel
theorem dX10_isSet_15 : decode cX10_isSet 15 = .ok (.ireturn, 1) := by decide +kernel
theorem dX10_feed_0 : decode cX10_feed 0 = .ok (.iload_n 1, 1) := by decide +kernel
theorem dX10_feed_1 : decode cX10_feed 1 = .ok (.i2l, 1) := by decide +kernel
theorem dX10_feed_2 : decode cX10_feed 2 = .ok (.lconst 0, 1) := by decide +kernel
theorem dX10_feed_3 : decode cX10_feed 3 = .ok (.ldc2_w 109, 3) := by decide +kernel
theorem dX10_feed_6 : decode cX10_feed 6 = .ok (.invokestatic 105, 3) := by decide +kernel
theorem dX10_feed_9 : decode cX10_feed 9 = .ok (.ifCond .ne 6, 3) := by decide +kernel
theorem dX10_feed_12 : decode cX10_feed 12 = .ok (.ldc 111, 2) := by decide +kernel
theorem dX10_feed_14 : decode cX10_feed 14 = .ok (.ireturn, 1) := by decide +kernel
theorem dX10_feed_15 : decode cX10_feed 15 = .ok (.aload_n 0, 1) := by decide +kernel
theorem dX10_feed_16 : decode cX10_feed 16 = .ok (.getfield 112, 3) := by decide +kernel
theorem dX10_feed_19 : decode cX10_feed 19 = .ok (.sipush 230, 3) := by decide +kernel
theorem dX10_feed_22 : decode cX10_feed 22 = .ok (.if_icmp .ne 6, 3) := by decide +kernel
theorem dX10_feed_25 : decode cX10_feed 25 = .ok (.ldc 115, 2) := by decide +kernel
theorem dX10_feed_27 : decode cX10_feed 27 = .ok (.ireturn, 1) := by decide +kernel
theorem dX10_feed_28 : decode cX10_feed 28 = .ok (.aload_n 0, 1) := by decide +kernel
theorem dX10_feed_29 : decode cX10_feed 29 = .ok (.getfield 32, 3) := by decide +kernel
theorem dX10_feed_32 : decode cX10_feed 32 = .ok (.aload_n 0, 1) := by decide +kernel
theorem dX10_feed_33 : decode cX10_feed 33 = .ok (.getfield 112, 3) := by decide +kernel
theorem dX10_feed_36 : decode cX10_feed 36 = .ok (.iload_n 1, 1) := by decide +kernel
theorem dX10_feed_37 : decode cX10_feed 37 = .ok (.iastore, 1) := by decide +kernel
theorem dX10_feed_38 : decode cX10_feed 38 = .ok (.aload_n 0, 1) := by decide +kernel
theorem dX10_feed_39 : decode cX10_feed 39 = .ok (.dup, 1) := by decide +kernel
theorem dX10_feed_40 : decode cX10_feed 40 = .ok (.getfield 112, 3) := by decide +kernel
theorem dX10_feed_43 : decode cX10_feed 43 = .ok (.iconst 1, 1) := by decide +kernel
theorem dX10_feed_44 : decode cX10_feed 44 = .ok (.iadd, 1) := by decide +kernel
theorem dX10_feed_45 : decode cX10_feed 45 = .ok (.putfield 112, 3) := by decide +kernel
theorem dX10_feed_48 : decode cX10_feed 48 = .ok (.aload_n 0, 1) := by decide +kernel
theorem dX10_feed_49 : decode cX10_feed 49 = .ok (.getfield 112, 3) := by decide +kernel
theorem dX10_feed_52 : decode cX10_feed 52 = .ok (.ireturn, 1) := by decide +kernel
theorem dX10_here_0 : decode cX10_here 0 = .ok (.aload_n 0, 1) := by decide +kernel
theorem dX10_here_1 : decode cX10_here 1 = .ok (.getfield 116, 3) := by decide +kernel
theorem dX10_here_4 : decode cX10_here 4 = .ok (.aload_n 0, 1) := by decide +kernel
theorem dX10_here_5 : decode cX10_here 5 = .ok (.getfield 112, 3) := by decide +kernel
theorem dX10_here_8 : decode cX10_here 8 = .ok (.if_icmp .ge 30, 3) := by decide +kernel
theorem dX10_here_11 : decode cX10_here 11 = .ok (.aload_n 0, 1) := by decide +kernel
theorem dX10_here_12 : decode cX10_here 12 = .ok (.getfield 32, 3) := by decide +kernel
theorem dX10_here_15 : decode cX10_here 15 = .ok (.aload_n 0, 1) := by decide +kernel
theorem dX10_here_16 : decode cX10_here 16 = .ok (.getfield 116, 3) := by decide +kernel
theorem dX10_here_19 : decode cX10_here 19 = .ok (.iaload, 1) := by decide +kernel
theorem dX10_here_20 : decode cX10_here 20 = .ok (.bipush 32, 2) := by decide +kernel
theorem dX10_here_22 : decode cX10_here 22 = .ok (.if_icmp .ne 16, 3) := by decide +kernel
theorem dX10_here_25 : decode cX10_here 25 = .ok (.aload_n 0, 1) := by decide +kernel
theorem dX10_here_26 : decode cX10_here 26 = .ok (.dup, 1) := by decide +kernel
theorem dX10_here_27 : decode cX10_here 27 = .ok (.getfield 116, 3) := by decide +kernel
theorem dX10_here_30 : decode cX10_here 30 = .ok (.iconst 1, 1) := by decide +kernel
theorem dX10_here_31 : decode cX10_here 31 = .ok (.iadd, 1) := by decide +kernel
theorem dX10_here_32 : decode cX10_here 32 = .ok (.putfield 116, 3) := by decide +kernel
theorem dX10_here_35 : decode cX10_here 35 = .ok (.goto (-35), 3) := by decide +kernel
theorem dX10_here_38 : decode cX10_here 38 = .ok (.aload_n 0, 1) := by decide +kernel
theorem dX10_here_39 : decode cX10_here 39 = .ok (.getfield 116, 3) := by decide +kernel
theorem dX10_here_42 : decode cX10_here 42 = .ok (.aload_n 0, 1) := by decide +kernel
theorem dX10_here_43 : decode cX10_here 43 = .ok (.getfield 112, 3) := by decide +kernel
theorem dX10_here_46 : decode cX10_here 46 = .ok (.if_icmp .ge 15, 3) := by decide +kernel
theorem dX10_here_49 : decode cX10_here 49 = .ok (.aload_n 0, 1) := by decide +kernel
theorem dX10_here_50 : decode cX10_here 50 = .ok (.getfield 32, 3) := by decide +kernel
theorem dX10_here_53 : decode cX10_here 53 = .ok (.aload_n 0, 1) := by decide +kernel
theorem dX10_here_54 : decode cX10_here 54 = .ok (.getfield 116, 3) := by decide +kernel
theorem dX10_here_57 : decode cX10_here 57 = .ok (.iaload, 1) := by decide +kernel
theorem dX10_here_58 : decode cX10_here 58 = .ok (.goto 4, 3) := by decide +kernel
theorem dX10_here_61 : decode cX10_here 61 = .ok (.iconst (-1), 1) := by decide +kernel
theorem dX10_here_62 : decode cX10_here 62 = .ok (.ireturn, 1) := by decide +kernel
theorem dX10_fails_0 : decode cX10_fails 0 = .ok (.aload_n 0, 1) := by decide +kernel
theorem dX10_fails_1 : decode cX10_fails 1 = .ok (.iload_n 2, 1) := by decide +kernel
theorem dX10_fails_2 : decode cX10_fails 2 = .ok (.putfield 35, 3) := by decide +kernel
theorem dX10_fails_5 : decode cX10_fails 5 = .ok (.iload_n 1, 1) := by decide +kernel
theorem dX10_fails_6 : decode cX10_fails 6 = .ok (.ireturn, 1) := by decide +kernel
theorem dX10_takeNumber_0 : decode cX10_takeNumber 0 = .ok (.aload_n 0, 1) := by decide +kernel
theorem dX10_takeNumber_1 : decode cX10_takeNumber 1 = .ok (.invokevirtual 119, 3) := by decide +kernel
theorem dX10_takeNumber_4 : decode cX10_takeNumber 4 = .ok (.istore_n 3, 1) := by decide +kernel
theorem dX10_takeNumber_5 : decode cX10_takeNumber 5 = .ok (.iload_n 3, 1) := by decide +kernel
theorem dX10_takeNumber_6 : decode cX10_takeNumber 6 = .ok (.i2l, 1) := by decide +kernel
theorem dX10_takeNumber_7 : decode cX10_takeNumber 7 = .ok (.ldc2_w 123, 3) := by decide +kernel
theorem dX10_takeNumber_10 : decode cX10_takeNumber 10 = .ok (.ldc2_w 125, 3) := by decide +kernel
theorem dX10_takeNumber_13 : decode cX10_takeNumber 13 = .ok (.invokestatic 105, 3) := by decide +kernel
theorem dX10_takeNumber_16 : decode cX10_takeNumber 16 = .ok (.ifCond .ne 13, 3) := by decide +kernel
theorem dX10_takeNumber_19 : decode cX10_takeNumber 19 = .ok (.aload_n 0, 1) := by decide +kernel
theorem dX10_takeNumber_20 : decode cX10_takeNumber 20 = .ok (.iconst 1, 1) := by decide +kernel
theorem dX10_takeNumber_21 : decode cX10_takeNumber 21 = .ok (.aload_n 0, 1) := by decide +kernel
theorem dX10_takeNumber_22 : decode cX10_takeNumber 22 = .ok (.getfield 116, 3) := by decide +kernel
theorem dX10_takeNumber_25 : decode cX10_takeNumber 25 = .ok (.invokevirtual 127, 3) := by decide +kernel
theorem dX10_takeNumber_28 : decode cX10_takeNumber 28 = .ok (.ireturn, 1) := by decide +kernel
theorem dX10_takeNumber_29 : decode cX10_takeNumber 29 = .ok (.aload_n 0, 1) := by decide +kernel
theorem dX10_takeNumber_30 : decode cX10_takeNumber 30 = .ok (.aload_n 0, 1) := by decide +kernel
theorem dX10_takeNumber_31 : decode cX10_takeNumber 31 = .ok (.getfield 116, 3) := by decide +kernel
theorem dX10_takeNumber_34 : decode cX10_takeNumber 34 = .ok (.putfield 131, 3) := by decide +kernel
theorem dX10_takeNumber_37 : decode cX10_takeNumber 37 = .ok (.aload_n 0, 1) := by decide +kernel
theorem dX10_takeNumber_38 : decode cX10_takeNumber 38 = .ok (.iconst 0, 1) := by decide +kernel
theorem dX10_takeNumber_39 : decode cX10_takeNumber 39 = .ok (.putfield 134, 3) := by decide +kernel
theorem dX10_takeNumber_42 : decode cX10_takeNumber 42 = .ok (.aload_n 0, 1) := by decide +kernel
theorem dX10_takeNumber_43 : decode cX10_takeNumber 43 = .ok (.getfield 116, 3) := by decide +kernel
theorem dX10_takeNumber_46 : decode cX10_takeNumber 46 = .ok (.aload_n 0, 1) := by decide +kernel
theorem dX10_takeNumber_47 : decode cX10_takeNumber 47 = .ok (.getfield 112, 3) := by decide +kernel
theorem dX10_takeNumber_50 : decode cX10_takeNumber 50 = .ok (.if_icmp .ge 79, 3) := by decide +kernel
theorem dX10_takeNumber_53 : decode cX10_takeNumber 53 = .ok (.aload_n 0, 1) := by decide +kernel
theorem dX10_takeNumber_54 : decode cX10_takeNumber 54 = .ok (.getfield 32, 3) := by decide +kernel
theorem dX10_takeNumber_57 : decode cX10_takeNumber 57 = .ok (.aload_n 0, 1) := by decide +kernel
theorem dX10_takeNumber_58 : decode cX10_takeNumber 58 = .ok (.getfield 116, 3) := by decide +kernel
theorem dX10_takeNumber_61 : decode cX10_takeNumber 61 = .ok (.iaload, 1) := by decide +kernel
theorem dX10_takeNumber_62 : decode cX10_takeNumber 62 = .ok (.i2l, 1) := by decide +kernel
theorem dX10_takeNumber_63 : decode cX10_takeNumber 63 = .ok (.ldc2_w 123, 3) := by decide +kernel
theorem dX10_takeNumber_66 : decode cX10_takeNumber 66 = .ok (.ldc2_w 125, 3) := by decide +kernel
theorem dX10_takeNumber_69 : decode cX10_takeNumber 69 = .ok (.invokestatic 105, 3) := by decide +kernel
theorem dX10_takeNumber_72 : decode cX10_takeNumber 72 = .ok (.ifCond .eq 57, 3) := by decide +kernel
theorem dX10_takeNumber_75 : decode cX10_takeNumber 75 = .ok (.aload_n 0, 1) := by decide +kernel
theorem dX10_takeNumber_76 : decode cX10_takeNumber 76 = .ok (.aload_n 0, 1) := by decide +kernel
theorem dX10_takeNumber_77 : decode cX10_takeNumber 77 = .ok (.getfield 134, 3) := by decide +kernel
theorem dX10_takeNumber_80 : decode cX10_takeNumber 80 = .ok (.sipush 10000, 3) := by decide +kernel
theorem dX10_takeNumber_83 : decode cX10_takeNumber 83 = .ok (.if_icmp .le 10, 3) := by decide +kernel
theorem dX10_takeNumber_86 : decode cX10_takeNumber 86 = .ok (.aload_n 0, 1) := by decide +kernel
theorem dX10_takeNumber_87 : decode cX10_takeNumber 87 = .ok (.getfield 134, 3) := by decide +kernel
theorem dX10_takeNumber_90 : decode cX10_takeNumber 90 = .ok (.goto 23, 3) := by decide +kernel
theorem dX10_takeNumber_93 : decode cX10_takeNumber 93 = .ok (.bipush 10, 2) := by decide +kernel
theorem dX10_takeNumber_95 : decode cX10_takeNumber 95 = .ok (.aload_n 0, 1) := by decide +kernel
theorem dX10_takeNumber_96 : decode cX10_takeNumber 96 = .ok (.getfield 134, 3) := by decide +kernel
theorem dX10_takeNumber_99 : decode cX10_takeNumber 99 = .ok (.imul, 1) := by decide +kernel
theorem dX10_takeNumber_100 : decode cX10_takeNumber 100 = .ok (.aload_n 0, 1) := by decide +kernel
theorem dX10_takeNumber_101 : decode cX10_takeNumber 101 = .ok (.getfield 32, 3) := by decide +kernel
theorem dX10_takeNumber_104 : decode cX10_takeNumber 104 = .ok (.aload_n 0, 1) := by decide +kernel
theorem dX10_takeNumber_105 : decode cX10_takeNumber 105 = .ok (.getfield 116, 3) := by decide +kernel
theorem dX10_takeNumber_108 : decode cX10_takeNumber 108 = .ok (.iaload, 1) := by decide +kernel
theorem dX10_takeNumber_109 : decode cX10_takeNumber 109 = .ok (.iadd, 1) := by decide +kernel
theorem dX10_takeNumber_110 : decode cX10_takeNumber 110 = .ok (.bipush 48, 2) := by decide +kernel
theorem dX10_takeNumber_112 : decode cX10_takeNumber 112 = .ok (.isub, 1) := by decide +kernel
theorem dX10_takeNumber_113 : decode cX10_takeNumber 113 = .ok (.putfield 134, 3) := by decide +kernel
theorem dX10_takeNumber_116 : decode cX10_takeNumber 116 = .ok (.aload_n 0, 1) := by decide +kernel
theorem dX10_takeNumber_117 : decode cX10_takeNumber 117 = .ok (.dup, 1) := by decide +kernel
theorem dX10_takeNumber_118 : decode cX10_takeNumber 118 = .ok (.getfield 116, 3) := by decide +kernel
theorem dX10_takeNumber_121 : decode cX10_takeNumber 121 = .ok (.iconst 1, 1) := by decide +kernel
theorem dX10_takeNumber_122 : decode cX10_takeNumber 122 = .ok (.iadd, 1) := by decide +kernel
theorem dX10_takeNumber_123 : decode cX10_takeNumber 123 = .ok (.putfield 116, 3) := by decide +kernel
theorem dX10_takeNumber_126 : decode cX10_takeNumber 126 = .ok (.goto (-84), 3) := by decide +kernel
theorem dX10_takeNumber_129 : decode cX10_takeNumber 129 = .ok (.aload_n 0, 1) := by decide +kernel
theorem dX10_takeNumber_130 : decode cX10_takeNumber 130 = .ok (.getfield 116, 3) := by decide +kernel
theorem dX10_takeNumber_133 : decode cX10_takeNumber 133 = .ok (.aload_n 0, 1) := by decide +kernel
theorem dX10_takeNumber_134 : decode cX10_takeNumber 134 = .ok (.getfield 131, 3) := by decide +kernel
theorem dX10_takeNumber_137 : decode cX10_takeNumber 137 = .ok (.isub, 1) := by decide +kernel
theorem dX10_takeNumber_138 : decode cX10_takeNumber 138 = .ok (.iconst 3, 1) := by decide +kernel
theorem dX10_takeNumber_139 : decode cX10_takeNumber 139 = .ok (.if_icmp .gt 18, 3) := by decide +kernel
theorem dX10_takeNumber_142 : decode cX10_takeNumber 142 = .ok (.aload_n 0, 1) := by decide +kernel
theorem dX10_takeNumber_143 : decode cX10_takeNumber 143 = .ok (.getfield 134, 3) := by decide +kernel
theorem dX10_takeNumber_146 : decode cX10_takeNumber 146 = .ok (.i2l, 1) := by decide +kernel
theorem dX10_takeNumber_147 : decode cX10_takeNumber 147 = .ok (.iload_n 1, 1) := by decide +kernel
theorem dX10_takeNumber_148 : decode cX10_takeNumber 148 = .ok (.i2l, 1) := by decide +kernel
theorem dX10_takeNumber_149 : decode cX10_takeNumber 149 = .ok (.iload_n 2, 1) := by decide +kernel
theorem dX10_takeNumber_150 : decode cX10_takeNumber 150 = .ok (.i2l, 1) := by decide +kernel
theorem dX10_takeNumber_151 : decode cX10_takeNumber 151 = .ok (.invokestatic 105, 3) := by decide +kernel
theorem dX10_takeNumber_154 : decode cX10_takeNumber 154 = .ok (.ifCond .ne 15, 3) := by decide +kernel
theorem dX10_takeNumber_157 : decode cX10_takeNumber 157 = .ok (.aload_n 0, 1) := by decide +kernel
theorem dX10_takeNumber_158 : decode cX10_takeNumber 158 = .ok (.iconst 2, 1) := by decide +kernel
theorem dX10_takeNumber_159 : decode cX10_takeNumber 159 = .ok (.aload_n 0, 1) := by decide +kernel
theorem dX10_takeNumber_160 : decode cX10_takeNumber 160 = .ok (.getfield 131, 3) := by decide +kernel
theorem dX10_takeNumber_163 : decode cX10_takeNumber 163 = .ok (.invokevirtual 127, 3) := by decide +kernel
theorem dX10_takeNumber_166 : decode cX10_takeNumber 166 = .ok (.goto 4, 3) := by decide +kernel
theorem dX10_takeNumber_169 : decode cX10_takeNumber 169 = .ok (.iconst 0, 1) := by decide +kernel
theorem dX10_takeNumber_170 : decode cX10_takeNumber 170 = .ok (.ireturn, 1) := by decide +kernel
theorem dX10_into_0 : decode cX10_into 0 = .ok (.aload_n 0, 1) := by decide +kernel
theorem dX10_into_1 : decode cX10_into 1 = .ok (.iload_n 3, 1) := by decide +kernel
theorem dX10_into_2 : decode cX10_into 2 = .ok (.iload 4, 2) := by decide +kernel
theorem dX10_into_4 : decode cX10_into 4 = .ok (.invokevirtual 137, 3) := by decide +kernel
theorem dX10_into_7 : decode cX10_into 7 = .ok (.istore 5, 2) := by decide +kernel
theorem dX10_into_9 : decode cX10_into 9 = .ok (.aload_n 1, 1) := by decide +kernel
theorem dX10_into_10 : decode cX10_into 10 = .ok (.iload_n 2, 1) := by decide +kernel
theorem dX10_into_11 : decode cX10_into 11 = .ok (.aload_n 0, 1) := by decide +kernel
theorem dX10_into_12 : decode cX10_into 12 = .ok (.getfield 134, 3) := by decide +kernel
theorem dX10_into_15 : decode cX10_into 15 = .ok (.iastore, 1) := by decide +kernel
theorem dX10_into_16 : decode cX10_into 16 = .ok (.iload 5, 2) := by decide +kernel
theorem dX10_into_18 : decode cX10_into 18 = .ok (.ireturn, 1) := by decide +kernel
theorem dX10_takeBay_0 : decode cX10_takeBay 0 = .ok (.aload_n 0, 1) := by decide +kernel
theorem dX10_takeBay_1 : decode cX10_takeBay 1 = .ok (.aload_n 0, 1) := by decide +kernel
theorem dX10_takeBay_2 : decode cX10_takeBay 2 = .ok (.getfield 38, 3) := by decide +kernel
theorem dX10_takeBay_5 : decode cX10_takeBay 5 = .ok (.iconst 0, 1) := by decide +kernel
theorem dX10_takeBay_6 : decode cX10_takeBay 6 = .ok (.iconst 2, 1) := by decide +kernel
theorem dX10_takeBay_7 : decode cX10_takeBay 7 = .ok (.bipush 30, 2) := by decide +kernel
theorem dX10_takeBay_9 : decode cX10_takeBay 9 = .ok (.invokevirtual 140, 3) := by decide +kernel
theorem dX10_takeBay_12 : decode cX10_takeBay 12 = .ok (.istore_n 1, 1) := by decide +kernel
theorem dX10_takeBay_13 : decode cX10_takeBay 13 = .ok (.iload_n 1, 1) := by decide +kernel
theorem dX10_takeBay_14 : decode cX10_takeBay 14 = .ok (.ifCond .le 7, 3) := by decide +kernel
theorem dX10_takeBay_17 : decode cX10_takeBay 17 = .ok (.iload_n 1, 1) := by decide +kernel
theorem dX10_takeBay_18 : decode cX10_takeBay 18 = .ok (.goto 15, 3) := by decide +kernel
theorem dX10_takeBay_21 : decode cX10_takeBay 21 = .ok (.aload_n 0, 1) := by decide +kernel
theorem dX10_takeBay_22 : decode cX10_takeBay 22 = .ok (.aload_n 0, 1) := by decide +kernel
theorem dX10_takeBay_23 : decode cX10_takeBay 23 = .ok (.getfield 38, 3) := by decide +kernel
theorem dX10_takeBay_26 : decode cX10_takeBay 26 = .ok (.iconst 1, 1) := by decide +kernel
theorem dX10_takeBay_27 : decode cX10_takeBay 27 = .ok (.iconst 0, 1) := by decide +kernel
theorem dX10_takeBay_28 : decode cX10_takeBay 28 = .ok (.bipush 20, 2) := by decide +kernel
theorem dX10_takeBay_30 : decode cX10_takeBay 30 = .ok (.invokevirtual 140, 3) := by decide +kernel
theorem dX10_takeBay_33 : decode cX10_takeBay 33 = .ok (.istore_n 1, 1) := by decide +kernel
theorem dX10_takeBay_34 : decode cX10_takeBay 34 = .ok (.iload_n 1, 1) := by decide +kernel
theorem dX10_takeBay_35 : decode cX10_takeBay 35 = .ok (.ifCond .le 7, 3) := by decide +kernel
theorem dX10_takeBay_38 : decode cX10_takeBay 38 = .ok (.iload_n 1, 1) := by decide +kernel
theorem dX10_takeBay_39 : decode cX10_takeBay 39 = .ok (.goto 15, 3) := by decide +kernel
theorem dX10_takeBay_42 : decode cX10_takeBay 42 = .ok (.aload_n 0, 1) := by decide +kernel
theorem dX10_takeBay_43 : decode cX10_takeBay 43 = .ok (.aload_n 0, 1) := by decide +kernel
theorem dX10_takeBay_44 : decode cX10_takeBay 44 = .ok (.getfield 38, 3) := by decide +kernel
theorem dX10_takeBay_47 : decode cX10_takeBay 47 = .ok (.iconst 2, 1) := by decide +kernel
theorem dX10_takeBay_48 : decode cX10_takeBay 48 = .ok (.iconst 0, 1) := by decide +kernel
theorem dX10_takeBay_49 : decode cX10_takeBay 49 = .ok (.bipush 10, 2) := by decide +kernel
theorem dX10_takeBay_51 : decode cX10_takeBay 51 = .ok (.invokevirtual 140, 3) := by decide +kernel
theorem dX10_takeBay_54 : decode cX10_takeBay 54 = .ok (.ireturn, 1) := by decide +kernel
theorem dX10_takeCell_0 : decode cX10_takeCell 0 = .ok (.aload_n 0, 1) := by decide +kernel
theorem dX10_takeCell_1 : decode cX10_takeCell 1 = .ok (.aload_n 0, 1) := by decide +kernel
theorem dX10_takeCell_2 : decode cX10_takeCell 2 = .ok (.getfield 41, 3) := by decide +kernel
theorem dX10_takeCell_5 : decode cX10_takeCell 5 = .ok (.iload_n 1, 1) := by decide +kernel
theorem dX10_takeCell_6 : decode cX10_takeCell 6 = .ok (.iconst 0, 1) := by decide +kernel
theorem dX10_takeCell_7 : decode cX10_takeCell 7 = .ok (.aload_n 0, 1) := by decide +kernel
theorem dX10_takeCell_8 : decode cX10_takeCell 8 = .ok (.getfield 38, 3) := by decide +kernel
theorem dX10_takeCell_11 : decode cX10_takeCell 11 = .ok (.iconst 0, 1) := by decide +kernel
theorem dX10_takeCell_12 : decode cX10_takeCell 12 = .ok (.iaload, 1) := by decide +kernel
theorem dX10_takeCell_13 : decode cX10_takeCell 13 = .ok (.iconst 1, 1) := by decide +kernel
theorem dX10_takeCell_14 : decode cX10_takeCell 14 = .ok (.isub, 1) := by decide +kernel
theorem dX10_takeCell_15 : decode cX10_takeCell 15 = .ok (.invokevirtual 140, 3) := by decide +kernel
theorem dX10_takeCell_18 : decode cX10_takeCell 18 = .ok (.istore_n 2, 1) := by decide +kernel
theorem dX10_takeCell_19 : decode cX10_takeCell 19 = .ok (.iconst 0, 1) := by decide +kernel
theorem dX10_takeCell_20 : decode cX10_takeCell 20 = .ok (.istore_n 3, 1) := by decide +kernel
theorem dX10_takeCell_21 : decode cX10_takeCell 21 = .ok (.iload_n 3, 1) := by decide +kernel
theorem dX10_takeCell_22 : decode cX10_takeCell 22 = .ok (.iload_n 1, 1) := by decide +kernel
theorem dX10_takeCell_23 : decode cX10_takeCell 23 = .ok (.if_icmp .ge 40, 3) := by decide +kernel
theorem dX10_takeCell_26 : decode cX10_takeCell 26 = .ok (.iload_n 2, 1) := by decide +kernel
theorem dX10_takeCell_27 : decode cX10_takeCell 27 = .ok (.ifCond .ne 36, 3) := by decide +kernel
theorem dX10_takeCell_30 : decode cX10_takeCell 30 = .ok (.aload_n 0, 1) := by decide +kernel
theorem dX10_takeCell_31 : decode cX10_takeCell 31 = .ok (.getfield 41, 3) := by decide +kernel
theorem dX10_takeCell_34 : decode cX10_takeCell 34 = .ok (.iload_n 3, 1) := by decide +kernel
theorem dX10_takeCell_35 : decode cX10_takeCell 35 = .ok (.iaload, 1) := by decide +kernel
theorem dX10_takeCell_36 : decode cX10_takeCell 36 = .ok (.aload_n 0, 1) := by decide +kernel
theorem dX10_takeCell_37 : decode cX10_takeCell 37 = .ok (.getfield 134, 3) := by decide +kernel
theorem dX10_takeCell_40 : decode cX10_takeCell 40 = .ok (.if_icmp .ne 15, 3) := by decide +kernel
theorem dX10_takeCell_43 : decode cX10_takeCell 43 = .ok (.aload_n 0, 1) := by decide +kernel
theorem dX10_takeCell_44 : decode cX10_takeCell 44 = .ok (.iconst 4, 1) := by decide +kernel
theorem dX10_takeCell_45 : decode cX10_takeCell 45 = .ok (.aload_n 0, 1) := by decide +kernel
theorem dX10_takeCell_46 : decode cX10_takeCell 46 = .ok (.getfield 131, 3) := by decide +kernel
theorem dX10_takeCell_49 : decode cX10_takeCell 49 = .ok (.invokevirtual 127, 3) := by decide +kernel
theorem dX10_takeCell_52 : decode cX10_takeCell 52 = .ok (.goto 4, 3) := by decide +kernel
theorem dX10_takeCell_55 : decode cX10_takeCell 55 = .ok (.iconst 0, 1) := by decide +kernel
theorem dX10_takeCell_56 : decode cX10_takeCell 56 = .ok (.istore_n 2, 1) := by decide +kernel
theorem dX10_takeCell_57 : decode cX10_takeCell 57 = .ok (.iinc 3 1, 3) := by decide +kernel
theorem dX10_takeCell_60 : decode cX10_takeCell 60 = .ok (.goto (-39), 3) := by decide +kernel
theorem dX10_takeCell_63 : decode cX10_takeCell 63 = .ok (.iload_n 2, 1) := by decide +kernel
theorem dX10_takeCell_64 : decode cX10_takeCell 64 = .ok (.ireturn, 1) := by decide +kernel
theorem dX10_isStar_0 : decode cX10_isStar 0 = .ok (.iload_n 1, 1) := by decide +kernel
theorem dX10_isStar_1 : decode cX10_isStar 1 = .ok (.aload_n 0, 1) := by decide +kernel
theorem dX10_isStar_2 : decode cX10_isStar 2 = .ok (.getfield 112, 3) := by decide +kernel
theorem dX10_isStar_5 : decode cX10_isStar 5 = .ok (.if_icmp .ge 26, 3) := by decide +kernel
theorem dX10_isStar_8 : decode cX10_isStar 8 = .ok (.aload_n 0, 1) := by decide +kernel
theorem dX10_isStar_9 : decode cX10_isStar 9 = .ok (.getfield 32, 3) := by decide +kernel
theorem dX10_isStar_12 : decode cX10_isStar 12 = .ok (.iload_n 1, 1) := by decide +kernel
theorem dX10_isStar_13 : decode cX10_isStar 13 = .ok (.iaload, 1) := by decide +kernel
theorem dX10_isStar_14 : decode cX10_isStar 14 = .ok (.i2l, 1) := by decide +kernel
theorem dX10_isStar_15 : decode cX10_isStar 15 = .ok (.ldc2_w 144, 3) := by decide +kernel
theorem dX10_isStar_18 : decode cX10_isStar 18 = .ok (.ldc2_w 146, 3) := by decide +kernel
theorem dX10_isStar_21 : decode cX10_isStar 21 = .ok (.invokestatic 105, 3) := by decide +kernel
theorem dX10_isStar_24 : decode cX10_isStar 24 = .ok (.ifCond .eq 7, 3) := by decide +kernel
theorem dX10_isStar_27 : decode cX10_isStar 27 = .ok (.iconst 1, 1) := by decide +kernel
theorem dX10_isStar_28 : decode cX10_isStar 28 = .ok (.goto 4, 3) := by decide +kernel
theorem dX10_isStar_31 : decode cX10_isStar 31 = .ok (.iconst 0, 1) := by decide +kernel
theorem dX10_isStar_32 : decode cX10_isStar 32 = .ok (.ireturn, 1) := by decide +kernel
theorem dX10_areLike_0 : decode cX10_areLike 0 = .ok (.aload_n 0, 1) := by decide +kernel
theorem dX10_areLike_1 : decode cX10_areLike 1 = .ok (.getfield 50, 3) := by decide +kernel
theorem dX10_areLike_4 : decode cX10_areLike 4 = .ok (.iload_n 1, 1) := by decide +kernel
theorem dX10_areLike_5 : decode cX10_areLike 5 = .ok (.iaload, 1) := by decide +kernel
theorem dX10_areLike_6 : decode cX10_areLike 6 = .ok (.aload_n 0, 1) := by decide +kernel
theorem dX10_areLike_7 : decode cX10_areLike 7 = .ok (.getfield 50, 3) := by decide +kernel
theorem dX10_areLike_10 : decode cX10_areLike 10 = .ok (.iload_n 2, 1) := by decide +kernel
theorem dX10_areLike_11 : decode cX10_areLike 11 = .ok (.iaload, 1) := by decide +kernel
theorem dX10_areLike_12 : decode cX10_areLike 12 = .ok (.if_icmp .ne 7, 3) := by decide +kernel
theorem dX10_areLike_15 : decode cX10_areLike 15 = .ok (.iconst 1, 1) := by decide +kernel
theorem dX10_areLike_16 : decode cX10_areLike 16 = .ok (.goto 4, 3) := by decide +kernel
theorem dX10_areLike_19 : decode cX10_areLike 19 = .ok (.iconst 0, 1) := by decide +kernel
theorem dX10_areLike_20 : decode cX10_areLike 20 = .ok (.istore_n 3, 1) := by decide +kernel
theorem dX10_areLike_21 : decode cX10_areLike 21 = .ok (.iconst 0, 1) := by decide +kernel
theorem dX10_areLike_22 : decode cX10_areLike 22 = .ok (.istore 4, 2) := by decide +kernel
theorem dX10_areLike_24 : decode cX10_areLike 24 = .ok (.iload 4, 2) := by decide +kernel
theorem dX10_areLike_26 : decode cX10_areLike 26 = .ok (.aload_n 0, 1) := by decide +kernel
theorem dX10_areLike_27 : decode cX10_areLike 27 = .ok (.getfield 50, 3) := by decide +kernel
theorem dX10_areLike_30 : decode cX10_areLike 30 = .ok (.iload_n 1, 1) := by decide +kernel
theorem dX10_areLike_31 : decode cX10_areLike 31 = .ok (.iaload, 1) := by decide +kernel
theorem dX10_areLike_32 : decode cX10_areLike 32 = .ok (.if_icmp .ge 44, 3) := by decide +kernel
theorem dX10_areLike_35 : decode cX10_areLike 35 = .ok (.iload_n 3, 1) := by decide +kernel
theorem dX10_areLike_36 : decode cX10_areLike 36 = .ok (.ifCond .eq 32, 3) := by decide +kernel
theorem dX10_areLike_39 : decode cX10_areLike 39 = .ok (.aload_n 0, 1) := by decide +kernel
theorem dX10_areLike_40 : decode cX10_areLike 40 = .ok (.getfield 53, 3) := by decide +kernel
theorem dX10_areLike_43 : decode cX10_areLike 43 = .ok (.iconst 5, 1) := by decide +kernel
theorem dX10_areLike_44 : decode cX10_areLike 44 = .ok (.iload_n 1, 1) := by decide +kernel
theorem dX10_areLike_45 : decode cX10_areLike 45 = .ok (.imul, 1) := by decide +kernel
theorem dX10_areLike_46 : decode cX10_areLike 46 = .ok (.iload 4, 2) := by decide +kernel
theorem dX10_areLike_48 : decode cX10_areLike 48 = .ok (.iadd, 1) := by decide +kernel
theorem dX10_areLike_49 : decode cX10_areLike 49 = .ok (.iaload, 1) := by decide +kernel
theorem dX10_areLike_50 : decode cX10_areLike 50 = .ok (.aload_n 0, 1) := by decide +kernel
theorem dX10_areLike_51 : decode cX10_areLike 51 = .ok (.getfield 53, 3) := by decide +kernel
theorem dX10_areLike_54 : decode cX10_areLike 54 = .ok (.iconst 5, 1) := by decide +kernel
theorem dX10_areLike_55 : decode cX10_areLike 55 = .ok (.iload_n 2, 1) := by decide +kernel
theorem dX10_areLike_56 : decode cX10_areLike 56 = .ok (.imul, 1) := by decide +kernel
theorem dX10_areLike_57 : decode cX10_areLike 57 = .ok (.iload 4, 2) := by decide +kernel
theorem dX10_areLike_59 : decode cX10_areLike 59 = .ok (.iadd, 1) := by decide +kernel
theorem dX10_areLike_60 : decode cX10_areLike 60 = .ok (.iaload, 1) := by decide +kernel
theorem dX10_areLike_61 : decode cX10_areLike 61 = .ok (.if_icmp .ne 7, 3) := by decide +kernel
theorem dX10_areLike_64 : decode cX10_areLike 64 = .ok (.iconst 1, 1) := by decide +kernel
theorem dX10_areLike_65 : decode cX10_areLike 65 = .ok (.goto 4, 3) := by decide +kernel
theorem dX10_areLike_68 : decode cX10_areLike 68 = .ok (.iconst 0, 1) := by decide +kernel
theorem dX10_areLike_69 : decode cX10_areLike 69 = .ok (.istore_n 3, 1) := by decide +kernel
theorem dX10_areLike_70 : decode cX10_areLike 70 = .ok (.iinc 4 1, 3) := by decide +kernel
theorem dX10_areLike_73 : decode cX10_areLike 73 = .ok (.goto (-49), 3) := by decide +kernel
theorem dX10_areLike_76 : decode cX10_areLike 76 = .ok (.iload_n 3, 1) := by decide +kernel
theorem dX10_areLike_77 : decode cX10_areLike 77 = .ok (.ireturn, 1) := by decide +kernel
theorem dX10_takeStars_0 : decode cX10_takeStars 0 = .ok (.aload_n 0, 1) := by decide +kernel
theorem dX10_takeStars_1 : decode cX10_takeStars 1 = .ok (.invokevirtual 119, 3) := by decide +kernel
theorem dX10_takeStars_4 : decode cX10_takeStars 4 = .ok (.istore_n 2, 1) := by decide +kernel
theorem dX10_takeStars_5 : decode cX10_takeStars 5 = .ok (.aload_n 0, 1) := by decide +kernel
theorem dX10_takeStars_6 : decode cX10_takeStars 6 = .ok (.getfield 116, 3) := by decide +kernel
theorem dX10_takeStars_9 : decode cX10_takeStars 9 = .ok (.istore_n 3, 1) := by decide +kernel
theorem dX10_takeStars_10 : decode cX10_takeStars 10 = .ok (.iload_n 2, 1) := by decide +kernel
theorem dX10_takeStars_11 : decode cX10_takeStars 11 = .ok (.i2l, 1) := by decide +kernel
theorem dX10_takeStars_12 : decode cX10_takeStars 12 = .ok (.ldc2_w 144, 3) := by decide +kernel
theorem dX10_takeStars_15 : decode cX10_takeStars 15 = .ok (.ldc2_w 146, 3) := by decide +kernel
theorem dX10_takeStars_18 : decode cX10_takeStars 18 = .ok (.invokestatic 105, 3) := by decide +kernel
theorem dX10_takeStars_21 : decode cX10_takeStars 21 = .ok (.ifCond .ne 13, 3) := by decide +kernel
theorem dX10_takeStars_24 : decode cX10_takeStars 24 = .ok (.aload_n 0, 1) := by decide +kernel
theorem dX10_takeStars_25 : decode cX10_takeStars 25 = .ok (.iconst 1, 1) := by decide +kernel
theorem dX10_takeStars_26 : decode cX10_takeStars 26 = .ok (.aload_n 0, 1) := by decide +kernel
theorem dX10_takeStars_27 : decode cX10_takeStars 27 = .ok (.getfield 116, 3) := by decide +kernel
theorem dX10_takeStars_30 : decode cX10_takeStars 30 = .ok (.invokevirtual 127, 3) := by decide +kernel
theorem dX10_takeStars_33 : decode cX10_takeStars 33 = .ok (.ireturn, 1) := by decide +kernel
theorem dX10_takeStars_34 : decode cX10_takeStars 34 = .ok (.aload_n 0, 1) := by decide +kernel
theorem dX10_takeStars_35 : decode cX10_takeStars 35 = .ok (.getfield 50, 3) := by decide +kernel
theorem dX10_takeStars_38 : decode cX10_takeStars 38 = .ok (.iload_n 1, 1) := by decide +kernel
theorem dX10_takeStars_39 : decode cX10_takeStars 39 = .ok (.iconst 0, 1) := by decide +kernel
theorem dX10_takeStars_40 : decode cX10_takeStars 40 = .ok (.iastore, 1) := by decide +kernel
theorem dX10_takeStars_41 : decode cX10_takeStars 41 = .ok (.aload_n 0, 1) := by decide +kernel
theorem dX10_takeStars_42 : decode cX10_takeStars 42 = .ok (.aload_n 0, 1) := by decide +kernel
theorem dX10_takeStars_43 : decode cX10_takeStars 43 = .ok (.getfield 116, 3) := by decide +kernel
theorem dX10_takeStars_46 : decode cX10_takeStars 46 = .ok (.invokevirtual 148, 3) := by decide +kernel
theorem dX10_takeStars_49 : decode cX10_takeStars 49 = .ok (.ifCond .eq 75, 3) := by decide +kernel
theorem dX10_takeStars_52 : decode cX10_takeStars 52 = .ok (.aload_n 0, 1) := by decide +kernel
theorem dX10_takeStars_53 : decode cX10_takeStars 53 = .ok (.getfield 50, 3) := by decide +kernel
theorem dX10_takeStars_56 : decode cX10_takeStars 56 = .ok (.iload_n 1, 1) := by decide +kernel
theorem dX10_takeStars_57 : decode cX10_takeStars 57 = .ok (.iaload, 1) := by decide +kernel
theorem dX10_takeStars_58 : decode cX10_takeStars 58 = .ok (.iconst 5, 1) := by decide +kernel
theorem dX10_takeStars_59 : decode cX10_takeStars 59 = .ok (.if_icmp .ne 13, 3) := by decide +kernel
theorem dX10_takeStars_62 : decode cX10_takeStars 62 = .ok (.aload_n 0, 1) := by decide +kernel
theorem dX10_takeStars_63 : decode cX10_takeStars 63 = .ok (.iconst 1, 1) := by decide +kernel
theorem dX10_takeStars_64 : decode cX10_takeStars 64 = .ok (.aload_n 0, 1) := by decide +kernel
theorem dX10_takeStars_65 : decode cX10_takeStars 65 = .ok (.getfield 116, 3) := by decide +kernel
theorem dX10_takeStars_68 : decode cX10_takeStars 68 = .ok (.invokevirtual 127, 3) := by decide +kernel
theorem dX10_takeStars_71 : decode cX10_takeStars 71 = .ok (.ireturn, 1) := by decide +kernel
theorem dX10_takeStars_72 : decode cX10_takeStars 72 = .ok (.aload_n 0, 1) := by decide +kernel
theorem dX10_takeStars_73 : decode cX10_takeStars 73 = .ok (.getfield 53, 3) := by decide +kernel
