theorem dX4_init_17 : decode cX4_init 17 = .ok (.putfield 15, 3) := by decide +kernel
theorem dX4_init_20 : decode cX4_init 20 = .ok (.return_, 1) := by decide +kernel
theorem dX4_settle_0 : decode cX4_settle 0 = .ok (.iconst 0, 1) := by decide +kernel
theorem dX4_settle_1 : decode cX4_settle 1 = .ok (.istore_n 3, 1) := by decide +kernel
theorem dX4_settle_2 : decode cX4_settle 2 = .ok (.iload_n 3, 1) := by decide +kernel
theorem dX4_settle_3 : decode cX4_settle 3 = .ok (.bipush 8, 2) := by decide +kernel
theorem dX4_settle_5 : decode cX4_settle 5 = .ok (.if_icmp .ge 23, 3) := by decide +kernel
theorem dX4_settle_8 : decode cX4_settle 8 = .ok (.aload_n 0, 1) := by decide +kernel
theorem dX4_settle_9 : decode cX4_settle 9 = .ok (.getfield 9, 3) := by decide +kernel
theorem dX4_settle_12 : decode cX4_settle 12 = .ok (.iload_n 3, 1) := by decide +kernel
theorem dX4_settle_13 : decode cX4_settle 13 = .ok (.iconst (-1), 1) := by decide +kernel
theorem dX4_settle_14 : decode cX4_settle 14 = .ok (.iastore, 1) := by decide +kernel
theorem dX4_settle_15 : decode cX4_settle 15 = .ok (.aload_n 0, 1) := by decide +kernel
theorem dX4_settle_16 : decode cX4_settle 16 = .ok (.getfield 15, 3) := by decide +kernel
theorem dX4_settle_19 : decode cX4_settle 19 = .ok (.iload_n 3, 1) := by decide +kernel
theorem dX4_settle_20 : decode cX4_settle 20 = .ok (.iconst 0, 1) := by decide +kernel
theorem dX4_settle_21 : decode cX4_settle 21 = .ok (.iastore, 1) := by decide +kernel
theorem dX4_settle_22 : decode cX4_settle 22 = .ok (.iinc 3 1, 3) := by decide +kernel
theorem dX4_settle_25 : decode cX4_settle 25 = .ok (.goto (-23), 3) := by decide +kernel
theorem dX4_settle_28 : decode cX4_settle 28 = .ok (.iconst 1, 1) := by decide +kernel
theorem dX4_settle_29 : decode cX4_settle 29 = .ok (.istore_n 3, 1) := by decide +kernel
theorem dX4_settle_30 : decode cX4_settle 30 = .ok (.iconst 0, 1) := by decide +kernel
theorem dX4_settle_31 : decode cX4_settle 31 = .ok (.istore 4, 2) := by decide +kernel
theorem dX4_settle_33 : decode cX4_settle 33 = .ok (.iload 4, 2) := by decide +kernel
theorem dX4_settle_35 : decode cX4_settle 35 = .ok (.bipush 64, 2) := by decide +kernel
theorem dX4_settle_37 : decode cX4_settle 37 = .ok (.if_icmp .ge 20, 3) := by decide +kernel
theorem dX4_settle_40 : decode cX4_settle 40 = .ok (.iload_n 3, 1) := by decide +kernel
theorem dX4_settle_41 : decode cX4_settle 41 = .ok (.ifCond .eq 16, 3) := by decide +kernel
theorem dX4_settle_44 : decode cX4_settle 44 = .ok (.aload_n 0, 1) := by decide +kernel
theorem dX4_settle_45 : decode cX4_settle 45 = .ok (.aload_n 1, 1) := by decide +kernel
theorem dX4_settle_46 : decode cX4_settle 46 = .ok (.aload_n 2, 1) := by decide +kernel
theorem dX4_settle_47 : decode cX4_settle 47 = .ok (.invokevirtual 18, 3) := by decide +kernel
theorem dX4_settle_50 : decode cX4_settle 50 = .ok (.istore_n 3, 1) := by decide +kernel
theorem dX4_settle_51 : decode cX4_settle 51 = .ok (.iinc 4 1, 3) := by decide +kernel
theorem dX4_settle_54 : decode cX4_settle 54 = .ok (.goto (-21), 3) := by decide +kernel
theorem dX4_settle_57 : decode cX4_settle 57 = .ok (.return_, 1) := by decide +kernel
theorem dX4_askAll_0 : decode cX4_askAll 0 = .ok (.iconst 0, 1) := by decide +kernel
theorem dX4_askAll_1 : decode cX4_askAll 1 = .ok (.istore_n 3, 1) := by decide +kernel
theorem dX4_askAll_2 : decode cX4_askAll 2 = .ok (.iconst 0, 1) := by decide +kernel
theorem dX4_askAll_3 : decode cX4_askAll 3 = .ok (.istore 4, 2) := by decide +kernel
theorem dX4_askAll_5 : decode cX4_askAll 5 = .ok (.iload 4, 2) := by decide +kernel
theorem dX4_askAll_7 : decode cX4_askAll 7 = .ok (.aload_n 1, 1) := by decide +kernel
theorem dX4_askAll_8 : decode cX4_askAll 8 = .ok (.getfield 22, 3) := by decide +kernel
theorem dX4_askAll_11 : decode cX4_askAll 11 = .ok (.if_icmp .ge 57, 3) := by decide +kernel
theorem dX4_askAll_14 : decode cX4_askAll 14 = .ok (.aload_n 2, 1) := by decide +kernel
theorem dX4_askAll_15 : decode cX4_askAll 15 = .ok (.getfield 28, 3) := by decide +kernel
theorem dX4_askAll_18 : decode cX4_askAll 18 = .ok (.iload 4, 2) := by decide +kernel
theorem dX4_askAll_20 : decode cX4_askAll 20 = .ok (.iaload, 1) := by decide +kernel
theorem dX4_askAll_21 : decode cX4_askAll 21 = .ok (.ifCond .le 41, 3) := by decide +kernel
theorem dX4_askAll_24 : decode cX4_askAll 24 = .ok (.aload_n 0, 1) := by decide +kernel
theorem dX4_askAll_25 : decode cX4_askAll 25 = .ok (.getfield 9, 3) := by decide +kernel
theorem dX4_askAll_28 : decode cX4_askAll 28 = .ok (.iload 4, 2) := by decide +kernel
theorem dX4_askAll_30 : decode cX4_askAll 30 = .ok (.iaload, 1) := by decide +kernel
theorem dX4_askAll_31 : decode cX4_askAll 31 = .ok (.iconst (-1), 1) := by decide +kernel
theorem dX4_askAll_32 : decode cX4_askAll 32 = .ok (.if_icmp .ne 30, 3) := by decide +kernel
theorem dX4_askAll_35 : decode cX4_askAll 35 = .ok (.aload_n 0, 1) := by decide +kernel
theorem dX4_askAll_36 : decode cX4_askAll 36 = .ok (.aload_n 1, 1) := by decide +kernel
theorem dX4_askAll_37 : decode cX4_askAll 37 = .ok (.aload_n 2, 1) := by decide +kernel
theorem dX4_askAll_38 : decode cX4_askAll 38 = .ok (.iload 4, 2) := by decide +kernel
theorem dX4_askAll_40 : decode cX4_askAll 40 = .ok (.invokevirtual 33, 3) := by decide +kernel
theorem dX4_askAll_43 : decode cX4_askAll 43 = .ok (.istore 5, 2) := by decide +kernel
theorem dX4_askAll_45 : decode cX4_askAll 45 = .ok (.iload 5, 2) := by decide +kernel
theorem dX4_askAll_47 : decode cX4_askAll 47 = .ok (.iconst (-1), 1) := by decide +kernel
theorem dX4_askAll_48 : decode cX4_askAll 48 = .ok (.if_icmp .eq 14, 3) := by decide +kernel
theorem dX4_askAll_51 : decode cX4_askAll 51 = .ok (.aload_n 0, 1) := by decide +kernel
theorem dX4_askAll_52 : decode cX4_askAll 52 = .ok (.aload_n 1, 1) := by decide +kernel
theorem dX4_askAll_53 : decode cX4_askAll 53 = .ok (.iload 4, 2) := by decide +kernel
theorem dX4_askAll_55 : decode cX4_askAll 55 = .ok (.iload 5, 2) := by decide +kernel
theorem dX4_askAll_57 : decode cX4_askAll 57 = .ok (.invokevirtual 37, 3) := by decide +kernel
theorem dX4_askAll_60 : decode cX4_askAll 60 = .ok (.iconst 1, 1) := by decide +kernel
theorem dX4_askAll_61 : decode cX4_askAll 61 = .ok (.istore_n 3, 1) := by decide +kernel
theorem dX4_askAll_62 : decode cX4_askAll 62 = .ok (.iinc 4 2, 3) := by decide +kernel
theorem dX4_askAll_65 : decode cX4_askAll 65 = .ok (.goto (-60), 3) := by decide +kernel
theorem dX4_askAll_68 : decode cX4_askAll 68 = .ok (.iload_n 3, 1) := by decide +kernel
theorem dX4_askAll_69 : decode cX4_askAll 69 = .ok (.ireturn, 1) := by decide +kernel
theorem dX4_nearestToAsk_0 : decode cX4_nearestToAsk 0 = .ok (.iconst (-1), 1) := by decide +kernel
theorem dX4_nearestToAsk_1 : decode cX4_nearestToAsk 1 = .ok (.istore 4, 2) := by decide +kernel
theorem dX4_nearestToAsk_3 : decode cX4_nearestToAsk 3 = .ok (.iconst 1, 1) := by decide +kernel
theorem dX4_nearestToAsk_4 : decode cX4_nearestToAsk 4 = .ok (.istore 5, 2) := by decide +kernel
theorem dX4_nearestToAsk_6 : decode cX4_nearestToAsk 6 = .ok (.iload 5, 2) := by decide +kernel
theorem dX4_nearestToAsk_8 : decode cX4_nearestToAsk 8 = .ok (.aload_n 1, 1) := by decide +kernel
theorem dX4_nearestToAsk_9 : decode cX4_nearestToAsk 9 = .ok (.getfield 22, 3) := by decide +kernel
theorem dX4_nearestToAsk_12 : decode cX4_nearestToAsk 12 = .ok (.if_icmp .ge 72, 3) := by decide +kernel
theorem dX4_nearestToAsk_15 : decode cX4_nearestToAsk 15 = .ok (.aload_n 2, 1) := by decide +kernel
theorem dX4_nearestToAsk_16 : decode cX4_nearestToAsk 16 = .ok (.getfield 28, 3) := by decide +kernel
theorem dX4_nearestToAsk_19 : decode cX4_nearestToAsk 19 = .ok (.iload 5, 2) := by decide +kernel
theorem dX4_nearestToAsk_21 : decode cX4_nearestToAsk 21 = .ok (.iaload, 1) := by decide +kernel
theorem dX4_nearestToAsk_22 : decode cX4_nearestToAsk 22 = .ok (.ifCond .le 21, 3) := by decide +kernel
theorem dX4_nearestToAsk_25 : decode cX4_nearestToAsk 25 = .ok (.aload_n 0, 1) := by decide +kernel
theorem dX4_nearestToAsk_26 : decode cX4_nearestToAsk 26 = .ok (.getfield 15, 3) := by decide +kernel
theorem dX4_nearestToAsk_29 : decode cX4_nearestToAsk 29 = .ok (.iload_n 3, 1) := by decide +kernel
theorem dX4_nearestToAsk_30 : decode cX4_nearestToAsk 30 = .ok (.iaload, 1) := by decide +kernel
theorem dX4_nearestToAsk_31 : decode cX4_nearestToAsk 31 = .ok (.iload 5, 2) := by decide +kernel
theorem dX4_nearestToAsk_33 : decode cX4_nearestToAsk 33 = .ok (.ishr, 1) := by decide +kernel
theorem dX4_nearestToAsk_34 : decode cX4_nearestToAsk 34 = .ok (.iconst 1, 1) := by decide +kernel
theorem dX4_nearestToAsk_35 : decode cX4_nearestToAsk 35 = .ok (.iand, 1) := by decide +kernel
theorem dX4_nearestToAsk_36 : decode cX4_nearestToAsk 36 = .ok (.ifCond .ne 7, 3) := by decide +kernel
theorem dX4_nearestToAsk_39 : decode cX4_nearestToAsk 39 = .ok (.iconst 1, 1) := by decide +kernel
theorem dX4_nearestToAsk_40 : decode cX4_nearestToAsk 40 = .ok (.goto 4, 3) := by decide +kernel
theorem dX4_nearestToAsk_43 : decode cX4_nearestToAsk 43 = .ok (.iconst 0, 1) := by decide +kernel
theorem dX4_nearestToAsk_44 : decode cX4_nearestToAsk 44 = .ok (.istore 6, 2) := by decide +kernel
theorem dX4_nearestToAsk_46 : decode cX4_nearestToAsk 46 = .ok (.iload 6, 2) := by decide +kernel
theorem dX4_nearestToAsk_48 : decode cX4_nearestToAsk 48 = .ok (.ifCond .eq 30, 3) := by decide +kernel
theorem dX4_nearestToAsk_51 : decode cX4_nearestToAsk 51 = .ok (.iload 4, 2) := by decide +kernel
theorem dX4_nearestToAsk_53 : decode cX4_nearestToAsk 53 = .ok (.iconst (-1), 1) := by decide +kernel
theorem dX4_nearestToAsk_54 : decode cX4_nearestToAsk 54 = .ok (.if_icmp .eq 20, 3) := by decide +kernel
theorem dX4_nearestToAsk_57 : decode cX4_nearestToAsk 57 = .ok (.aload_n 1, 1) := by decide +kernel
theorem dX4_nearestToAsk_58 : decode cX4_nearestToAsk 58 = .ok (.iload_n 3, 1) := by decide +kernel
theorem dX4_nearestToAsk_59 : decode cX4_nearestToAsk 59 = .ok (.iload 5, 2) := by decide +kernel
theorem dX4_nearestToAsk_61 : decode cX4_nearestToAsk 61 = .ok (.invokevirtual 41, 3) := by decide +kernel
theorem dX4_nearestToAsk_64 : decode cX4_nearestToAsk 64 = .ok (.aload_n 1, 1) := by decide +kernel
theorem dX4_nearestToAsk_65 : decode cX4_nearestToAsk 65 = .ok (.iload_n 3, 1) := by decide +kernel
theorem dX4_nearestToAsk_66 : decode cX4_nearestToAsk 66 = .ok (.iload 4, 2) := by decide +kernel
theorem dX4_nearestToAsk_68 : decode cX4_nearestToAsk 68 = .ok (.invokevirtual 41, 3) := by decide +kernel
theorem dX4_nearestToAsk_71 : decode cX4_nearestToAsk 71 = .ok (.if_icmp .ge 7, 3) := by decide +kernel
theorem dX4_nearestToAsk_74 : decode cX4_nearestToAsk 74 = .ok (.iload 5, 2) := by decide +kernel
theorem dX4_nearestToAsk_76 : decode cX4_nearestToAsk 76 = .ok (.istore 4, 2) := by decide +kernel
theorem dX4_nearestToAsk_78 : decode cX4_nearestToAsk 78 = .ok (.iinc 5 2, 3) := by decide +kernel
theorem dX4_nearestToAsk_81 : decode cX4_nearestToAsk 81 = .ok (.goto (-75), 3) := by decide +kernel
theorem dX4_nearestToAsk_84 : decode cX4_nearestToAsk 84 = .ok (.iload 4, 2) := by decide +kernel
theorem dX4_nearestToAsk_86 : decode cX4_nearestToAsk 86 = .ok (.ireturn, 1) := by decide +kernel
theorem dX4_ask_0 : decode cX4_ask 0 = .ok (.aload_n 0, 1) := by decide +kernel
theorem dX4_ask_1 : decode cX4_ask 1 = .ok (.getfield 9, 3) := by decide +kernel
theorem dX4_ask_4 : decode cX4_ask 4 = .ok (.iload_n 3, 1) := by decide +kernel
theorem dX4_ask_5 : decode cX4_ask 5 = .ok (.iaload, 1) := by decide +kernel
theorem dX4_ask_6 : decode cX4_ask 6 = .ok (.istore 4, 2) := by decide +kernel
theorem dX4_ask_8 : decode cX4_ask 8 = .ok (.iload 4, 2) := by decide +kernel
theorem dX4_ask_10 : decode cX4_ask 10 = .ok (.iconst (-1), 1) := by decide +kernel
theorem dX4_ask_11 : decode cX4_ask 11 = .ok (.if_icmp .ne 12, 3) := by decide +kernel
theorem dX4_ask_14 : decode cX4_ask 14 = .ok (.aload_n 0, 1) := by decide +kernel
theorem dX4_ask_15 : decode cX4_ask 15 = .ok (.iload_n 2, 1) := by decide +kernel
theorem dX4_ask_16 : decode cX4_ask 16 = .ok (.iload_n 3, 1) := by decide +kernel
theorem dX4_ask_17 : decode cX4_ask 17 = .ok (.invokevirtual 45, 3) := by decide +kernel
theorem dX4_ask_20 : decode cX4_ask 20 = .ok (.goto 56, 3) := by decide +kernel
theorem dX4_ask_23 : decode cX4_ask 23 = .ok (.aload_n 1, 1) := by decide +kernel
theorem dX4_ask_24 : decode cX4_ask 24 = .ok (.iload_n 3, 1) := by decide +kernel
theorem dX4_ask_25 : decode cX4_ask 25 = .ok (.iload_n 2, 1) := by decide +kernel
theorem dX4_ask_26 : decode cX4_ask 26 = .ok (.iload 4, 2) := by decide +kernel
theorem dX4_ask_28 : decode cX4_ask 28 = .ok (.invokestatic 49, 3) := by decide +kernel
theorem dX4_ask_31 : decode cX4_ask 31 = .ok (.ifCond .eq 33, 3) := by decide +kernel
theorem dX4_ask_34 : decode cX4_ask 34 = .ok (.aload_n 0, 1) := by decide +kernel
theorem dX4_ask_35 : decode cX4_ask 35 = .ok (.getfield 9, 3) := by decide +kernel
theorem dX4_ask_38 : decode cX4_ask 38 = .ok (.iload 4, 2) := by decide +kernel
theorem dX4_ask_40 : decode cX4_ask 40 = .ok (.iconst (-1), 1) := by decide +kernel
theorem dX4_ask_41 : decode cX4_ask 41 = .ok (.iastore, 1) := by decide +kernel
theorem dX4_ask_42 : decode cX4_ask 42 = .ok (.aload_n 0, 1) := by decide +kernel
theorem dX4_ask_43 : decode cX4_ask 43 = .ok (.getfield 15, 3) := by decide +kernel
theorem dX4_ask_46 : decode cX4_ask 46 = .ok (.iload 4, 2) := by decide +kernel
theorem dX4_ask_48 : decode cX4_ask 48 = .ok (.dup2, 1) := by decide +kernel
theorem dX4_ask_49 : decode cX4_ask 49 = .ok (.iaload, 1) := by decide +kernel
theorem dX4_ask_50 : decode cX4_ask 50 = .ok (.iconst 1, 1) := by decide +kernel
theorem dX4_ask_51 : decode cX4_ask 51 = .ok (.iload_n 3, 1) := by decide +kernel
theorem dX4_ask_52 : decode cX4_ask 52 = .ok (.ishl, 1) := by decide +kernel
theorem dX4_ask_53 : decode cX4_ask 53 = .ok (.ior, 1) := by decide +kernel
theorem dX4_ask_54 : decode cX4_ask 54 = .ok (.iastore, 1) := by decide +kernel
theorem dX4_ask_55 : decode cX4_ask 55 = .ok (.aload_n 0, 1) := by decide +kernel
theorem dX4_ask_56 : decode cX4_ask 56 = .ok (.iload_n 2, 1) := by decide +kernel
theorem dX4_ask_57 : decode cX4_ask 57 = .ok (.iload_n 3, 1) := by decide +kernel
theorem dX4_ask_58 : decode cX4_ask 58 = .ok (.invokevirtual 45, 3) := by decide +kernel
theorem dX4_ask_61 : decode cX4_ask 61 = .ok (.goto 15, 3) := by decide +kernel
theorem dX4_ask_64 : decode cX4_ask 64 = .ok (.aload_n 0, 1) := by decide +kernel
theorem dX4_ask_65 : decode cX4_ask 65 = .ok (.getfield 15, 3) := by decide +kernel
theorem dX4_ask_68 : decode cX4_ask 68 = .ok (.iload_n 2, 1) := by decide +kernel
theorem dX4_ask_69 : decode cX4_ask 69 = .ok (.dup2, 1) := by decide +kernel
theorem dX4_ask_70 : decode cX4_ask 70 = .ok (.iaload, 1) := by decide +kernel
theorem dX4_ask_71 : decode cX4_ask 71 = .ok (.iconst 1, 1) := by decide +kernel
theorem dX4_ask_72 : decode cX4_ask 72 = .ok (.iload_n 3, 1) := by decide +kernel
theorem dX4_ask_73 : decode cX4_ask 73 = .ok (.ishl, 1) := by decide +kernel
theorem dX4_ask_74 : decode cX4_ask 74 = .ok (.ior, 1) := by decide +kernel
theorem dX4_ask_75 : decode cX4_ask 75 = .ok (.iastore, 1) := by decide +kernel
theorem dX4_ask_76 : decode cX4_ask 76 = .ok (.return_, 1) := by decide +kernel
theorem dX4_pair_0 : decode cX4_pair 0 = .ok (.aload_n 0, 1) := by decide +kernel
theorem dX4_pair_1 : decode cX4_pair 1 = .ok (.getfield 9, 3) := by decide +kernel
theorem dX4_pair_4 : decode cX4_pair 4 = .ok (.iload_n 1, 1) := by decide +kernel
theorem dX4_pair_5 : decode cX4_pair 5 = .ok (.iload_n 2, 1) := by decide +kernel
theorem dX4_pair_6 : decode cX4_pair 6 = .ok (.iastore, 1) := by decide +kernel
theorem dX4_pair_7 : decode cX4_pair 7 = .ok (.aload_n 0, 1) := by decide +kernel
theorem dX4_pair_8 : decode cX4_pair 8 = .ok (.getfield 9, 3) := by decide +kernel
theorem dX4_pair_11 : decode cX4_pair 11 = .ok (.iload_n 2, 1) := by decide +kernel
theorem dX4_pair_12 : decode cX4_pair 12 = .ok (.iload_n 1, 1) := by decide +kernel
theorem dX4_pair_13 : decode cX4_pair 13 = .ok (.iastore, 1) := by decide +kernel
theorem dX4_pair_14 : decode cX4_pair 14 = .ok (.return_, 1) := by decide +kernel
theorem dX4_isNearer_0 : decode cX4_isNearer 0 = .ok (.aload_n 0, 1) := by decide +kernel
theorem dX4_isNearer_1 : decode cX4_isNearer 1 = .ok (.iload_n 1, 1) := by decide +kernel
theorem dX4_isNearer_2 : decode cX4_isNearer 2 = .ok (.iload_n 2, 1) := by decide +kernel
theorem dX4_isNearer_3 : decode cX4_isNearer 3 = .ok (.invokevirtual 41, 3) := by decide +kernel
theorem dX4_isNearer_6 : decode cX4_isNearer 6 = .ok (.istore 4, 2) := by decide +kernel
theorem dX4_isNearer_8 : decode cX4_isNearer 8 = .ok (.aload_n 0, 1) := by decide +kernel
theorem dX4_isNearer_9 : decode cX4_isNearer 9 = .ok (.iload_n 1, 1) := by decide +kernel
theorem dX4_isNearer_10 : decode cX4_isNearer 10 = .ok (.iload_n 3, 1) := by decide +kernel
theorem dX4_isNearer_11 : decode cX4_isNearer 11 = .ok (.invokevirtual 41, 3) := by decide +kernel
theorem dX4_isNearer_14 : decode cX4_isNearer 14 = .ok (.istore 5, 2) := by decide +kernel
theorem dX4_isNearer_16 : decode cX4_isNearer 16 = .ok (.iload 4, 2) := by decide +kernel
theorem dX4_isNearer_18 : decode cX4_isNearer 18 = .ok (.iload 5, 2) := by decide +kernel
theorem dX4_isNearer_20 : decode cX4_isNearer 20 = .ok (.if_icmp .lt 15, 3) := by decide +kernel
theorem dX4_isNearer_23 : decode cX4_isNearer 23 = .ok (.iload 4, 2) := by decide +kernel
theorem dX4_isNearer_25 : decode cX4_isNearer 25 = .ok (.iload 5, 2) := by decide +kernel
theorem dX4_isNearer_27 : decode cX4_isNearer 27 = .ok (.if_icmp .ne 12, 3) := by decide +kernel
theorem dX4_isNearer_30 : decode cX4_isNearer 30 = .ok (.iload_n 2, 1) := by decide +kernel
theorem dX4_isNearer_31 : decode cX4_isNearer 31 = .ok (.iload_n 3, 1) := by decide +kernel
theorem dX4_isNearer_32 : decode cX4_isNearer 32 = .ok (.if_icmp .ge 7, 3) := by decide +kernel
theorem dX4_isNearer_35 : decode cX4_isNearer 35 = .ok (.iconst 1, 1) := by decide +kernel
theorem dX4_isNearer_36 : decode cX4_isNearer 36 = .ok (.goto 4, 3) := by decide +kernel
theorem dX4_isNearer_39 : decode cX4_isNearer 39 = .ok (.iconst 0, 1) := by decide +kernel
theorem dX4_isNearer_40 : decode cX4_isNearer 40 = .ok (.ireturn, 1) := by decide +kernel
theorem dX5_init_0 : decode cX5_init 0 = .ok (.aload_n 0, 1) := by decide +kernel
theorem dX5_init_1 : decode cX5_init 1 = .ok (.invokespecial 3, 3) := by decide +kernel
theorem dX5_init_4 : decode cX5_init 4 = .ok (.aload_n 0, 1) := by decide +kernel
theorem dX5_init_5 : decode cX5_init 5 = .ok (.bipush 20, 2) := by decide +kernel
theorem dX5_init_7 : decode cX5_init 7 = .ok (.anewarray 9, 3) := by decide +kernel
theorem dX5_init_10 : decode cX5_init 10 = .ok (.putfield 11, 3) := by decide +kernel
theorem dX5_init_13 : decode cX5_init 13 = .ok (.iconst 0, 1) := by decide +kernel
theorem dX5_init_14 : decode cX5_init 14 = .ok (.istore_n 1, 1) := by decide +kernel
theorem dX5_init_15 : decode cX5_init 15 = .ok (.iload_n 1, 1) := by decide +kernel
theorem dX5_init_16 : decode cX5_init 16 = .ok (.bipush 20, 2) := by decide +kernel
theorem dX5_init_18 : decode cX5_init 18 = .ok (.if_icmp .ge 22, 3) := by decide +kernel
theorem dX5_init_21 : decode cX5_init 21 = .ok (.aload_n 0, 1) := by decide +kernel
theorem dX5_init_22 : decode cX5_init 22 = .ok (.getfield 11, 3) := by decide +kernel
theorem dX5_init_25 : decode cX5_init 25 = .ok (.iload_n 1, 1) := by decide +kernel
theorem dX5_init_26 : decode cX5_init 26 = .ok (.new 9, 3) := by decide +kernel
theorem dX5_init_29 : decode cX5_init 29 = .ok (.dup, 1) := by decide +kernel
theorem dX5_init_30 : decode cX5_init 30 = .ok (.invokespecial 17, 3) := by decide +kernel
theorem dX5_init_33 : decode cX5_init 33 = .ok (.aastore, 1) := by decide +kernel
theorem dX5_init_34 : decode cX5_init 34 = .ok (.iinc 1 1, 3) := by decide +kernel
theorem dX5_init_37 : decode cX5_init 37 = .ok (.goto (-22), 3) := by decide +kernel
theorem dX5_init_40 : decode cX5_init 40 = .ok (.return_, 1) := by decide +kernel
theorem dX5_clear_0 : decode cX5_clear 0 = .ok (.aload_n 0, 1) := by decide +kernel
theorem dX5_clear_1 : decode cX5_clear 1 = .ok (.iconst 0, 1) := by decide +kernel
theorem dX5_clear_2 : decode cX5_clear 2 = .ok (.putfield 18, 3) := by decide +kernel
theorem dX5_clear_5 : decode cX5_clear 5 = .ok (.aload_n 0, 1) := by decide +kernel
theorem dX5_clear_6 : decode cX5_clear 6 = .ok (.iconst 0, 1) := by decide +kernel
theorem dX5_clear_7 : decode cX5_clear 7 = .ok (.putfield 22, 3) := by decide +kernel
theorem dX5_clear_10 : decode cX5_clear 10 = .ok (.return_, 1) := by decide +kernel
theorem dX5_push_0 : decode cX5_push 0 = .ok (.aload_n 0, 1) := by decide +kernel
theorem dX5_push_1 : decode cX5_push 1 = .ok (.getfield 11, 3) := by decide +kernel
theorem dX5_push_4 : decode cX5_push 4 = .ok (.aload_n 0, 1) := by decide +kernel
theorem dX5_push_5 : decode cX5_push 5 = .ok (.getfield 18, 3) := by decide +kernel
theorem dX5_push_8 : decode cX5_push 8 = .ok (.aaload, 1) := by decide +kernel
theorem dX5_push_9 : decode cX5_push 9 = .ok (.aload_n 1, 1) := by decide +kernel
theorem dX5_push_10 : decode cX5_push 10 = .ok (.invokevirtual 25, 3) := by decide +kernel
theorem dX5_push_13 : decode cX5_push 13 = .ok (.aload_n 0, 1) := by decide +kernel
theorem dX5_push_14 : decode cX5_push 14 = .ok (.aload_n 0, 1) := by decide +kernel
theorem dX5_push_15 : decode cX5_push 15 = .ok (.getfield 18, 3) := by decide +kernel
theorem dX5_push_18 : decode cX5_push 18 = .ok (.iconst 1, 1) := by decide +kernel
theorem dX5_push_19 : decode cX5_push 19 = .ok (.iadd, 1) := by decide +kernel
theorem dX5_push_20 : decode cX5_push 20 = .ok (.bipush 20, 2) := by decide +kernel
theorem dX5_push_22 : decode cX5_push 22 = .ok (.if_icmp .ge 12, 3) := by decide +kernel
theorem dX5_push_25 : decode cX5_push 25 = .ok (.aload_n 0, 1) := by decide +kernel
theorem dX5_push_26 : decode cX5_push 26 = .ok (.getfield 18, 3) := by decide +kernel
theorem dX5_push_29 : decode cX5_push 29 = .ok (.iconst 1, 1) := by decide +kernel
theorem dX5_push_30 : decode cX5_push 30 = .ok (.iadd, 1) := by decide +kernel
theorem dX5_push_31 : decode cX5_push 31 = .ok (.goto 4, 3) := by decide +kernel
theorem dX5_push_34 : decode cX5_push 34 = .ok (.iconst 0, 1) := by decide +kernel
theorem dX5_push_35 : decode cX5_push 35 = .ok (.putfield 18, 3) := by decide +kernel
theorem dX5_push_38 : decode cX5_push 38 = .ok (.aload_n 0, 1) := by decide +kernel
theorem dX5_push_39 : decode cX5_push 39 = .ok (.aload_n 0, 1) := by decide +kernel
theorem dX5_push_40 : decode cX5_push 40 = .ok (.getfield 22, 3) := by decide +kernel
theorem dX5_push_43 : decode cX5_push 43 = .ok (.iconst 1, 1) := by decide +kernel
theorem dX5_push_44 : decode cX5_push 44 = .ok (.iadd, 1) := by decide +kernel
theorem dX5_push_45 : decode cX5_push 45 = .ok (.bipush 20, 2) := by decide +kernel
theorem dX5_push_47 : decode cX5_push 47 = .ok (.invokestatic 29, 3) := by decide +kernel
theorem dX5_push_50 : decode cX5_push 50 = .ok (.putfield 22, 3) := by decide +kernel
theorem dX5_push_53 : decode cX5_push 53 = .ok (.return_, 1) := by decide +kernel
theorem dX5_pop_0 : decode cX5_pop 0 = .ok (.aload_n 0, 1) := by decide +kernel
theorem dX5_pop_1 : decode cX5_pop 1 = .ok (.getfield 22, 3) := by decide +kernel
theorem dX5_pop_4 : decode cX5_pop 4 = .ok (.ifCond .ne 4, 3) := by decide +kernel
theorem dX5_pop_7 : decode cX5_pop 7 = .ok (.return_, 1) := by decide +kernel
theorem dX5_pop_8 : decode cX5_pop 8 = .ok (.aload_n 0, 1) := by decide +kernel
theorem dX5_pop_9 : decode cX5_pop 9 = .ok (.aload_n 0, 1) := by decide +kernel
theorem dX5_pop_10 : decode cX5_pop 10 = .ok (.getfield 18, 3) := by decide +kernel
theorem dX5_pop_13 : decode cX5_pop 13 = .ok (.ifCond .le 12, 3) := by decide +kernel
theorem dX5_pop_16 : decode cX5_pop 16 = .ok (.aload_n 0, 1) := by decide +kernel
theorem dX5_pop_17 : decode cX5_pop 17 = .ok (.getfield 18, 3) := by decide +kernel
theorem dX5_pop_20 : decode cX5_pop 20 = .ok (.iconst 1, 1) := by decide +kernel
theorem dX5_pop_21 : decode cX5_pop 21 = .ok (.isub, 1) := by decide +kernel
theorem dX5_pop_22 : decode cX5_pop 22 = .ok (.goto 5, 3) := by decide +kernel
theorem dX5_pop_25 : decode cX5_pop 25 = .ok (.bipush 19, 2) := by decide +kernel
theorem dX5_pop_27 : decode cX5_pop 27 = .ok (.putfield 18, 3) := by decide +kernel
theorem dX5_pop_30 : decode cX5_pop 30 = .ok (.aload_n 0, 1) := by decide +kernel
theorem dX5_pop_31 : decode cX5_pop 31 = .ok (.dup, 1) := by decide +kernel
theorem dX5_pop_32 : decode cX5_pop 32 = .ok (.getfield 22, 3) := by decide +kernel
theorem dX5_pop_35 : decode cX5_pop 35 = .ok (.iconst 1, 1) := by decide +kernel
theorem dX5_pop_36 : decode cX5_pop 36 = .ok (.isub, 1) := by decide +kernel
theorem dX5_pop_37 : decode cX5_pop 37 = .ok (.putfield 22, 3) := by decide +kernel
theorem dX5_pop_40 : decode cX5_pop 40 = .ok (.aload_n 1, 1) := by decide +kernel
theorem dX5_pop_41 : decode cX5_pop 41 = .ok (.aload_n 0, 1) := by decide +kernel
theorem dX5_pop_42 : decode cX5_pop 42 = .ok (.getfield 11, 3) := by decide +kernel
theorem dX5_pop_45 : decode cX5_pop 45 = .ok (.aload_n 0, 1) := by decide +kernel
theorem dX5_pop_46 : decode cX5_pop 46 = .ok (.getfield 18, 3) := by decide +kernel
theorem dX5_pop_49 : decode cX5_pop 49 = .ok (.aaload, 1) := by decide +kernel
theorem dX5_pop_50 : decode cX5_pop 50 = .ok (.invokevirtual 25, 3) := by decide +kernel
theorem dX5_pop_53 : decode cX5_pop 53 = .ok (.return_, 1) := by decide +kernel
theorem dX6_init_0 : decode cX6_init 0 = .ok (.aload_n 0, 1) := by decide +kernel
theorem dX6_init_1 : decode cX6_init 1 = .ok (.invokespecial 3, 3) := by decide +kernel
theorem dX6_init_4 : decode cX6_init 4 = .ok (.aload_n 0, 1) := by decide +kernel
theorem dX6_init_5 : decode cX6_init 5 = .ok (.iconst 0, 1) := by decide +kernel
theorem dX6_init_6 : decode cX6_init 6 = .ok (.newarray .int, 2) := by decide +kernel
theorem dX6_init_8 : decode cX6_init 8 = .ok (.putfield 9, 3) := by decide +kernel
theorem dX6_init_11 : decode cX6_init 11 = .ok (.return_, 1) := by decide +kernel
theorem dX6_read_0 : decode cX6_read 0 = .ok (.aload_n 0, 1) := by decide +kernel
theorem dX6_read_1 : decode cX6_read 1 = .ok (.aload_n 1, 1) := by decide +kernel
theorem dX6_read_2 : decode cX6_read 2 = .ok (.putfield 9, 3) := by decide +kernel
theorem dX6_read_5 : decode cX6_read 5 = .ok (.aload_n 0, 1) := by decide +kernel
theorem dX6_read_6 : decode cX6_read 6 = .ok (.iload_n 2, 1) := by decide +kernel
theorem dX6_read_7 : decode cX6_read 7 = .ok (.aload_n 1, 1) := by decide +kernel
theorem dX6_read_8 : decode cX6_read 8 = .ok (.arraylength, 1) := by decide +kernel
theorem dX6_read_9 : decode cX6_read 9 = .ok (.invokestatic 15, 3) := by decide +kernel
theorem dX6_read_12 : decode cX6_read 12 = .ok (.putfield 21, 3) := by decide +kernel
theorem dX6_read_15 : decode cX6_read 15 = .ok (.aload_n 0, 1) := by decide +kernel
theorem dX6_read_16 : decode cX6_read 16 = .ok (.iconst 0, 1) := by decide +kernel
theorem dX6_read_17 : decode cX6_read 17 = .ok (.putfield 25, 3) := by decide +kernel
theorem dX6_read_20 : decode cX6_read 20 = .ok (.aload_n 0, 1) := by decide +kernel
theorem dX6_read_21 : decode cX6_read 21 = .ok (.iconst 0, 1) := by decide +kernel
theorem dX6_read_22 : decode cX6_read 22 = .ok (.putfield 28, 3) := by decide +kernel
theorem dX6_read_25 : decode cX6_read 25 = .ok (.aload_n 0, 1) := by decide +kernel
theorem dX6_read_26 : decode cX6_read 26 = .ok (.iconst (-1), 1) := by decide +kernel
theorem dX6_read_27 : decode cX6_read 27 = .ok (.putfield 31, 3) := by decide +kernel
theorem dX6_read_30 : decode cX6_read 30 = .ok (.aload_n 0, 1) := by decide +kernel
theorem dX6_read_31 : decode cX6_read 31 = .ok (.iconst 0, 1) := by decide +kernel
theorem dX6_read_32 : decode cX6_read 32 = .ok (.putfield 34, 3) := by decide +kernel
theorem dX6_read_35 : decode cX6_read 35 = .ok (.aload_n 0, 1) := by decide +kernel
theorem dX6_read_36 : decode cX6_read 36 = .ok (.iconst 0, 1) := by decide +kernel
theorem dX6_read_37 : decode cX6_read 37 = .ok (.putfield 38, 3) := by decide +kernel
theorem dX6_read_40 : decode cX6_read 40 = .ok (.aload_n 3, 1) := by decide +kernel
theorem dX6_read_41 : decode cX6_read 41 = .ok (.invokevirtual 41, 3) := by decide +kernel
theorem dX6_read_44 : decode cX6_read 44 = .ok (.aload_n 0, 1) := by decide +kernel
theorem dX6_read_45 : decode cX6_read 45 = .ok (.invokevirtual 46, 3) := by decide +kernel
theorem dX6_read_48 : decode cX6_read 48 = .ok (.iconst 0, 1) := by decide +kernel
theorem dX6_read_49 : decode cX6_read 49 = .ok (.istore 4, 2) := by decide +kernel
theorem dX6_read_51 : decode cX6_read 51 = .ok (.iload 4, 2) := by decide +kernel
theorem dX6_read_53 : decode cX6_read 53 = .ok (.sipush 230, 3) := by decide +kernel
theorem dX6_read_56 : decode cX6_read 56 = .ok (.if_icmp .ge 36, 3) := by decide +kernel
theorem dX6_read_59 : decode cX6_read 59 = .ok (.aload_n 0, 1) := by decide +kernel
theorem dX6_read_60 : decode cX6_read 60 = .ok (.getfield 25, 3) := by decide +kernel
theorem dX6_read_63 : decode cX6_read 63 = .ok (.aload_n 0, 1) := by decide +kernel
theorem dX6_read_64 : decode cX6_read 64 = .ok (.getfield 21, 3) := by decide +kernel
theorem dX6_read_67 : decode cX6_read 67 = .ok (.if_icmp .ge 25, 3) := by decide +kernel
theorem dX6_read_70 : decode cX6_read 70 = .ok (.aload_n 0, 1) := by decide +kernel
theorem dX6_read_71 : decode cX6_read 71 = .ok (.getfield 28, 3) := by decide +kernel
theorem dX6_read_74 : decode cX6_read 74 = .ok (.ifCond .ne 18, 3) := by decide +kernel
theorem dX6_read_77 : decode cX6_read 77 = .ok (.aload_n 0, 1) := by decide +kernel
theorem dX6_read_78 : decode cX6_read 78 = .ok (.aload_n 3, 1) := by decide +kernel
theorem dX6_read_79 : decode cX6_read 79 = .ok (.invokevirtual 49, 3) := by decide +kernel
theorem dX6_read_82 : decode cX6_read 82 = .ok (.aload_n 0, 1) := by decide +kernel
theorem dX6_read_83 : decode cX6_read 83 = .ok (.invokevirtual 46, 3) := by decide +kernel
theorem dX6_read_86 : decode cX6_read 86 = .ok (.iinc 4 1, 3) := by decide +kernel
theorem dX6_read_89 : decode cX6_read 89 = .ok (.goto (-38), 3) := by decide +kernel
theorem dX6_read_92 : decode cX6_read 92 = .ok (.aload_n 0, 1) := by decide +kernel
theorem dX6_read_93 : decode cX6_read 93 = .ok (.getfield 28, 3) := by decide +kernel
theorem dX6_read_96 : decode cX6_read 96 = .ok (.ireturn, 1) := by decide +kernel
theorem dX6_readClause_0 : decode cX6_readClause 0 = .ok (.aload_n 0, 1) := by decide +kernel
theorem dX6_readClause_1 : decode cX6_readClause 1 = .ok (.getfield 9, 3) := by decide +kernel
theorem dX6_readClause_4 : decode cX6_readClause 4 = .ok (.aload_n 0, 1) := by decide +kernel
theorem dX6_readClause_5 : decode cX6_readClause 5 = .ok (.getfield 25, 3) := by decide +kernel
theorem dX6_readClause_8 : decode cX6_readClause 8 = .ok (.iaload, 1) := by decide +kernel
theorem dX6_readClause_9 : decode cX6_readClause 9 = .ok (.istore_n 2, 1) := by decide +kernel
theorem dX6_readClause_10 : decode cX6_readClause 10 = .ok (.iload_n 2, 1) := by decide +kernel
theorem dX6_readClause_11 : decode cX6_readClause 11 = .ok (.bipush 98, 2) := by decide +kernel
theorem dX6_readClause_13 : decode cX6_readClause 13 = .ok (.if_icmp .eq 20, 3) := by decide +kernel
theorem dX6_readClause_16 : decode cX6_readClause 16 = .ok (.aload_n 1, 1) := by decide +kernel
theorem dX6_readClause_17 : decode cX6_readClause 17 = .ok (.getfield 53, 3) := by decide +kernel
theorem dX6_readClause_20 : decode cX6_readClause 20 = .ok (.ifCond .ne 13, 3) := by decide +kernel
theorem dX6_readClause_23 : decode cX6_readClause 23 = .ok (.aload_n 0, 1) := by decide +kernel
theorem dX6_readClause_24 : decode cX6_readClause 24 = .ok (.iconst 1, 1) := by decide +kernel
theorem dX6_readClause_25 : decode cX6_readClause 25 = .ok (.aload_n 0, 1) := by decide +kernel
theorem dX6_readClause_26 : decode cX6_readClause 26 = .ok (.getfield 25, 3) := by decide +kernel
theorem dX6_readClause_29 : decode cX6_readClause 29 = .ok (.invokevirtual 56, 3) := by decide +kernel
theorem dX6_readClause_32 : decode cX6_readClause 32 = .ok (.return_, 1) := by decide +kernel
theorem dX6_readClause_33 : decode cX6_readClause 33 = .ok (.iload_n 2, 1) := by decide +kernel
theorem dX6_readClause_34 : decode cX6_readClause 34 = .ok (.lookupswitch 74 #[(98, 42), (103, 66), (104, 50), (109, 58)], 42) := by decide +kernel
theorem dX6_readClause_76 : decode cX6_readClause 76 = .ok (.aload_n 0, 1) := by decide +kernel
theorem dX6_readClause_77 : decode cX6_readClause 77 = .ok (.aload_n 1, 1) := by decide +kernel
theorem dX6_readClause_78 : decode cX6_readClause 78 = .ok (.invokevirtual 60, 3) := by decide +kernel
theorem dX6_readClause_81 : decode cX6_readClause 81 = .ok (.goto 36, 3) := by decide +kernel
theorem dX6_readClause_84 : decode cX6_readClause 84 = .ok (.aload_n 0, 1) := by decide +kernel
theorem dX6_readClause_85 : decode cX6_readClause 85 = .ok (.aload_n 1, 1) := by decide +kernel
theorem dX6_readClause_86 : decode cX6_readClause 86 = .ok (.invokevirtual 63, 3) := by decide +kernel
theorem dX6_readClause_89 : decode cX6_readClause 89 = .ok (.goto 28, 3) := by decide +kernel
theorem dX6_readClause_92 : decode cX6_readClause 92 = .ok (.aload_n 0, 1) := by decide +kernel
theorem dX6_readClause_93 : decode cX6_readClause 93 = .ok (.aload_n 1, 1) := by decide +kernel
theorem dX6_readClause_94 : decode cX6_readClause 94 = .ok (.invokevirtual 66, 3) := by decide +kernel
theorem dX6_readClause_97 : decode cX6_readClause 97 = .ok (.goto 20, 3) := by decide +kernel
theorem dX6_readClause_100 : decode cX6_readClause 100 = .ok (.aload_n 0, 1) := by decide +kernel
theorem dX6_readClause_101 : decode cX6_readClause 101 = .ok (.aload_n 1, 1) := by decide +kernel
theorem dX6_readClause_102 : decode cX6_readClause 102 = .ok (.invokevirtual 69, 3) := by decide +kernel
theorem dX6_readClause_105 : decode cX6_readClause 105 = .ok (.goto 12, 3) := by decide +kernel
theorem dX6_readClause_108 : decode cX6_readClause 108 = .ok (.aload_n 0, 1) := by decide +kernel
theorem dX6_readClause_109 : decode cX6_readClause 109 = .ok (.iconst 1, 1) := by decide +kernel
theorem dX6_readClause_110 : decode cX6_readClause 110 = .ok (.aload_n 0, 1) := by decide +kernel
theorem dX6_readClause_111 : decode cX6_readClause 111 = .ok (.getfield 25, 3) := by decide +kernel
theorem dX6_readClause_114 : decode cX6_readClause 114 = .ok (.invokevirtual 56, 3) := by decide +kernel
theorem dX6_readClause_117 : decode cX6_readClause 117 = .ok (.return_, 1) := by decide +kernel
theorem dX6_readCells_0 : decode cX6_readCells 0 = .ok (.aload_n 0, 1) := by decide +kernel
theorem dX6_readCells_1 : decode cX6_readCells 1 = .ok (.aload_n 1, 1) := by decide +kernel
theorem dX6_readCells_2 : decode cX6_readCells 2 = .ok (.getfield 53, 3) := by decide +kernel
theorem dX6_readCells_5 : decode cX6_readCells 5 = .ok (.ifCond .le 7, 3) := by decide +kernel
theorem dX6_readCells_8 : decode cX6_readCells 8 = .ok (.iconst 1, 1) := by decide +kernel
theorem dX6_readCells_9 : decode cX6_readCells 9 = .ok (.goto 4, 3) := by decide +kernel
theorem dX6_readCells_12 : decode cX6_readCells 12 = .ok (.iconst 0, 1) := by decide +kernel
theorem dX6_readCells_13 : decode cX6_readCells 13 = .ok (.invokevirtual 72, 3) := by decide +kernel
theorem dX6_readCells_16 : decode cX6_readCells 16 = .ok (.aload_n 0, 1) := by decide +kernel
theorem dX6_readCells_17 : decode cX6_readCells 17 = .ok (.iconst 2, 1) := by decide +kernel
theorem dX6_readCells_18 : decode cX6_readCells 18 = .ok (.bipush 30, 2) := by decide +kernel
theorem dX6_readCells_20 : decode cX6_readCells 20 = .ok (.invokevirtual 76, 3) := by decide +kernel
theorem dX6_readCells_23 : decode cX6_readCells 23 = .ok (.istore_n 2, 1) := by decide +kernel
theorem dX6_readCells_24 : decode cX6_readCells 24 = .ok (.aload_n 0, 1) := by decide +kernel
theorem dX6_readCells_25 : decode cX6_readCells 25 = .ok (.iconst 0, 1) := by decide +kernel
theorem dX6_readCells_26 : decode cX6_readCells 26 = .ok (.bipush 20, 2) := by decide +kernel
theorem dX6_readCells_28 : decode cX6_readCells 28 = .ok (.invokevirtual 76, 3) := by decide +kernel
theorem dX6_readCells_31 : decode cX6_readCells 31 = .ok (.istore_n 3, 1) := by decide +kernel
theorem dX6_readCells_32 : decode cX6_readCells 32 = .ok (.aload_n 0, 1) := by decide +kernel
theorem dX6_readCells_33 : decode cX6_readCells 33 = .ok (.iconst 0, 1) := by decide +kernel
theorem dX6_readCells_34 : decode cX6_readCells 34 = .ok (.bipush 10, 2) := by decide +kernel
theorem dX6_readCells_36 : decode cX6_readCells 36 = .ok (.invokevirtual 76, 3) := by decide +kernel
theorem dX6_readCells_39 : decode cX6_readCells 39 = .ok (.istore 4, 2) := by decide +kernel
theorem dX6_readCells_41 : decode cX6_readCells 41 = .ok (.aload_n 0, 1) := by decide +kernel
theorem dX6_readCells_42 : decode cX6_readCells 42 = .ok (.invokevirtual 79, 3) := by decide +kernel
theorem dX6_readCells_45 : decode cX6_readCells 45 = .ok (.aload_n 0, 1) := by decide +kernel
theorem dX6_readCells_46 : decode cX6_readCells 46 = .ok (.getfield 28, 3) := by decide +kernel
theorem dX6_readCells_49 : decode cX6_readCells 49 = .ok (.ifCond .ne 21, 3) := by decide +kernel
theorem dX6_readCells_52 : decode cX6_readCells 52 = .ok (.aload_n 1, 1) := by decide +kernel
theorem dX6_readCells_53 : decode cX6_readCells 53 = .ok (.iload_n 2, 1) := by decide +kernel
theorem dX6_readCells_54 : decode cX6_readCells 54 = .ok (.putfield 53, 3) := by decide +kernel
theorem dX6_readCells_57 : decode cX6_readCells 57 = .ok (.aload_n 1, 1) := by decide +kernel
theorem dX6_readCells_58 : decode cX6_readCells 58 = .ok (.iload_n 3, 1) := by decide +kernel
theorem dX6_readCells_59 : decode cX6_readCells 59 = .ok (.putfield 82, 3) := by decide +kernel
theorem dX6_readCells_62 : decode cX6_readCells 62 = .ok (.aload_n 1, 1) := by decide +kernel
theorem dX6_readCells_63 : decode cX6_readCells 63 = .ok (.iload 4, 2) := by decide +kernel
theorem dX6_readCells_65 : decode cX6_readCells 65 = .ok (.iconst 5, 1) := by decide +kernel
theorem dX6_readCells_66 : decode cX6_readCells 66 = .ok (.isub, 1) := by decide +kernel
theorem dX6_readCells_67 : decode cX6_readCells 67 = .ok (.putfield 85, 3) := by decide +kernel
theorem dX6_readCells_70 : decode cX6_readCells 70 = .ok (.return_, 1) := by decide +kernel
theorem dX6_readHouse_0 : decode cX6_readHouse 0 = .ok (.aload_n 0, 1) := by decide +kernel
theorem dX6_readHouse_1 : decode cX6_readHouse 1 = .ok (.aload_n 1, 1) := by decide +kernel
theorem dX6_readHouse_2 : decode cX6_readHouse 2 = .ok (.getfield 88, 3) := by decide +kernel
theorem dX6_readHouse_5 : decode cX6_readHouse 5 = .ok (.bipush 8, 2) := by decide +kernel
theorem dX6_readHouse_7 : decode cX6_readHouse 7 = .ok (.if_icmp .lt 7, 3) := by decide +kernel
theorem dX6_readHouse_10 : decode cX6_readHouse 10 = .ok (.iconst 1, 1) := by decide +kernel
theorem dX6_readHouse_11 : decode cX6_readHouse 11 = .ok (.goto 4, 3) := by decide +kernel
theorem dX6_readHouse_14 : decode cX6_readHouse 14 = .ok (.iconst 0, 1) := by decide +kernel
theorem dX6_readHouse_15 : decode cX6_readHouse 15 = .ok (.invokevirtual 72, 3) := by decide +kernel
theorem dX6_readHouse_18 : decode cX6_readHouse 18 = .ok (.aload_n 0, 1) := by decide +kernel
theorem dX6_readHouse_19 : decode cX6_readHouse 19 = .ok (.iconst 0, 1) := by decide +kernel
theorem dX6_readHouse_20 : decode cX6_readHouse 20 = .ok (.aload_n 1, 1) := by decide +kernel
theorem dX6_readHouse_21 : decode cX6_readHouse 21 = .ok (.getfield 53, 3) := by decide +kernel
theorem dX6_readHouse_24 : decode cX6_readHouse 24 = .ok (.iconst 1, 1) := by decide +kernel
theorem dX6_readHouse_25 : decode cX6_readHouse 25 = .ok (.isub, 1) := by decide +kernel
theorem dX6_readHouse_26 : decode cX6_readHouse 26 = .ok (.invokevirtual 76, 3) := by decide +kernel
theorem dX6_readHouse_29 : decode cX6_readHouse 29 = .ok (.istore_n 2, 1) := by decide +kernel
theorem dX6_readHouse_30 : decode cX6_readHouse 30 = .ok (.aload_n 1, 1) := by decide +kernel
theorem dX6_readHouse_31 : decode cX6_readHouse 31 = .ok (.iload_n 2, 1) := by decide +kernel
theorem dX6_readHouse_32 : decode cX6_readHouse 32 = .ok (.invokevirtual 91, 3) := by decide +kernel
theorem dX6_readHouse_35 : decode cX6_readHouse 35 = .ok (.iconst (-1), 1) := by decide +kernel
theorem dX6_readHouse_36 : decode cX6_readHouse 36 = .ok (.if_icmp .eq 12, 3) := by decide +kernel
theorem dX6_readHouse_39 : decode cX6_readHouse 39 = .ok (.aload_n 0, 1) := by decide +kernel
theorem dX6_readHouse_40 : decode cX6_readHouse 40 = .ok (.iconst 4, 1) := by decide +kernel
theorem dX6_readHouse_41 : decode cX6_readHouse 41 = .ok (.aload_n 0, 1) := by decide +kernel
theorem dX6_readHouse_42 : decode cX6_readHouse 42 = .ok (.getfield 95, 3) := by decide +kernel
theorem dX6_readHouse_45 : decode cX6_readHouse 45 = .ok (.invokevirtual 56, 3) := by decide +kernel
theorem dX6_readHouse_48 : decode cX6_readHouse 48 = .ok (.aload_n 0, 1) := by decide +kernel
theorem dX6_readHouse_49 : decode cX6_readHouse 49 = .ok (.iconst 1, 1) := by decide +kernel
theorem dX6_readHouse_50 : decode cX6_readHouse 50 = .ok (.bipush 9, 2) := by decide +kernel
theorem dX6_readHouse_52 : decode cX6_readHouse 52 = .ok (.invokevirtual 76, 3) := by decide +kernel
theorem dX6_readHouse_55 : decode cX6_readHouse 55 = .ok (.istore_n 3, 1) := by decide +kernel
theorem dX6_readHouse_56 : decode cX6_readHouse 56 = .ok (.aload_n 0, 1) := by decide +kernel
theorem dX6_readHouse_57 : decode cX6_readHouse 57 = .ok (.iconst 0, 1) := by decide +kernel
theorem dX6_readHouse_58 : decode cX6_readHouse 58 = .ok (.bipush 9, 2) := by decide +kernel
theorem dX6_readHouse_60 : decode cX6_readHouse 60 = .ok (.invokevirtual 76, 3) := by decide +kernel
theorem dX6_readHouse_63 : decode cX6_readHouse 63 = .ok (.istore 4, 2) := by decide +kernel
theorem dX6_readHouse_65 : decode cX6_readHouse 65 = .ok (.aload_n 0, 1) := by decide +kernel
theorem dX6_readHouse_66 : decode cX6_readHouse 66 = .ok (.aload_n 1, 1) := by decide +kernel
theorem dX6_readHouse_67 : decode cX6_readHouse 67 = .ok (.invokevirtual 98, 3) := by decide +kernel
theorem dX6_readHouse_70 : decode cX6_readHouse 70 = .ok (.istore 5, 2) := by decide +kernel
theorem dX6_readHouse_72 : decode cX6_readHouse 72 = .ok (.aload_n 0, 1) := by decide +kernel
theorem dX6_readHouse_73 : decode cX6_readHouse 73 = .ok (.invokevirtual 79, 3) := by decide +kernel
theorem dX6_readHouse_76 : decode cX6_readHouse 76 = .ok (.aload_n 0, 1) := by decide +kernel
theorem dX6_readHouse_77 : decode cX6_readHouse 77 = .ok (.getfield 28, 3) := by decide +kernel
theorem dX6_readHouse_80 : decode cX6_readHouse 80 = .ok (.ifCond .ne 13, 3) := by decide +kernel
theorem dX6_readHouse_83 : decode cX6_readHouse 83 = .ok (.aload_n 1, 1) := by decide +kernel
theorem dX6_readHouse_84 : decode cX6_readHouse 84 = .ok (.iload_n 2, 1) := by decide +kernel
theorem dX6_readHouse_85 : decode cX6_readHouse 85 = .ok (.iload_n 3, 1) := by decide +kernel
theorem dX6_readHouse_86 : decode cX6_readHouse 86 = .ok (.iload 4, 2) := by decide +kernel
theorem dX6_readHouse_88 : decode cX6_readHouse 88 = .ok (.iload 5, 2) := by decide +kernel
theorem dX6_readHouse_90 : decode cX6_readHouse 90 = .ok (.invokevirtual 102, 3) := by decide +kernel
theorem dX6_readHouse_93 : decode cX6_readHouse 93 = .ok (.return_, 1) := by decide +kernel
theorem dX6_readSmoke_0 : decode cX6_readSmoke 0 = .ok (.aload_n 0, 1) := by decide +kernel
theorem dX6_readSmoke_1 : decode cX6_readSmoke 1 = .ok (.aload_n 0, 1) := by decide +kernel
theorem dX6_readSmoke_2 : decode cX6_readSmoke 2 = .ok (.getfield 34, 3) := by decide +kernel
theorem dX6_readSmoke_5 : decode cX6_readSmoke 5 = .ok (.invokevirtual 72, 3) := by decide +kernel
theorem dX6_readSmoke_8 : decode cX6_readSmoke 8 = .ok (.aload_n 0, 1) := by decide +kernel
theorem dX6_readSmoke_9 : decode cX6_readSmoke 9 = .ok (.iconst 0, 1) := by decide +kernel
theorem dX6_readSmoke_10 : decode cX6_readSmoke 10 = .ok (.bipush 9, 2) := by decide +kernel
theorem dX6_readSmoke_12 : decode cX6_readSmoke 12 = .ok (.invokevirtual 76, 3) := by decide +kernel
theorem dX6_readSmoke_15 : decode cX6_readSmoke 15 = .ok (.istore_n 2, 1) := by decide +kernel
theorem dX6_readSmoke_16 : decode cX6_readSmoke 16 = .ok (.aload_n 0, 1) := by decide +kernel
theorem dX6_readSmoke_17 : decode cX6_readSmoke 17 = .ok (.invokevirtual 79, 3) := by decide +kernel
theorem dX6_readSmoke_20 : decode cX6_readSmoke 20 = .ok (.aload_n 0, 1) := by decide +kernel
theorem dX6_readSmoke_21 : decode cX6_readSmoke 21 = .ok (.getfield 28, 3) := by decide +kernel
theorem dX6_readSmoke_24 : decode cX6_readSmoke 24 = .ok (.ifCond .ne 13, 3) := by decide +kernel
theorem dX6_readSmoke_27 : decode cX6_readSmoke 27 = .ok (.aload_n 1, 1) := by decide +kernel
theorem dX6_readSmoke_28 : decode cX6_readSmoke 28 = .ok (.iload_n 2, 1) := by decide +kernel
theorem dX6_readSmoke_29 : decode cX6_readSmoke 29 = .ok (.putfield 106, 3) := by decide +kernel
theorem dX6_readSmoke_32 : decode cX6_readSmoke 32 = .ok (.aload_n 0, 1) := by decide +kernel
theorem dX6_readSmoke_33 : decode cX6_readSmoke 33 = .ok (.iconst 1, 1) := by decide +kernel
theorem dX6_readSmoke_34 : decode cX6_readSmoke 34 = .ok (.putfield 34, 3) := by decide +kernel
theorem dX6_readSmoke_37 : decode cX6_readSmoke 37 = .ok (.return_, 1) := by decide +kernel
theorem dX6_readDamp_0 : decode cX6_readDamp 0 = .ok (.aload_n 0, 1) := by decide +kernel
theorem dX6_readDamp_1 : decode cX6_readDamp 1 = .ok (.aload_n 0, 1) := by decide +kernel
theorem dX6_readDamp_2 : decode cX6_readDamp 2 = .ok (.getfield 38, 3) := by decide +kernel
theorem dX6_readDamp_5 : decode cX6_readDamp 5 = .ok (.invokevirtual 72, 3) := by decide +kernel
theorem dX6_readDamp_8 : decode cX6_readDamp 8 = .ok (.aload_n 0, 1) := by decide +kernel
theorem dX6_readDamp_9 : decode cX6_readDamp 9 = .ok (.iconst 0, 1) := by decide +kernel
theorem dX6_readDamp_10 : decode cX6_readDamp 10 = .ok (.bipush 100, 2) := by decide +kernel
theorem dX6_readDamp_12 : decode cX6_readDamp 12 = .ok (.invokevirtual 76, 3) := by decide +kernel
theorem dX6_readDamp_15 : decode cX6_readDamp 15 = .ok (.istore_n 2, 1) := by decide +kernel
theorem dX6_readDamp_16 : decode cX6_readDamp 16 = .ok (.aload_n 0, 1) := by decide +kernel
theorem dX6_readDamp_17 : decode cX6_readDamp 17 = .ok (.invokevirtual 79, 3) := by decide +kernel
theorem dX6_readDamp_20 : decode cX6_readDamp 20 = .ok (.aload_n 0, 1) := by decide +kernel
theorem dX6_readDamp_21 : decode cX6_readDamp 21 = .ok (.getfield 28, 3) := by decide +kernel
theorem dX6_readDamp_24 : decode cX6_readDamp 24 = .ok (.ifCond .ne 13, 3) := by decide +kernel
theorem dX6_readDamp_27 : decode cX6_readDamp 27 = .ok (.aload_n 1, 1) := by decide +kernel
theorem dX6_readDamp_28 : decode cX6_readDamp 28 = .ok (.iload_n 2, 1) := by decide +kernel
theorem dX6_readDamp_29 : decode cX6_readDamp 29 = .ok (.putfield 109, 3) := by decide +kernel
theorem dX6_readDamp_32 : decode cX6_readDamp 32 = .ok (.aload_n 0, 1) := by decide +kernel
theorem dX6_readDamp_33 : decode cX6_readDamp 33 = .ok (.iconst 1, 1) := by decide +kernel
theorem dX6_readDamp_34 : decode cX6_readDamp 34 = .ok (.putfield 38, 3) := by decide +kernel
theorem dX6_readDamp_37 : decode cX6_readDamp 37 = .ok (.return_, 1) := by decide +kernel
theorem dX6_passWord_0 : decode cX6_passWord 0 = .ok (.iload_n 1, 1) := by decide +kernel
theorem dX6_passWord_1 : decode cX6_passWord 1 = .ok (.ifCond .eq 12, 3) := by decide +kernel
theorem dX6_passWord_4 : decode cX6_passWord 4 = .ok (.aload_n 0, 1) := by decide +kernel
theorem dX6_passWord_5 : decode cX6_passWord 5 = .ok (.iconst 3, 1) := by decide +kernel
theorem dX6_passWord_6 : decode cX6_passWord 6 = .ok (.aload_n 0, 1) := by decide +kernel
theorem dX6_passWord_7 : decode cX6_passWord 7 = .ok (.getfield 25, 3) := by decide +kernel
theorem dX6_passWord_10 : decode cX6_passWord 10 = .ok (.invokevirtual 56, 3) := by decide +kernel
theorem dX6_passWord_13 : decode cX6_passWord 13 = .ok (.aload_n 0, 1) := by decide +kernel
theorem dX6_passWord_14 : decode cX6_passWord 14 = .ok (.dup, 1) := by decide +kernel
theorem dX6_passWord_15 : decode cX6_passWord 15 = .ok (.getfield 25, 3) := by decide +kernel
theorem dX6_passWord_18 : decode cX6_passWord 18 = .ok (.iconst 1, 1) := by decide +kernel
theorem dX6_passWord_19 : decode cX6_passWord 19 = .ok (.iadd, 1) := by decide +kernel
theorem dX6_passWord_20 : decode cX6_passWord 20 = .ok (.putfield 25, 3) := by decide +kernel
theorem dX6_passWord_23 : decode cX6_passWord 23 = .ok (.return_, 1) := by decide +kernel
theorem dX6_passEnd_0 : decode cX6_passEnd 0 = .ok (.aload_n 0, 1) := by decide +kernel
theorem dX6_passEnd_1 : decode cX6_passEnd 1 = .ok (.invokevirtual 46, 3) := by decide +kernel
theorem dX6_passEnd_4 : decode cX6_passEnd 4 = .ok (.aload_n 0, 1) := by decide +kernel
theorem dX6_passEnd_5 : decode cX6_passEnd 5 = .ok (.getfield 25, 3) := by decide +kernel
theorem dX6_passEnd_8 : decode cX6_passEnd 8 = .ok (.aload_n 0, 1) := by decide +kernel
theorem dX6_passEnd_9 : decode cX6_passEnd 9 = .ok (.getfield 21, 3) := by decide +kernel
theorem dX6_passEnd_12 : decode cX6_passEnd 12 = .ok (.if_icmp .ge 17, 3) := by decide +kernel
theorem dX6_passEnd_15 : decode cX6_passEnd 15 = .ok (.aload_n 0, 1) := by decide +kernel
theorem dX6_passEnd_16 : decode cX6_passEnd 16 = .ok (.getfield 9, 3) := by decide +kernel
theorem dX6_passEnd_19 : decode cX6_passEnd 19 = .ok (.aload_n 0, 1) := by decide +kernel
theorem dX6_passEnd_20 : decode cX6_passEnd 20 = .ok (.getfield 25, 3) := by decide +kernel
theorem dX6_passEnd_23 : decode cX6_passEnd 23 = .ok (.iaload, 1) := by decide +kernel
theorem dX6_passEnd_24 : decode cX6_passEnd 24 = .ok (.bipush 59, 2) := by decide +kernel
theorem dX6_passEnd_26 : decode cX6_passEnd 26 = .ok (.if_icmp .eq 13, 3) := by decide +kernel
theorem dX6_passEnd_29 : decode cX6_passEnd 29 = .ok (.aload_n 0, 1) := by decide +kernel
theorem dX6_passEnd_30 : decode cX6_passEnd 30 = .ok (.iconst 1, 1) := by decide +kernel
theorem dX6_passEnd_31 : decode cX6_passEnd 31 = .ok (.aload_n 0, 1) := by decide +kernel
theorem dX6_passEnd_32 : decode cX6_passEnd 32 = .ok (.getfield 25, 3) := by decide +kernel
theorem dX6_passEnd_35 : decode cX6_passEnd 35 = .ok (.invokevirtual 56, 3) := by decide +kernel
theorem dX6_passEnd_38 : decode cX6_passEnd 38 = .ok (.return_, 1) := by decide +kernel
theorem dX6_passEnd_39 : decode cX6_passEnd 39 = .ok (.aload_n 0, 1) := by decide +kernel
theorem dX6_passEnd_40 : decode cX6_passEnd 40 = .ok (.dup, 1) := by decide +kernel
theorem dX6_passEnd_41 : decode cX6_passEnd 41 = .ok (.getfield 25, 3) := by decide +kernel
theorem dX6_passEnd_44 : decode cX6_passEnd 44 = .ok (.iconst 1, 1) := by decide +kernel
theorem dX6_passEnd_45 : decode cX6_passEnd 45 = .ok (.iadd, 1) := by decide +kernel
theorem dX6_passEnd_46 : decode cX6_passEnd 46 = .ok (.putfield 25, 3) := by decide +kernel
theorem dX6_passEnd_49 : decode cX6_passEnd 49 = .ok (.return_, 1) := by decide +kernel
theorem dX6_readNumber_0 : decode cX6_readNumber 0 = .ok (.aload_n 0, 1) := by decide +kernel
theorem dX6_readNumber_1 : decode cX6_readNumber 1 = .ok (.getfield 28, 3) := by decide +kernel
theorem dX6_readNumber_4 : decode cX6_readNumber 4 = .ok (.ifCond .eq 5, 3) := by decide +kernel
theorem dX6_readNumber_7 : decode cX6_readNumber 7 = .ok (.iconst (-1), 1) := by decide +kernel
theorem dX6_readNumber_8 : decode cX6_readNumber 8 = .ok (.ireturn, 1) := by decide +kernel
theorem dX6_readNumber_9 : decode cX6_readNumber 9 = .ok (.aload_n 0, 1) := by decide +kernel
theorem dX6_readNumber_10 : decode cX6_readNumber 10 = .ok (.invokevirtual 46, 3) := by decide +kernel
theorem dX6_readNumber_13 : decode cX6_readNumber 13 = .ok (.aload_n 0, 1) := by decide +kernel
theorem dX6_readNumber_14 : decode cX6_readNumber 14 = .ok (.aload_n 0, 1) := by decide +kernel
theorem dX6_readNumber_15 : decode cX6_readNumber 15 = .ok (.getfield 25, 3) := by decide +kernel
theorem dX6_readNumber_18 : decode cX6_readNumber 18 = .ok (.putfield 95, 3) := by decide +kernel
theorem dX6_readNumber_21 : decode cX6_readNumber 21 = .ok (.iconst 0, 1) := by decide +kernel
theorem dX6_readNumber_22 : decode cX6_readNumber 22 = .ok (.istore_n 3, 1) := by decide +kernel
theorem dX6_readNumber_23 : decode cX6_readNumber 23 = .ok (.aload_n 0, 1) := by decide +kernel
theorem dX6_readNumber_24 : decode cX6_readNumber 24 = .ok (.getfield 25, 3) := by decide +kernel
theorem dX6_readNumber_27 : decode cX6_readNumber 27 = .ok (.aload_n 0, 1) := by decide +kernel
theorem dX6_readNumber_28 : decode cX6_readNumber 28 = .ok (.getfield 21, 3) := by decide +kernel
theorem dX6_readNumber_31 : decode cX6_readNumber 31 = .ok (.if_icmp .ge 62, 3) := by decide +kernel
theorem dX6_readNumber_34 : decode cX6_readNumber 34 = .ok (.aload_n 0, 1) := by decide +kernel
theorem dX6_readNumber_35 : decode cX6_readNumber 35 = .ok (.getfield 9, 3) := by decide +kernel
theorem dX6_readNumber_38 : decode cX6_readNumber 38 = .ok (.aload_n 0, 1) := by decide +kernel
theorem dX6_readNumber_39 : decode cX6_readNumber 39 = .ok (.getfield 25, 3) := by decide +kernel
theorem dX6_readNumber_42 : decode cX6_readNumber 42 = .ok (.iaload, 1) := by decide +kernel
theorem dX6_readNumber_43 : decode cX6_readNumber 43 = .ok (.bipush 48, 2) := by decide +kernel
theorem dX6_readNumber_45 : decode cX6_readNumber 45 = .ok (.if_icmp .lt 48, 3) := by decide +kernel
theorem dX6_readNumber_48 : decode cX6_readNumber 48 = .ok (.aload_n 0, 1) := by decide +kernel
theorem dX6_readNumber_49 : decode cX6_readNumber 49 = .ok (.getfield 9, 3) := by decide +kernel
theorem dX6_readNumber_52 : decode cX6_readNumber 52 = .ok (.aload_n 0, 1) := by decide +kernel
theorem dX6_readNumber_53 : decode cX6_readNumber 53 = .ok (.getfield 25, 3) := by decide +kernel
theorem dX6_readNumber_56 : decode cX6_readNumber 56 = .ok (.iaload, 1) := by decide +kernel
theorem dX6_readNumber_57 : decode cX6_readNumber 57 = .ok (.bipush 57, 2) := by decide +kernel
theorem dX6_readNumber_59 : decode cX6_readNumber 59 = .ok (.if_icmp .gt 34, 3) := by decide +kernel
theorem dX6_readNumber_62 : decode cX6_readNumber 62 = .ok (.iload_n 3, 1) := by decide +kernel
theorem dX6_readNumber_63 : decode cX6_readNumber 63 = .ok (.bipush 10, 2) := by decide +kernel
theorem dX6_readNumber_65 : decode cX6_readNumber 65 = .ok (.imul, 1) := by decide +kernel
theorem dX6_readNumber_66 : decode cX6_readNumber 66 = .ok (.aload_n 0, 1) := by decide +kernel
theorem dX6_readNumber_67 : decode cX6_readNumber 67 = .ok (.getfield 9, 3) := by decide +kernel
theorem dX6_readNumber_70 : decode cX6_readNumber 70 = .ok (.aload_n 0, 1) := by decide +kernel
theorem dX6_readNumber_71 : decode cX6_readNumber 71 = .ok (.getfield 25, 3) := by decide +kernel
theorem dX6_readNumber_74 : decode cX6_readNumber 74 = .ok (.iaload, 1) := by decide +kernel
theorem dX6_readNumber_75 : decode cX6_readNumber 75 = .ok (.iadd, 1) := by decide +kernel
theorem dX6_readNumber_76 : decode cX6_readNumber 76 = .ok (.bipush 48, 2) := by decide +kernel
theorem dX6_readNumber_78 : decode cX6_readNumber 78 = .ok (.isub, 1) := by decide +kernel
theorem dX6_readNumber_79 : decode cX6_readNumber 79 = .ok (.istore_n 3, 1) := by decide +kernel
theorem dX6_readNumber_80 : decode cX6_readNumber 80 = .ok (.aload_n 0, 1) := by decide +kernel
theorem dX6_readNumber_81 : decode cX6_readNumber 81 = .ok (.dup, 1) := by decide +kernel
theorem dX6_readNumber_82 : decode cX6_readNumber 82 = .ok (.getfield 25, 3) := by decide +kernel
theorem dX6_readNumber_85 : decode cX6_readNumber 85 = .ok (.iconst 1, 1) := by decide +kernel
theorem dX6_readNumber_86 : decode cX6_readNumber 86 = .ok (.iadd, 1) := by decide +kernel
theorem dX6_readNumber_87 : decode cX6_readNumber 87 = .ok (.putfield 25, 3) := by decide +kernel
theorem dX6_readNumber_90 : decode cX6_readNumber 90 = .ok (.goto (-67), 3) := by decide +kernel
theorem dX6_readNumber_93 : decode cX6_readNumber 93 = .ok (.aload_n 0, 1) := by decide +kernel
theorem dX6_readNumber_94 : decode cX6_readNumber 94 = .ok (.getfield 25, 3) := by decide +kernel
theorem dX6_readNumber_97 : decode cX6_readNumber 97 = .ok (.aload_n 0, 1) := by decide +kernel
theorem dX6_readNumber_98 : decode cX6_readNumber 98 = .ok (.getfield 95, 3) := by decide +kernel
theorem dX6_readNumber_101 : decode cX6_readNumber 101 = .ok (.isub, 1) := by decide +kernel
theorem dX6_readNumber_102 : decode cX6_readNumber 102 = .ok (.istore 4, 2) := by decide +kernel
theorem dX6_readNumber_104 : decode cX6_readNumber 104 = .ok (.iload 4, 2) := by decide +kernel
theorem dX6_readNumber_106 : decode cX6_readNumber 106 = .ok (.ifCond .ne 14, 3) := by decide +kernel
theorem dX6_readNumber_109 : decode cX6_readNumber 109 = .ok (.aload_n 0, 1) := by decide +kernel
theorem dX6_readNumber_110 : decode cX6_readNumber 110 = .ok (.iconst 1, 1) := by decide +kernel
theorem dX6_readNumber_111 : decode cX6_readNumber 111 = .ok (.aload_n 0, 1) := by decide +kernel
theorem dX6_readNumber_112 : decode cX6_readNumber 112 = .ok (.getfield 25, 3) := by decide +kernel
theorem dX6_readNumber_115 : decode cX6_readNumber 115 = .ok (.invokevirtual 56, 3) := by decide +kernel
theorem dX6_readNumber_118 : decode cX6_readNumber 118 = .ok (.iconst (-1), 1) := by decide +kernel
theorem dX6_readNumber_119 : decode cX6_readNumber 119 = .ok (.ireturn, 1) := by decide +kernel
theorem dX6_readNumber_120 : decode cX6_readNumber 120 = .ok (.iload 4, 2) := by decide +kernel
theorem dX6_readNumber_122 : decode cX6_readNumber 122 = .ok (.iconst 3, 1) := by decide +kernel
theorem dX6_readNumber_123 : decode cX6_readNumber 123 = .ok (.if_icmp .gt 13, 3) := by decide +kernel
theorem dX6_readNumber_126 : decode cX6_readNumber 126 = .ok (.iload_n 3, 1) := by decide +kernel
theorem dX6_readNumber_127 : decode cX6_readNumber 127 = .ok (.iload_n 1, 1) := by decide +kernel
theorem dX6_readNumber_128 : decode cX6_readNumber 128 = .ok (.if_icmp .lt 8, 3) := by decide +kernel
theorem dX6_readNumber_131 : decode cX6_readNumber 131 = .ok (.iload_n 3, 1) := by decide +kernel
theorem dX6_readNumber_132 : decode cX6_readNumber 132 = .ok (.iload_n 2, 1) := by decide +kernel
theorem dX6_readNumber_133 : decode cX6_readNumber 133 = .ok (.if_icmp .le 14, 3) := by decide +kernel
theorem dX6_readNumber_136 : decode cX6_readNumber 136 = .ok (.aload_n 0, 1) := by decide +kernel
theorem dX6_readNumber_137 : decode cX6_readNumber 137 = .ok (.iconst 2, 1) := by decide +kernel
theorem dX6_readNumber_138 : decode cX6_readNumber 138 = .ok (.aload_n 0, 1) := by decide +kernel
theorem dX6_readNumber_139 : decode cX6_readNumber 139 = .ok (.getfield 95, 3) := by decide +kernel
theorem dX6_readNumber_142 : decode cX6_readNumber 142 = .ok (.invokevirtual 56, 3) := by decide +kernel
theorem dX6_readNumber_145 : decode cX6_readNumber 145 = .ok (.iconst (-1), 1) := by decide +kernel
theorem dX6_readNumber_146 : decode cX6_readNumber 146 = .ok (.ireturn, 1) := by decide +kernel
theorem dX6_readNumber_147 : decode cX6_readNumber 147 = .ok (.iload_n 3, 1) := by decide +kernel
theorem dX6_readNumber_148 : decode cX6_readNumber 148 = .ok (.ireturn, 1) := by decide +kernel
theorem dX6_readStars_0 : decode cX6_readStars 0 = .ok (.aload_n 0, 1) := by decide +kernel
theorem dX6_readStars_1 : decode cX6_readStars 1 = .ok (.getfield 28, 3) := by decide +kernel
theorem dX6_readStars_4 : decode cX6_readStars 4 = .ok (.ifCond .eq 5, 3) := by decide +kernel
theorem dX6_readStars_7 : decode cX6_readStars 7 = .ok (.iconst (-1), 1) := by decide +kernel
theorem dX6_readStars_8 : decode cX6_readStars 8 = .ok (.ireturn, 1) := by decide +kernel
theorem dX6_readStars_9 : decode cX6_readStars 9 = .ok (.aload_n 0, 1) := by decide +kernel
theorem dX6_readStars_10 : decode cX6_readStars 10 = .ok (.invokevirtual 46, 3) := by decide +kernel
theorem dX6_readStars_13 : decode cX6_readStars 13 = .ok (.aload_n 0, 1) := by decide +kernel
theorem dX6_readStars_14 : decode cX6_readStars 14 = .ok (.getfield 25, 3) := by decide +kernel
theorem dX6_readStars_17 : decode cX6_readStars 17 = .ok (.istore_n 2, 1) := by decide +kernel
theorem dX6_readStars_18 : decode cX6_readStars 18 = .ok (.iconst 0, 1) := by decide +kernel
theorem dX6_readStars_19 : decode cX6_readStars 19 = .ok (.istore_n 3, 1) := by decide +kernel
theorem dX6_readStars_20 : decode cX6_readStars 20 = .ok (.aload_n 0, 1) := by decide +kernel
theorem dX6_readStars_21 : decode cX6_readStars 21 = .ok (.getfield 25, 3) := by decide +kernel
theorem dX6_readStars_24 : decode cX6_readStars 24 = .ok (.aload_n 0, 1) := by decide +kernel
theorem dX6_readStars_25 : decode cX6_readStars 25 = .ok (.getfield 21, 3) := by decide +kernel
theorem dX6_readStars_28 : decode cX6_readStars 28 = .ok (.if_icmp .ge 74, 3) := by decide +kernel
theorem dX6_readStars_31 : decode cX6_readStars 31 = .ok (.aload_n 0, 1) := by decide +kernel
theorem dX6_readStars_32 : decode cX6_readStars 32 = .ok (.getfield 9, 3) := by decide +kernel
theorem dX6_readStars_35 : decode cX6_readStars 35 = .ok (.aload_n 0, 1) := by decide +kernel
theorem dX6_readStars_36 : decode cX6_readStars 36 = .ok (.getfield 25, 3) := by decide +kernel
theorem dX6_readStars_39 : decode cX6_readStars 39 = .ok (.iaload, 1) := by decide +kernel
theorem dX6_readStars_40 : decode cX6_readStars 40 = .ok (.bipush 97, 2) := by decide +kernel
theorem dX6_readStars_42 : decode cX6_readStars 42 = .ok (.if_icmp .lt 60, 3) := by decide +kernel
theorem dX6_readStars_45 : decode cX6_readStars 45 = .ok (.aload_n 0, 1) := by decide +kernel
theorem dX6_readStars_46 : decode cX6_readStars 46 = .ok (.getfield 9, 3) := by decide +kernel
theorem dX6_readStars_49 : decode cX6_readStars 49 = .ok (.aload_n 0, 1) := by decide +kernel
theorem dX6_readStars_50 : decode cX6_readStars 50 = .ok (.getfield 25, 3) := by decide +kernel
theorem dX6_readStars_53 : decode cX6_readStars 53 = .ok (.iaload, 1) := by decide +kernel
theorem dX6_readStars_54 : decode cX6_readStars 54 = .ok (.bipush 101, 2) := by decide +kernel
theorem dX6_readStars_56 : decode cX6_readStars 56 = .ok (.if_icmp .gt 46, 3) := by decide +kernel
theorem dX6_readStars_59 : decode cX6_readStars 59 = .ok (.aload_n 0, 1) := by decide +kernel
theorem dX6_readStars_60 : decode cX6_readStars 60 = .ok (.getfield 25, 3) := by decide +kernel
theorem dX6_readStars_63 : decode cX6_readStars 63 = .ok (.iload_n 2, 1) := by decide +kernel
theorem dX6_readStars_64 : decode cX6_readStars 64 = .ok (.isub, 1) := by decide +kernel
theorem dX6_readStars_65 : decode cX6_readStars 65 = .ok (.iconst 5, 1) := by decide +kernel
theorem dX6_readStars_66 : decode cX6_readStars 66 = .ok (.if_icmp .ge 36, 3) := by decide +kernel
theorem dX6_readStars_69 : decode cX6_readStars 69 = .ok (.iload_n 3, 1) := by decide +kernel
theorem dX6_readStars_70 : decode cX6_readStars 70 = .ok (.bipush 10, 2) := by decide +kernel
theorem dX6_readStars_72 : decode cX6_readStars 72 = .ok (.imul, 1) := by decide +kernel
theorem dX6_readStars_73 : decode cX6_readStars 73 = .ok (.aload_n 0, 1) := by decide +kernel
theorem dX6_readStars_74 : decode cX6_readStars 74 = .ok (.getfield 9, 3) := by decide +kernel
theorem dX6_readStars_77 : decode cX6_readStars 77 = .ok (.aload_n 0, 1) := by decide +kernel
theorem dX6_readStars_78 : decode cX6_readStars 78 = .ok (.getfield 25, 3) := by decide +kernel
theorem dX6_readStars_81 : decode cX6_readStars 81 = .ok (.iaload, 1) := by decide +kernel
theorem dX6_readStars_82 : decode cX6_readStars 82 = .ok (.iadd, 1) := by decide +kernel
theorem dX6_readStars_83 : decode cX6_readStars 83 = .ok (.bipush 97, 2) := by decide +kernel
theorem dX6_readStars_85 : decode cX6_readStars 85 = .ok (.isub, 1) := by decide +kernel
theorem dX6_readStars_86 : decode cX6_readStars 86 = .ok (.iconst 1, 1) := by decide +kernel
theorem dX6_readStars_87 : decode cX6_readStars 87 = .ok (.iadd, 1) := by decide +kernel
theorem dX6_readStars_88 : decode cX6_readStars 88 = .ok (.istore_n 3, 1) := by decide +kernel
theorem dX6_readStars_89 : decode cX6_readStars 89 = .ok (.aload_n 0, 1) := by decide +kernel
theorem dX6_readStars_90 : decode cX6_readStars 90 = .ok (.dup, 1) := by decide +kernel
theorem dX6_readStars_91 : decode cX6_readStars 91 = .ok (.getfield 25, 3) := by decide +kernel
theorem dX6_readStars_94 : decode cX6_readStars 94 = .ok (.iconst 1, 1) := by decide +kernel
theorem dX6_readStars_95 : decode cX6_readStars 95 = .ok (.iadd, 1) := by decide +kernel
theorem dX6_readStars_96 : decode cX6_readStars 96 = .ok (.putfield 25, 3) := by decide +kernel
theorem dX6_readStars_99 : decode cX6_readStars 99 = .ok (.goto (-79), 3) := by decide +kernel
theorem dX6_readStars_102 : decode cX6_readStars 102 = .ok (.aload_n 0, 1) := by decide +kernel
theorem dX6_readStars_103 : decode cX6_readStars 103 = .ok (.getfield 25, 3) := by decide +kernel
theorem dX6_readStars_106 : decode cX6_readStars 106 = .ok (.iload_n 2, 1) := by decide +kernel
theorem dX6_readStars_107 : decode cX6_readStars 107 = .ok (.if_icmp .eq 42, 3) := by decide +kernel
theorem dX6_readStars_110 : decode cX6_readStars 110 = .ok (.aload_n 0, 1) := by decide +kernel
theorem dX6_readStars_111 : decode cX6_readStars 111 = .ok (.getfield 25, 3) := by decide +kernel
theorem dX6_readStars_114 : decode cX6_readStars 114 = .ok (.aload_n 0, 1) := by decide +kernel
theorem dX6_readStars_115 : decode cX6_readStars 115 = .ok (.getfield 21, 3) := by decide +kernel
theorem dX6_readStars_118 : decode cX6_readStars 118 = .ok (.if_icmp .ge 43, 3) := by decide +kernel
theorem dX6_readStars_121 : decode cX6_readStars 121 = .ok (.aload_n 0, 1) := by decide +kernel
theorem dX6_readStars_122 : decode cX6_readStars 122 = .ok (.getfield 9, 3) := by decide +kernel
theorem dX6_readStars_125 : decode cX6_readStars 125 = .ok (.aload_n 0, 1) := by decide +kernel
theorem dX6_readStars_126 : decode cX6_readStars 126 = .ok (.getfield 25, 3) := by decide +kernel
theorem dX6_readStars_129 : decode cX6_readStars 129 = .ok (.iaload, 1) := by decide +kernel
theorem dX6_readStars_130 : decode cX6_readStars 130 = .ok (.bipush 97, 2) := by decide +kernel
theorem dX6_readStars_132 : decode cX6_readStars 132 = .ok (.if_icmp .lt 29, 3) := by decide +kernel
theorem dX6_readStars_135 : decode cX6_readStars 135 = .ok (.aload_n 0, 1) := by decide +kernel
theorem dX6_readStars_136 : decode cX6_readStars 136 = .ok (.getfield 9, 3) := by decide +kernel
theorem dX6_readStars_139 : decode cX6_readStars 139 = .ok (.aload_n 0, 1) := by decide +kernel
theorem dX6_readStars_140 : decode cX6_readStars 140 = .ok (.getfield 25, 3) := by decide +kernel
theorem dX6_readStars_143 : decode cX6_readStars 143 = .ok (.iaload, 1) := by decide +kernel
theorem dX6_readStars_144 : decode cX6_readStars 144 = .ok (.bipush 101, 2) := by decide +kernel
theorem dX6_readStars_146 : decode cX6_readStars 146 = .ok (.if_icmp .gt 15, 3) := by decide +kernel
theorem dX6_readStars_149 : decode cX6_readStars 149 = .ok (.aload_n 0, 1) := by decide +kernel
theorem dX6_readStars_150 : decode cX6_readStars 150 = .ok (.iconst 1, 1) := by decide +kernel
theorem dX6_readStars_151 : decode cX6_readStars 151 = .ok (.aload_n 0, 1) := by decide +kernel
theorem dX6_readStars_152 : decode cX6_readStars 152 = .ok (.getfield 25, 3) := by decide +kernel
theorem dX6_readStars_155 : decode cX6_readStars 155 = .ok (.invokevirtual 56, 3) := by decide +kernel
theorem dX6_readStars_158 : decode cX6_readStars 158 = .ok (.goto 18, 3) := by decide +kernel
theorem dX6_readStars_161 : decode cX6_readStars 161 = .ok (.aload_n 1, 1) := by decide +kernel
theorem dX6_readStars_162 : decode cX6_readStars 162 = .ok (.iload_n 3, 1) := by decide +kernel
theorem dX6_readStars_163 : decode cX6_readStars 163 = .ok (.invokevirtual 112, 3) := by decide +kernel
theorem dX6_readStars_166 : decode cX6_readStars 166 = .ok (.iconst (-1), 1) := by decide +kernel
theorem dX6_readStars_167 : decode cX6_readStars 167 = .ok (.if_icmp .eq 9, 3) := by decide +kernel
theorem dX6_readStars_170 : decode cX6_readStars 170 = .ok (.aload_n 0, 1) := by decide +kernel
theorem dX6_readStars_171 : decode cX6_readStars 171 = .ok (.iconst 4, 1) := by decide +kernel
theorem dX6_readStars_172 : decode cX6_readStars 172 = .ok (.iload_n 2, 1) := by decide +kernel
theorem dX6_readStars_173 : decode cX6_readStars 173 = .ok (.invokevirtual 56, 3) := by decide +kernel
theorem dX6_readStars_176 : decode cX6_readStars 176 = .ok (.iload_n 3, 1) := by decide +kernel
theorem dX6_readStars_177 : decode cX6_readStars 177 = .ok (.ireturn, 1) := by decide +kernel
theorem dX6_skipBlanks_0 : decode cX6_skipBlanks 0 = .ok (.aload_n 0, 1) := by decide +kernel
theorem dX6_skipBlanks_1 : decode cX6_skipBlanks 1 = .ok (.getfield 25, 3) := by decide +kernel
theorem dX6_skipBlanks_4 : decode cX6_skipBlanks 4 = .ok (.aload_n 0, 1) := by decide +kernel
theorem dX6_skipBlanks_5 : decode cX6_skipBlanks 5 = .ok (.getfield 21, 3) := by decide +kernel
theorem dX6_skipBlanks_8 : decode cX6_skipBlanks 8 = .ok (.if_icmp .ge 30, 3) := by decide +kernel
theorem dX6_skipBlanks_11 : decode cX6_skipBlanks 11 = .ok (.aload_n 0, 1) := by decide +kernel
theorem dX6_skipBlanks_12 : decode cX6_skipBlanks 12 = .ok (.getfield 9, 3) := by decide +kernel
theorem dX6_skipBlanks_15 : decode cX6_skipBlanks 15 = .ok (.aload_n 0, 1) := by decide +kernel
theorem dX6_skipBlanks_16 : decode cX6_skipBlanks 16 = .ok (.getfield 25, 3) := by decide +kernel
theorem dX6_skipBlanks_19 : decode cX6_skipBlanks 19 = .ok (.iaload, 1) := by decide +kernel
theorem dX6_skipBlanks_20 : decode cX6_skipBlanks 20 = .ok (.bipush 32, 2) := by decide +kernel
theorem dX6_skipBlanks_22 : decode cX6_skipBlanks 22 = .ok (.if_icmp .ne 16, 3) := by decide +kernel
theorem dX6_skipBlanks_25 : decode cX6_skipBlanks 25 = .ok (.aload_n 0, 1) := by decide +kernel
theorem dX6_skipBlanks_26 : decode cX6_skipBlanks 26 = .ok (.dup, 1) := by decide +kernel
theorem dX6_skipBlanks_27 : decode cX6_skipBlanks 27 = .ok (.getfield 25, 3) := by decide +kernel
theorem dX6_skipBlanks_30 : decode cX6_skipBlanks 30 = .ok (.iconst 1, 1) := by decide +kernel
theorem dX6_skipBlanks_31 : decode cX6_skipBlanks 31 = .ok (.iadd, 1) := by decide +kernel
theorem dX6_skipBlanks_32 : decode cX6_skipBlanks 32 = .ok (.putfield 25, 3) := by decide +kernel
theorem dX6_skipBlanks_35 : decode cX6_skipBlanks 35 = .ok (.goto (-35), 3) := by decide +kernel
theorem dX6_skipBlanks_38 : decode cX6_skipBlanks 38 = .ok (.return_, 1) := by decide +kernel
theorem dX6_fail_0 : decode cX6_fail 0 = .ok (.aload_n 0, 1) := by decide +kernel
theorem dX6_fail_1 : decode cX6_fail 1 = .ok (.getfield 28, 3) := by decide +kernel
theorem dX6_fail_4 : decode cX6_fail 4 = .ok (.ifCond .ne 13, 3) := by decide +kernel
theorem dX6_fail_7 : decode cX6_fail 7 = .ok (.aload_n 0, 1) := by decide +kernel
theorem dX6_fail_8 : decode cX6_fail 8 = .ok (.iload_n 1, 1) := by decide +kernel
theorem dX6_fail_9 : decode cX6_fail 9 = .ok (.putfield 28, 3) := by decide +kernel
theorem dX6_fail_12 : decode cX6_fail 12 = .ok (.aload_n 0, 1) := by decide +kernel
theorem dX6_fail_13 : decode cX6_fail 13 = .ok (.iload_n 2, 1) := by decide +kernel
theorem dX6_fail_14 : decode cX6_fail 14 = .ok (.putfield 31, 3) := by decide +kernel
theorem dX6_fail_17 : decode cX6_fail 17 = .ok (.return_, 1) := by decide +kernel
theorem dX7_init_0 : decode cX7_init 0 = .ok (.aload_n 0, 1) := by decide +kernel
theorem dX7_init_1 : decode cX7_init 1 = .ok (.invokespecial 3, 3) := by decide +kernel
theorem dX7_init_4 : decode cX7_init 4 = .ok (.aload_n 0, 1) := by decide +kernel
theorem dX7_init_5 : decode cX7_init 5 = .ok (.bipush 6, 2) := by decide +kernel
theorem dX7_init_7 : decode cX7_init 7 = .ok (.newarray .int, 2) := by decide +kernel
theorem dX7_init_9 : decode cX7_init 9 = .ok (.putfield 9, 3) := by decide +kernel
theorem dX7_init_12 : decode cX7_init 12 = .ok (.aload_n 0, 1) := by decide +kernel
theorem dX7_init_13 : decode cX7_init 13 = .ok (.new 15, 3) := by decide +kernel
theorem dX7_init_16 : decode cX7_init 16 = .ok (.dup, 1) := by decide +kernel
theorem dX7_init_17 : decode cX7_init 17 = .ok (.invokespecial 17, 3) := by decide +kernel
theorem dX7_init_20 : decode cX7_init 20 = .ok (.putfield 18, 3) := by decide +kernel
theorem dX7_init_23 : decode cX7_init 23 = .ok (.return_, 1) := by decide +kernel
theorem dX7_find_0 : decode cX7_find 0 = .ok (.iconst 0, 1) := by decide +kernel
theorem dX7_find_1 : decode cX7_find 1 = .ok (.istore 4, 2) := by decide +kernel
theorem dX7_find_3 : decode cX7_find 3 = .ok (.iload 4, 2) := by decide +kernel
theorem dX7_find_5 : decode cX7_find 5 = .ok (.aload_n 1, 1) := by decide +kernel
theorem dX7_find_6 : decode cX7_find 6 = .ok (.getfield 22, 3) := by decide +kernel
theorem dX7_find_9 : decode cX7_find 9 = .ok (.if_icmp .ge 35, 3) := by decide +kernel
theorem dX7_find_12 : decode cX7_find 12 = .ok (.iload_n 3, 1) := by decide +kernel
theorem dX7_find_13 : decode cX7_find 13 = .ok (.iload 4, 2) := by decide +kernel
theorem dX7_find_15 : decode cX7_find 15 = .ok (.ishr, 1) := by decide +kernel
theorem dX7_find_16 : decode cX7_find 16 = .ok (.iconst 1, 1) := by decide +kernel
theorem dX7_find_17 : decode cX7_find 17 = .ok (.iand, 1) := by decide +kernel
theorem dX7_find_18 : decode cX7_find 18 = .ok (.iconst 1, 1) := by decide +kernel
theorem dX7_find_19 : decode cX7_find 19 = .ok (.if_icmp .ne 19, 3) := by decide +kernel
theorem dX7_find_22 : decode cX7_find 22 = .ok (.aload_n 2, 1) := by decide +kernel
theorem dX7_find_23 : decode cX7_find 23 = .ok (.aload_n 1, 1) := by decide +kernel
theorem dX7_find_24 : decode cX7_find 24 = .ok (.iload 4, 2) := by decide +kernel
theorem dX7_find_26 : decode cX7_find 26 = .ok (.invokevirtual 28, 3) := by decide +kernel
theorem dX7_find_29 : decode cX7_find 29 = .ok (.invokestatic 32, 3) := by decide +kernel
theorem dX7_find_32 : decode cX7_find 32 = .ok (.iconst 2, 1) := by decide +kernel
theorem dX7_find_33 : decode cX7_find 33 = .ok (.if_icmp .ge 5, 3) := by decide +kernel
theorem dX7_find_36 : decode cX7_find 36 = .ok (.iconst 0, 1) := by decide +kernel
theorem dX7_find_37 : decode cX7_find 37 = .ok (.ireturn, 1) := by decide +kernel
theorem dX7_find_38 : decode cX7_find 38 = .ok (.iinc 4 1, 3) := by decide +kernel
theorem dX7_find_41 : decode cX7_find 41 = .ok (.goto (-38), 3) := by decide +kernel
theorem dX7_find_44 : decode cX7_find 44 = .ok (.aload_n 0, 1) := by decide +kernel
theorem dX7_find_45 : decode cX7_find 45 = .ok (.getfield 18, 3) := by decide +kernel
theorem dX7_find_48 : decode cX7_find 48 = .ok (.aload_n 2, 1) := by decide +kernel
theorem dX7_find_49 : decode cX7_find 49 = .ok (.invokevirtual 38, 3) := by decide +kernel
theorem dX7_find_52 : decode cX7_find 52 = .ok (.aload_n 0, 1) := by decide +kernel
theorem dX7_find_53 : decode cX7_find 53 = .ok (.aload_n 1, 1) := by decide +kernel
theorem dX7_find_54 : decode cX7_find 54 = .ok (.aload_n 2, 1) := by decide +kernel
theorem dX7_find_55 : decode cX7_find 55 = .ok (.iload_n 3, 1) := by decide +kernel
theorem dX7_find_56 : decode cX7_find 56 = .ok (.iconst 0, 1) := by decide +kernel
theorem dX7_find_57 : decode cX7_find 57 = .ok (.invokevirtual 42, 3) := by decide +kernel
theorem dX7_find_60 : decode cX7_find 60 = .ok (.ireturn, 1) := by decide +kernel
theorem dX7_extend_0 : decode cX7_extend 0 = .ok (.iload_n 3, 1) := by decide +kernel
theorem dX7_extend_1 : decode cX7_extend 1 = .ok (.ifCond .ne 5, 3) := by decide +kernel
theorem dX7_extend_4 : decode cX7_extend 4 = .ok (.iconst 1, 1) := by decide +kernel
theorem dX7_extend_5 : decode cX7_extend 5 = .ok (.ireturn, 1) := by decide +kernel
theorem dX7_extend_6 : decode cX7_extend 6 = .ok (.iload 4, 2) := by decide +kernel
theorem dX7_extend_8 : decode cX7_extend 8 = .ok (.bipush 6, 2) := by decide +kernel
theorem dX7_extend_10 : decode cX7_extend 10 = .ok (.if_icmp .lt 5, 3) := by decide +kernel
theorem dX7_extend_13 : decode cX7_extend 13 = .ok (.iconst 0, 1) := by decide +kernel
theorem dX7_extend_14 : decode cX7_extend 14 = .ok (.ireturn, 1) := by decide +kernel
theorem dX7_extend_15 : decode cX7_extend 15 = .ok (.iconst 0, 1) := by decide +kernel
theorem dX7_extend_16 : decode cX7_extend 16 = .ok (.istore 5, 2) := by decide +kernel
theorem dX7_extend_18 : decode cX7_extend 18 = .ok (.iload 5, 2) := by decide +kernel
theorem dX7_extend_20 : decode cX7_extend 20 = .ok (.aload_n 1, 1) := by decide +kernel
theorem dX7_extend_21 : decode cX7_extend 21 = .ok (.getfield 22, 3) := by decide +kernel
theorem dX7_extend_24 : decode cX7_extend 24 = .ok (.if_icmp .ge 97, 3) := by decide +kernel
theorem dX7_extend_27 : decode cX7_extend 27 = .ok (.aload_n 0, 1) := by decide +kernel
theorem dX7_extend_28 : decode cX7_extend 28 = .ok (.getfield 18, 3) := by decide +kernel
theorem dX7_extend_31 : decode cX7_extend 31 = .ok (.aload_n 2, 1) := by decide +kernel
theorem dX7_extend_32 : decode cX7_extend 32 = .ok (.getfield 46, 3) := by decide +kernel
theorem dX7_extend_35 : decode cX7_extend 35 = .ok (.iload 4, 2) := by decide +kernel
theorem dX7_extend_37 : decode cX7_extend 37 = .ok (.iadd, 1) := by decide +kernel
theorem dX7_extend_38 : decode cX7_extend 38 = .ok (.putfield 46, 3) := by decide +kernel
theorem dX7_extend_41 : decode cX7_extend 41 = .ok (.iload_n 3, 1) := by decide +kernel
theorem dX7_extend_42 : decode cX7_extend 42 = .ok (.iload 5, 2) := by decide +kernel
theorem dX7_extend_44 : decode cX7_extend 44 = .ok (.ishr, 1) := by decide +kernel
theorem dX7_extend_45 : decode cX7_extend 45 = .ok (.iconst 1, 1) := by decide +kernel
theorem dX7_extend_46 : decode cX7_extend 46 = .ok (.iand, 1) := by decide +kernel
theorem dX7_extend_47 : decode cX7_extend 47 = .ok (.iconst 1, 1) := by decide +kernel
theorem dX7_extend_48 : decode cX7_extend 48 = .ok (.if_icmp .ne 67, 3) := by decide +kernel
theorem dX7_extend_51 : decode cX7_extend 51 = .ok (.aload_n 0, 1) := by decide +kernel
theorem dX7_extend_52 : decode cX7_extend 52 = .ok (.aload_n 1, 1) := by decide +kernel
theorem dX7_extend_53 : decode cX7_extend 53 = .ok (.iload 5, 2) := by decide +kernel
theorem dX7_extend_55 : decode cX7_extend 55 = .ok (.iload 4, 2) := by decide +kernel
theorem dX7_extend_57 : decode cX7_extend 57 = .ok (.invokevirtual 49, 3) := by decide +kernel
theorem dX7_extend_60 : decode cX7_extend 60 = .ok (.ifCond .eq 55, 3) := by decide +kernel
theorem dX7_extend_63 : decode cX7_extend 63 = .ok (.aload_n 0, 1) := by decide +kernel
theorem dX7_extend_64 : decode cX7_extend 64 = .ok (.getfield 9, 3) := by decide +kernel
theorem dX7_extend_67 : decode cX7_extend 67 = .ok (.iload 4, 2) := by decide +kernel
theorem dX7_extend_69 : decode cX7_extend 69 = .ok (.iload 5, 2) := by decide +kernel
theorem dX7_extend_71 : decode cX7_extend 71 = .ok (.iastore, 1) := by decide +kernel
theorem dX7_extend_72 : decode cX7_extend 72 = .ok (.aload_n 0, 1) := by decide +kernel
theorem dX7_extend_73 : decode cX7_extend 73 = .ok (.getfield 18, 3) := by decide +kernel
theorem dX7_extend_76 : decode cX7_extend 76 = .ok (.aload_n 1, 1) := by decide +kernel
theorem dX7_extend_77 : decode cX7_extend 77 = .ok (.iload 5, 2) := by decide +kernel
theorem dX7_extend_79 : decode cX7_extend 79 = .ok (.invokevirtual 53, 3) := by decide +kernel
theorem dX7_extend_82 : decode cX7_extend 82 = .ok (.aload_n 0, 1) := by decide +kernel
theorem dX7_extend_83 : decode cX7_extend 83 = .ok (.aload_n 1, 1) := by decide +kernel
theorem dX7_extend_84 : decode cX7_extend 84 = .ok (.aload_n 2, 1) := by decide +kernel
theorem dX7_extend_85 : decode cX7_extend 85 = .ok (.iload_n 3, 1) := by decide +kernel
theorem dX7_extend_86 : decode cX7_extend 86 = .ok (.iconst 1, 1) := by decide +kernel
theorem dX7_extend_87 : decode cX7_extend 87 = .ok (.iload 5, 2) := by decide +kernel
theorem dX7_extend_89 : decode cX7_extend 89 = .ok (.ishl, 1) := by decide +kernel
theorem dX7_extend_90 : decode cX7_extend 90 = .ok (.iconst (-1), 1) := by decide +kernel
theorem dX7_extend_91 : decode cX7_extend 91 = .ok (.ixor, 1) := by decide +kernel
theorem dX7_extend_92 : decode cX7_extend 92 = .ok (.iand, 1) := by decide +kernel
theorem dX7_extend_93 : decode cX7_extend 93 = .ok (.iload 4, 2) := by decide +kernel
theorem dX7_extend_95 : decode cX7_extend 95 = .ok (.iconst 1, 1) := by decide +kernel
theorem dX7_extend_96 : decode cX7_extend 96 = .ok (.iadd, 1) := by decide +kernel
theorem dX7_extend_97 : decode cX7_extend 97 = .ok (.invokevirtual 42, 3) := by decide +kernel
theorem dX7_extend_100 : decode cX7_extend 100 = .ok (.ifCond .eq 5, 3) := by decide +kernel
theorem dX7_extend_103 : decode cX7_extend 103 = .ok (.iconst 1, 1) := by decide +kernel
theorem dX7_extend_104 : decode cX7_extend 104 = .ok (.ireturn, 1) := by decide +kernel
theorem dX7_extend_105 : decode cX7_extend 105 = .ok (.aload_n 0, 1) := by decide +kernel
theorem dX7_extend_106 : decode cX7_extend 106 = .ok (.getfield 18, 3) := by decide +kernel
theorem dX7_extend_109 : decode cX7_extend 109 = .ok (.iload 5, 2) := by decide +kernel
theorem dX7_extend_111 : decode cX7_extend 111 = .ok (.aload_n 2, 1) := by decide +kernel
theorem dX7_extend_112 : decode cX7_extend 112 = .ok (.invokevirtual 57, 3) := by decide +kernel
theorem dX7_extend_115 : decode cX7_extend 115 = .ok (.iinc 5 1, 3) := by decide +kernel
theorem dX7_extend_118 : decode cX7_extend 118 = .ok (.goto (-100), 3) := by decide +kernel
theorem dX7_extend_121 : decode cX7_extend 121 = .ok (.iconst 0, 1) := by decide +kernel
theorem dX7_extend_122 : decode cX7_extend 122 = .ok (.ireturn, 1) := by decide +kernel
theorem dX7_fits_0 : decode cX7_fits 0 = .ok (.iload_n 3, 1) := by decide +kernel
theorem dX7_fits_1 : decode cX7_fits 1 = .ok (.ifCond .le 22, 3) := by decide +kernel
