theorem dX10_sees_0 : decode cX10_sees 0 = .ok (.aload_n 0, 1) := by decide +kernel
theorem dX10_sees_1 : decode cX10_sees 1 = .ok (.iload_n 1, 1) := by decide +kernel
theorem dX10_sees_2 : decode cX10_sees 2 = .ok (.iload_n 2, 1) := by decide +kernel
theorem dX10_sees_3 : decode cX10_sees 3 = .ok (.invokevirtual 226, 3) := by decide +kernel
theorem dX10_sees_6 : decode cX10_sees 6 = .ok (.ifCond .eq 15, 3) := by decide +kernel
theorem dX10_sees_9 : decode cX10_sees 9 = .ok (.aload_n 0, 1) := by decide +kernel
theorem dX10_sees_10 : decode cX10_sees 10 = .ok (.iload_n 2, 1) := by decide +kernel
theorem dX10_sees_11 : decode cX10_sees 11 = .ok (.invokevirtual 229, 3) := by decide +kernel
theorem dX10_sees_14 : decode cX10_sees 14 = .ok (.iload_n 1, 1) := by decide +kernel
theorem dX10_sees_15 : decode cX10_sees 15 = .ok (.ishr, 1) := by decide +kernel
theorem dX10_sees_16 : decode cX10_sees 16 = .ok (.iconst 1, 1) := by decide +kernel
theorem dX10_sees_17 : decode cX10_sees 17 = .ok (.iand, 1) := by decide +kernel
theorem dX10_sees_18 : decode cX10_sees 18 = .ok (.goto 5, 3) := by decide +kernel
theorem dX10_sees_21 : decode cX10_sees 21 = .ok (.ldc 207, 2) := by decide +kernel
theorem dX10_sees_23 : decode cX10_sees 23 = .ok (.ireturn, 1) := by decide +kernel
theorem dX10_contract_0 : decode cX10_contract 0 = .ok (.aload_n 0, 1) := by decide +kernel
theorem dX10_contract_1 : decode cX10_contract 1 = .ok (.iload_n 1, 1) := by decide +kernel
theorem dX10_contract_2 : decode cX10_contract 2 = .ok (.iload_n 2, 1) := by decide +kernel
theorem dX10_contract_3 : decode cX10_contract 3 = .ok (.invokevirtual 226, 3) := by decide +kernel
theorem dX10_contract_6 : decode cX10_contract 6 = .ok (.ifCond .ne 6, 3) := by decide +kernel
theorem dX10_contract_9 : decode cX10_contract 9 = .ok (.ldc 207, 2) := by decide +kernel
theorem dX10_contract_11 : decode cX10_contract 11 = .ok (.ireturn, 1) := by decide +kernel
theorem dX10_contract_12 : decode cX10_contract 12 = .ok (.aload_n 0, 1) := by decide +kernel
theorem dX10_contract_13 : decode cX10_contract 13 = .ok (.getfield 29, 3) := by decide +kernel
theorem dX10_contract_16 : decode cX10_contract 16 = .ok (.bipush 35, 2) := by decide +kernel
theorem dX10_contract_18 : decode cX10_contract 18 = .ok (.iload_n 1, 1) := by decide +kernel
theorem dX10_contract_19 : decode cX10_contract 19 = .ok (.iadd, 1) := by decide +kernel
theorem dX10_contract_20 : decode cX10_contract 20 = .ok (.iaload, 1) := by decide +kernel
theorem dX10_contract_21 : decode cX10_contract 21 = .ok (.iload_n 2, 1) := by decide +kernel
theorem dX10_contract_22 : decode cX10_contract 22 = .ok (.invokestatic 194, 3) := by decide +kernel
theorem dX10_contract_25 : decode cX10_contract 25 = .ok (.ifCond .ne 7, 3) := by decide +kernel
theorem dX10_contract_28 : decode cX10_contract 28 = .ok (.iconst 0, 1) := by decide +kernel
theorem dX10_contract_29 : decode cX10_contract 29 = .ok (.goto 24, 3) := by decide +kernel
theorem dX10_contract_32 : decode cX10_contract 32 = .ok (.aload_n 0, 1) := by decide +kernel
theorem dX10_contract_33 : decode cX10_contract 33 = .ok (.iload_n 1, 1) := by decide +kernel
theorem dX10_contract_34 : decode cX10_contract 34 = .ok (.invokevirtual 197, 3) := by decide +kernel
theorem dX10_contract_37 : decode cX10_contract 37 = .ok (.ifCond .ne 11, 3) := by decide +kernel
theorem dX10_contract_40 : decode cX10_contract 40 = .ok (.aload_n 0, 1) := by decide +kernel
theorem dX10_contract_41 : decode cX10_contract 41 = .ok (.iload_n 2, 1) := by decide +kernel
theorem dX10_contract_42 : decode cX10_contract 42 = .ok (.invokevirtual 197, 3) := by decide +kernel
theorem dX10_contract_45 : decode cX10_contract 45 = .ok (.ifCond .eq 7, 3) := by decide +kernel
theorem dX10_contract_48 : decode cX10_contract 48 = .ok (.iconst 2, 1) := by decide +kernel
theorem dX10_contract_49 : decode cX10_contract 49 = .ok (.goto 4, 3) := by decide +kernel
theorem dX10_contract_52 : decode cX10_contract 52 = .ok (.iconst 1, 1) := by decide +kernel
theorem dX10_contract_53 : decode cX10_contract 53 = .ok (.ireturn, 1) := by decide +kernel
theorem dX10_remember_0 : decode cX10_remember 0 = .ok (.aload_n 0, 1) := by decide +kernel
theorem dX10_remember_1 : decode cX10_remember 1 = .ok (.getfield 191, 3) := by decide +kernel
theorem dX10_remember_4 : decode cX10_remember 4 = .ok (.bipush 20, 2) := by decide +kernel
theorem dX10_remember_6 : decode cX10_remember 6 = .ok (.if_icmp .ne 44, 3) := by decide +kernel
theorem dX10_remember_9 : decode cX10_remember 9 = .ok (.bipush 43, 2) := by decide +kernel
theorem dX10_remember_11 : decode cX10_remember 11 = .ok (.istore_n 1, 1) := by decide +kernel
theorem dX10_remember_12 : decode cX10_remember 12 = .ok (.iload_n 1, 1) := by decide +kernel
theorem dX10_remember_13 : decode cX10_remember 13 = .ok (.sipush 860, 3) := by decide +kernel
theorem dX10_remember_16 : decode cX10_remember 16 = .ok (.if_icmp .ge 24, 3) := by decide +kernel
theorem dX10_remember_19 : decode cX10_remember 19 = .ok (.aload_n 0, 1) := by decide +kernel
theorem dX10_remember_20 : decode cX10_remember 20 = .ok (.getfield 62, 3) := by decide +kernel
theorem dX10_remember_23 : decode cX10_remember 23 = .ok (.iload_n 1, 1) := by decide +kernel
theorem dX10_remember_24 : decode cX10_remember 24 = .ok (.bipush 43, 2) := by decide +kernel
theorem dX10_remember_26 : decode cX10_remember 26 = .ok (.isub, 1) := by decide +kernel
theorem dX10_remember_27 : decode cX10_remember 27 = .ok (.aload_n 0, 1) := by decide +kernel
theorem dX10_remember_28 : decode cX10_remember 28 = .ok (.getfield 62, 3) := by decide +kernel
theorem dX10_remember_31 : decode cX10_remember 31 = .ok (.iload_n 1, 1) := by decide +kernel
theorem dX10_remember_32 : decode cX10_remember 32 = .ok (.iaload, 1) := by decide +kernel
theorem dX10_remember_33 : decode cX10_remember 33 = .ok (.iastore, 1) := by decide +kernel
theorem dX10_remember_34 : decode cX10_remember 34 = .ok (.iinc 1 1, 3) := by decide +kernel
theorem dX10_remember_37 : decode cX10_remember 37 = .ok (.goto (-25), 3) := by decide +kernel
theorem dX10_remember_40 : decode cX10_remember 40 = .ok (.aload_n 0, 1) := by decide +kernel
theorem dX10_remember_41 : decode cX10_remember 41 = .ok (.dup, 1) := by decide +kernel
theorem dX10_remember_42 : decode cX10_remember 42 = .ok (.getfield 191, 3) := by decide +kernel
theorem dX10_remember_45 : decode cX10_remember 45 = .ok (.iconst 1, 1) := by decide +kernel
theorem dX10_remember_46 : decode cX10_remember 46 = .ok (.isub, 1) := by decide +kernel
theorem dX10_remember_47 : decode cX10_remember 47 = .ok (.putfield 191, 3) := by decide +kernel
theorem dX10_remember_50 : decode cX10_remember 50 = .ok (.iconst 0, 1) := by decide +kernel
theorem dX10_remember_51 : decode cX10_remember 51 = .ok (.istore_n 1, 1) := by decide +kernel
theorem dX10_remember_52 : decode cX10_remember 52 = .ok (.iload_n 1, 1) := by decide +kernel
theorem dX10_remember_53 : decode cX10_remember 53 = .ok (.bipush 43, 2) := by decide +kernel
theorem dX10_remember_55 : decode cX10_remember 55 = .ok (.if_icmp .ge 29, 3) := by decide +kernel
theorem dX10_remember_58 : decode cX10_remember 58 = .ok (.aload_n 0, 1) := by decide +kernel
theorem dX10_remember_59 : decode cX10_remember 59 = .ok (.getfield 62, 3) := by decide +kernel
theorem dX10_remember_62 : decode cX10_remember 62 = .ok (.bipush 43, 2) := by decide +kernel
theorem dX10_remember_64 : decode cX10_remember 64 = .ok (.aload_n 0, 1) := by decide +kernel
theorem dX10_remember_65 : decode cX10_remember 65 = .ok (.getfield 191, 3) := by decide +kernel
theorem dX10_remember_68 : decode cX10_remember 68 = .ok (.imul, 1) := by decide +kernel
theorem dX10_remember_69 : decode cX10_remember 69 = .ok (.iload_n 1, 1) := by decide +kernel
theorem dX10_remember_70 : decode cX10_remember 70 = .ok (.iadd, 1) := by decide +kernel
theorem dX10_remember_71 : decode cX10_remember 71 = .ok (.aload_n 0, 1) := by decide +kernel
theorem dX10_remember_72 : decode cX10_remember 72 = .ok (.getfield 29, 3) := by decide +kernel
theorem dX10_remember_75 : decode cX10_remember 75 = .ok (.iload_n 1, 1) := by decide +kernel
theorem dX10_remember_76 : decode cX10_remember 76 = .ok (.iaload, 1) := by decide +kernel
theorem dX10_remember_77 : decode cX10_remember 77 = .ok (.iastore, 1) := by decide +kernel
theorem dX10_remember_78 : decode cX10_remember 78 = .ok (.iinc 1 1, 3) := by decide +kernel
theorem dX10_remember_81 : decode cX10_remember 81 = .ok (.goto (-29), 3) := by decide +kernel
theorem dX10_remember_84 : decode cX10_remember 84 = .ok (.aload_n 0, 1) := by decide +kernel
theorem dX10_remember_85 : decode cX10_remember 85 = .ok (.dup, 1) := by decide +kernel
theorem dX10_remember_86 : decode cX10_remember 86 = .ok (.getfield 191, 3) := by decide +kernel
theorem dX10_remember_89 : decode cX10_remember 89 = .ok (.iconst 1, 1) := by decide +kernel
theorem dX10_remember_90 : decode cX10_remember 90 = .ok (.iadd, 1) := by decide +kernel
theorem dX10_remember_91 : decode cX10_remember 91 = .ok (.putfield 191, 3) := by decide +kernel
theorem dX10_remember_94 : decode cX10_remember 94 = .ok (.return_, 1) := by decide +kernel
theorem dX10_holds_0 : decode cX10_holds 0 = .ok (.aload_n 0, 1) := by decide +kernel
theorem dX10_holds_1 : decode cX10_holds 1 = .ok (.iload_n 1, 1) := by decide +kernel
theorem dX10_holds_2 : decode cX10_holds 2 = .ok (.invokevirtual 211, 3) := by decide +kernel
theorem dX10_holds_5 : decode cX10_holds 5 = .ok (.istore_n 3, 1) := by decide +kernel
theorem dX10_holds_6 : decode cX10_holds 6 = .ok (.aload_n 0, 1) := by decide +kernel
theorem dX10_holds_7 : decode cX10_holds 7 = .ok (.iload_n 2, 1) := by decide +kernel
theorem dX10_holds_8 : decode cX10_holds 8 = .ok (.invokevirtual 211, 3) := by decide +kernel
theorem dX10_holds_11 : decode cX10_holds 11 = .ok (.istore 4, 2) := by decide +kernel
theorem dX10_holds_13 : decode cX10_holds 13 = .ok (.aload_n 0, 1) := by decide +kernel
theorem dX10_holds_14 : decode cX10_holds 14 = .ok (.getfield 29, 3) := by decide +kernel
theorem dX10_holds_17 : decode cX10_holds 17 = .ok (.bipush 27, 2) := by decide +kernel
theorem dX10_holds_19 : decode cX10_holds 19 = .ok (.iload_n 1, 1) := by decide +kernel
theorem dX10_holds_20 : decode cX10_holds 20 = .ok (.iadd, 1) := by decide +kernel
theorem dX10_holds_21 : decode cX10_holds 21 = .ok (.iaload, 1) := by decide +kernel
theorem dX10_holds_22 : decode cX10_holds 22 = .ok (.aload_n 0, 1) := by decide +kernel
theorem dX10_holds_23 : decode cX10_holds 23 = .ok (.getfield 29, 3) := by decide +kernel
theorem dX10_holds_26 : decode cX10_holds 26 = .ok (.bipush 27, 2) := by decide +kernel
theorem dX10_holds_28 : decode cX10_holds 28 = .ok (.iload_n 2, 1) := by decide +kernel
theorem dX10_holds_29 : decode cX10_holds 29 = .ok (.iadd, 1) := by decide +kernel
theorem dX10_holds_30 : decode cX10_holds 30 = .ok (.iaload, 1) := by decide +kernel
theorem dX10_holds_31 : decode cX10_holds 31 = .ok (.iand, 1) := by decide +kernel
theorem dX10_holds_32 : decode cX10_holds 32 = .ok (.iconst 1, 1) := by decide +kernel
theorem dX10_holds_33 : decode cX10_holds 33 = .ok (.iload_n 1, 1) := by decide +kernel
theorem dX10_holds_34 : decode cX10_holds 34 = .ok (.ishl, 1) := by decide +kernel
theorem dX10_holds_35 : decode cX10_holds 35 = .ok (.iconst 1, 1) := by decide +kernel
theorem dX10_holds_36 : decode cX10_holds 36 = .ok (.iload_n 2, 1) := by decide +kernel
theorem dX10_holds_37 : decode cX10_holds 37 = .ok (.ishl, 1) := by decide +kernel
theorem dX10_holds_38 : decode cX10_holds 38 = .ok (.ior, 1) := by decide +kernel
theorem dX10_holds_39 : decode cX10_holds 39 = .ok (.iconst 1, 1) := by decide +kernel
theorem dX10_holds_40 : decode cX10_holds 40 = .ok (.iload_n 3, 1) := by decide +kernel
theorem dX10_holds_41 : decode cX10_holds 41 = .ok (.ishl, 1) := by decide +kernel
theorem dX10_holds_42 : decode cX10_holds 42 = .ok (.ior, 1) := by decide +kernel
theorem dX10_holds_43 : decode cX10_holds 43 = .ok (.iconst 1, 1) := by decide +kernel
theorem dX10_holds_44 : decode cX10_holds 44 = .ok (.iload 4, 2) := by decide +kernel
theorem dX10_holds_46 : decode cX10_holds 46 = .ok (.ishl, 1) := by decide +kernel
theorem dX10_holds_47 : decode cX10_holds 47 = .ok (.ior, 1) := by decide +kernel
theorem dX10_holds_48 : decode cX10_holds 48 = .ok (.iconst (-1), 1) := by decide +kernel
theorem dX10_holds_49 : decode cX10_holds 49 = .ok (.ixor, 1) := by decide +kernel
theorem dX10_holds_50 : decode cX10_holds 50 = .ok (.iand, 1) := by decide +kernel
theorem dX10_holds_51 : decode cX10_holds 51 = .ok (.istore 5, 2) := by decide +kernel
theorem dX10_holds_53 : decode cX10_holds 53 = .ok (.iload 5, 2) := by decide +kernel
theorem dX10_holds_55 : decode cX10_holds 55 = .ok (.ifCond .eq 26, 3) := by decide +kernel
theorem dX10_holds_58 : decode cX10_holds 58 = .ok (.iload_n 3, 1) := by decide +kernel
theorem dX10_holds_59 : decode cX10_holds 59 = .ok (.iload 4, 2) := by decide +kernel
theorem dX10_holds_61 : decode cX10_holds 61 = .ok (.if_icmp .eq 20, 3) := by decide +kernel
theorem dX10_holds_64 : decode cX10_holds 64 = .ok (.aload_n 0, 1) := by decide +kernel
theorem dX10_holds_65 : decode cX10_holds 65 = .ok (.getfield 29, 3) := by decide +kernel
theorem dX10_holds_68 : decode cX10_holds 68 = .ok (.bipush 35, 2) := by decide +kernel
theorem dX10_holds_70 : decode cX10_holds 70 = .ok (.iload_n 3, 1) := by decide +kernel
theorem dX10_holds_71 : decode cX10_holds 71 = .ok (.iadd, 1) := by decide +kernel
theorem dX10_holds_72 : decode cX10_holds 72 = .ok (.iaload, 1) := by decide +kernel
theorem dX10_holds_73 : decode cX10_holds 73 = .ok (.iload 4, 2) := by decide +kernel
theorem dX10_holds_75 : decode cX10_holds 75 = .ok (.invokestatic 194, 3) := by decide +kernel
theorem dX10_holds_78 : decode cX10_holds 78 = .ok (.ifCond .eq 5, 3) := by decide +kernel
theorem dX10_holds_81 : decode cX10_holds 81 = .ok (.iconst 0, 1) := by decide +kernel
theorem dX10_holds_82 : decode cX10_holds 82 = .ok (.ireturn, 1) := by decide +kernel
theorem dX10_holds_83 : decode cX10_holds 83 = .ok (.aload_n 0, 1) := by decide +kernel
theorem dX10_holds_84 : decode cX10_holds 84 = .ok (.getfield 29, 3) := by decide +kernel
theorem dX10_holds_87 : decode cX10_holds 87 = .ok (.bipush 35, 2) := by decide +kernel
theorem dX10_holds_89 : decode cX10_holds 89 = .ok (.iload_n 3, 1) := by decide +kernel
theorem dX10_holds_90 : decode cX10_holds 90 = .ok (.iadd, 1) := by decide +kernel
theorem dX10_holds_91 : decode cX10_holds 91 = .ok (.dup2, 1) := by decide +kernel
theorem dX10_holds_92 : decode cX10_holds 92 = .ok (.iaload, 1) := by decide +kernel
theorem dX10_holds_93 : decode cX10_holds 93 = .ok (.iconst 1, 1) := by decide +kernel
theorem dX10_holds_94 : decode cX10_holds 94 = .ok (.iload 4, 2) := by decide +kernel
theorem dX10_holds_96 : decode cX10_holds 96 = .ok (.ishl, 1) := by decide +kernel
theorem dX10_holds_97 : decode cX10_holds 97 = .ok (.ior, 1) := by decide +kernel
theorem dX10_holds_98 : decode cX10_holds 98 = .ok (.iastore, 1) := by decide +kernel
theorem dX10_holds_99 : decode cX10_holds 99 = .ok (.aload_n 0, 1) := by decide +kernel
theorem dX10_holds_100 : decode cX10_holds 100 = .ok (.getfield 29, 3) := by decide +kernel
theorem dX10_holds_103 : decode cX10_holds 103 = .ok (.bipush 35, 2) := by decide +kernel
theorem dX10_holds_105 : decode cX10_holds 105 = .ok (.iload 4, 2) := by decide +kernel
theorem dX10_holds_107 : decode cX10_holds 107 = .ok (.iadd, 1) := by decide +kernel
theorem dX10_holds_108 : decode cX10_holds 108 = .ok (.dup2, 1) := by decide +kernel
theorem dX10_holds_109 : decode cX10_holds 109 = .ok (.iaload, 1) := by decide +kernel
theorem dX10_holds_110 : decode cX10_holds 110 = .ok (.iconst 1, 1) := by decide +kernel
theorem dX10_holds_111 : decode cX10_holds 111 = .ok (.iload_n 3, 1) := by decide +kernel
theorem dX10_holds_112 : decode cX10_holds 112 = .ok (.ishl, 1) := by decide +kernel
theorem dX10_holds_113 : decode cX10_holds 113 = .ok (.ior, 1) := by decide +kernel
theorem dX10_holds_114 : decode cX10_holds 114 = .ok (.iastore, 1) := by decide +kernel
theorem dX10_holds_115 : decode cX10_holds 115 = .ok (.iconst 1, 1) := by decide +kernel
theorem dX10_holds_116 : decode cX10_holds 116 = .ok (.ireturn, 1) := by decide +kernel
theorem dX10_lightNow_0 : decode cX10_lightNow 0 = .ok (.aload_n 0, 1) := by decide +kernel
theorem dX10_lightNow_1 : decode cX10_lightNow 1 = .ok (.iload_n 1, 1) := by decide +kernel
theorem dX10_lightNow_2 : decode cX10_lightNow 2 = .ok (.invokevirtual 229, 3) := by decide +kernel
theorem dX10_lightNow_5 : decode cX10_lightNow 5 = .ok (.istore_n 2, 1) := by decide +kernel
theorem dX10_lightNow_6 : decode cX10_lightNow 6 = .ok (.aload_n 0, 1) := by decide +kernel
theorem dX10_lightNow_7 : decode cX10_lightNow 7 = .ok (.getfield 29, 3) := by decide +kernel
theorem dX10_lightNow_10 : decode cX10_lightNow 10 = .ok (.bipush 19, 2) := by decide +kernel
theorem dX10_lightNow_12 : decode cX10_lightNow 12 = .ok (.iload_n 1, 1) := by decide +kernel
theorem dX10_lightNow_13 : decode cX10_lightNow 13 = .ok (.iadd, 1) := by decide +kernel
theorem dX10_lightNow_14 : decode cX10_lightNow 14 = .ok (.aload_n 0, 1) := by decide +kernel
theorem dX10_lightNow_15 : decode cX10_lightNow 15 = .ok (.iload_n 1, 1) := by decide +kernel
theorem dX10_lightNow_16 : decode cX10_lightNow 16 = .ok (.invokevirtual 214, 3) := by decide +kernel
theorem dX10_lightNow_19 : decode cX10_lightNow 19 = .ok (.iastore, 1) := by decide +kernel
theorem dX10_lightNow_20 : decode cX10_lightNow 20 = .ok (.aload_n 0, 1) := by decide +kernel
theorem dX10_lightNow_21 : decode cX10_lightNow 21 = .ok (.getfield 29, 3) := by decide +kernel
theorem dX10_lightNow_24 : decode cX10_lightNow 24 = .ok (.bipush 11, 2) := by decide +kernel
theorem dX10_lightNow_26 : decode cX10_lightNow 26 = .ok (.iload_n 1, 1) := by decide +kernel
theorem dX10_lightNow_27 : decode cX10_lightNow 27 = .ok (.iadd, 1) := by decide +kernel
theorem dX10_lightNow_28 : decode cX10_lightNow 28 = .ok (.aload_n 0, 1) := by decide +kernel
theorem dX10_lightNow_29 : decode cX10_lightNow 29 = .ok (.getfield 29, 3) := by decide +kernel
theorem dX10_lightNow_32 : decode cX10_lightNow 32 = .ok (.iconst 2, 1) := by decide +kernel
theorem dX10_lightNow_33 : decode cX10_lightNow 33 = .ok (.iaload, 1) := by decide +kernel
theorem dX10_lightNow_34 : decode cX10_lightNow 34 = .ok (.iastore, 1) := by decide +kernel
theorem dX10_lightNow_35 : decode cX10_lightNow 35 = .ok (.aload_n 0, 1) := by decide +kernel
theorem dX10_lightNow_36 : decode cX10_lightNow 36 = .ok (.getfield 29, 3) := by decide +kernel
theorem dX10_lightNow_39 : decode cX10_lightNow 39 = .ok (.bipush 27, 2) := by decide +kernel
theorem dX10_lightNow_41 : decode cX10_lightNow 41 = .ok (.iload_n 1, 1) := by decide +kernel
theorem dX10_lightNow_42 : decode cX10_lightNow 42 = .ok (.iadd, 1) := by decide +kernel
theorem dX10_lightNow_43 : decode cX10_lightNow 43 = .ok (.iload_n 2, 1) := by decide +kernel
theorem dX10_lightNow_44 : decode cX10_lightNow 44 = .ok (.iastore, 1) := by decide +kernel
theorem dX10_lightNow_45 : decode cX10_lightNow 45 = .ok (.return_, 1) := by decide +kernel
theorem dX10_light_0 : decode cX10_light 0 = .ok (.aload_n 0, 1) := by decide +kernel
theorem dX10_light_1 : decode cX10_light 1 = .ok (.iload_n 1, 1) := by decide +kernel
theorem dX10_light_2 : decode cX10_light 2 = .ok (.invokevirtual 204, 3) := by decide +kernel
theorem dX10_light_5 : decode cX10_light 5 = .ok (.ifCond .ne 6, 3) := by decide +kernel
theorem dX10_light_8 : decode cX10_light 8 = .ok (.ldc 207, 2) := by decide +kernel
theorem dX10_light_10 : decode cX10_light 10 = .ok (.ireturn, 1) := by decide +kernel
theorem dX10_light_11 : decode cX10_light 11 = .ok (.aload_n 0, 1) := by decide +kernel
theorem dX10_light_12 : decode cX10_light 12 = .ok (.getfield 29, 3) := by decide +kernel
theorem dX10_light_15 : decode cX10_light 15 = .ok (.iconst 3, 1) := by decide +kernel
theorem dX10_light_16 : decode cX10_light 16 = .ok (.iload_n 1, 1) := by decide +kernel
theorem dX10_light_17 : decode cX10_light 17 = .ok (.iadd, 1) := by decide +kernel
theorem dX10_light_18 : decode cX10_light 18 = .ok (.iaload, 1) := by decide +kernel
theorem dX10_light_19 : decode cX10_light 19 = .ok (.ifCond .eq 21, 3) := by decide +kernel
theorem dX10_light_22 : decode cX10_light 22 = .ok (.aload_n 0, 1) := by decide +kernel
theorem dX10_light_23 : decode cX10_light 23 = .ok (.getfield 29, 3) := by decide +kernel
theorem dX10_light_26 : decode cX10_light 26 = .ok (.bipush 11, 2) := by decide +kernel
theorem dX10_light_28 : decode cX10_light 28 = .ok (.iload_n 1, 1) := by decide +kernel
theorem dX10_light_29 : decode cX10_light 29 = .ok (.iadd, 1) := by decide +kernel
theorem dX10_light_30 : decode cX10_light 30 = .ok (.iaload, 1) := by decide +kernel
theorem dX10_light_31 : decode cX10_light 31 = .ok (.aload_n 0, 1) := by decide +kernel
theorem dX10_light_32 : decode cX10_light 32 = .ok (.getfield 29, 3) := by decide +kernel
theorem dX10_light_35 : decode cX10_light 35 = .ok (.iconst 2, 1) := by decide +kernel
theorem dX10_light_36 : decode cX10_light 36 = .ok (.iaload, 1) := by decide +kernel
theorem dX10_light_37 : decode cX10_light 37 = .ok (.if_icmp .ne 6, 3) := by decide +kernel
theorem dX10_light_40 : decode cX10_light 40 = .ok (.ldc 232, 2) := by decide +kernel
theorem dX10_light_42 : decode cX10_light 42 = .ok (.ireturn, 1) := by decide +kernel
theorem dX10_light_43 : decode cX10_light 43 = .ok (.aload_n 0, 1) := by decide +kernel
theorem dX10_light_44 : decode cX10_light 44 = .ok (.invokevirtual 233, 3) := by decide +kernel
theorem dX10_light_47 : decode cX10_light 47 = .ok (.aload_n 0, 1) := by decide +kernel
theorem dX10_light_48 : decode cX10_light 48 = .ok (.getfield 29, 3) := by decide +kernel
theorem dX10_light_51 : decode cX10_light 51 = .ok (.iconst 3, 1) := by decide +kernel
theorem dX10_light_52 : decode cX10_light 52 = .ok (.iload_n 1, 1) := by decide +kernel
theorem dX10_light_53 : decode cX10_light 53 = .ok (.iadd, 1) := by decide +kernel
theorem dX10_light_54 : decode cX10_light 54 = .ok (.dup2, 1) := by decide +kernel
theorem dX10_light_55 : decode cX10_light 55 = .ok (.iaload, 1) := by decide +kernel
theorem dX10_light_56 : decode cX10_light 56 = .ok (.iconst 1, 1) := by decide +kernel
theorem dX10_light_57 : decode cX10_light 57 = .ok (.isub, 1) := by decide +kernel
theorem dX10_light_58 : decode cX10_light 58 = .ok (.iastore, 1) := by decide +kernel
theorem dX10_light_59 : decode cX10_light 59 = .ok (.aload_n 0, 1) := by decide +kernel
theorem dX10_light_60 : decode cX10_light 60 = .ok (.iload_n 1, 1) := by decide +kernel
theorem dX10_light_61 : decode cX10_light 61 = .ok (.invokevirtual 236, 3) := by decide +kernel
theorem dX10_light_64 : decode cX10_light 64 = .ok (.iconst 0, 1) := by decide +kernel
theorem dX10_light_65 : decode cX10_light 65 = .ok (.istore_n 2, 1) := by decide +kernel
theorem dX10_light_66 : decode cX10_light 66 = .ok (.iconst 0, 1) := by decide +kernel
theorem dX10_light_67 : decode cX10_light 67 = .ok (.istore_n 3, 1) := by decide +kernel
theorem dX10_light_68 : decode cX10_light 68 = .ok (.iload_n 3, 1) := by decide +kernel
theorem dX10_light_69 : decode cX10_light 69 = .ok (.aload_n 0, 1) := by decide +kernel
theorem dX10_light_70 : decode cX10_light 70 = .ok (.getfield 102, 3) := by decide +kernel
theorem dX10_light_73 : decode cX10_light 73 = .ok (.if_icmp .ge 75, 3) := by decide +kernel
theorem dX10_light_76 : decode cX10_light 76 = .ok (.iload_n 3, 1) := by decide +kernel
theorem dX10_light_77 : decode cX10_light 77 = .ok (.iload_n 1, 1) := by decide +kernel
theorem dX10_light_78 : decode cX10_light 78 = .ok (.if_icmp .eq 39, 3) := by decide +kernel
theorem dX10_light_81 : decode cX10_light 81 = .ok (.aload_n 0, 1) := by decide +kernel
theorem dX10_light_82 : decode cX10_light 82 = .ok (.getfield 29, 3) := by decide +kernel
theorem dX10_light_85 : decode cX10_light 85 = .ok (.bipush 11, 2) := by decide +kernel
theorem dX10_light_87 : decode cX10_light 87 = .ok (.iload_n 3, 1) := by decide +kernel
theorem dX10_light_88 : decode cX10_light 88 = .ok (.iadd, 1) := by decide +kernel
theorem dX10_light_89 : decode cX10_light 89 = .ok (.iaload, 1) := by decide +kernel
theorem dX10_light_90 : decode cX10_light 90 = .ok (.ifCond .lt 27, 3) := by decide +kernel
theorem dX10_light_93 : decode cX10_light 93 = .ok (.aload_n 0, 1) := by decide +kernel
theorem dX10_light_94 : decode cX10_light 94 = .ok (.getfield 29, 3) := by decide +kernel
theorem dX10_light_97 : decode cX10_light 97 = .ok (.iconst 2, 1) := by decide +kernel
theorem dX10_light_98 : decode cX10_light 98 = .ok (.iaload, 1) := by decide +kernel
theorem dX10_light_99 : decode cX10_light 99 = .ok (.aload_n 0, 1) := by decide +kernel
theorem dX10_light_100 : decode cX10_light 100 = .ok (.getfield 29, 3) := by decide +kernel
theorem dX10_light_103 : decode cX10_light 103 = .ok (.bipush 11, 2) := by decide +kernel
theorem dX10_light_105 : decode cX10_light 105 = .ok (.iload_n 3, 1) := by decide +kernel
theorem dX10_light_106 : decode cX10_light 106 = .ok (.iadd, 1) := by decide +kernel
theorem dX10_light_107 : decode cX10_light 107 = .ok (.iaload, 1) := by decide +kernel
theorem dX10_light_108 : decode cX10_light 108 = .ok (.isub, 1) := by decide +kernel
theorem dX10_light_109 : decode cX10_light 109 = .ok (.iconst 1, 1) := by decide +kernel
theorem dX10_light_110 : decode cX10_light 110 = .ok (.if_icmp .gt 7, 3) := by decide +kernel
theorem dX10_light_113 : decode cX10_light 113 = .ok (.iconst 1, 1) := by decide +kernel
theorem dX10_light_114 : decode cX10_light 114 = .ok (.goto 4, 3) := by decide +kernel
theorem dX10_light_117 : decode cX10_light 117 = .ok (.iconst 0, 1) := by decide +kernel
theorem dX10_light_118 : decode cX10_light 118 = .ok (.istore 4, 2) := by decide +kernel
theorem dX10_light_120 : decode cX10_light 120 = .ok (.iload_n 2, 1) := by decide +kernel
theorem dX10_light_121 : decode cX10_light 121 = .ok (.iload 4, 2) := by decide +kernel
theorem dX10_light_123 : decode cX10_light 123 = .ok (.ifCond .eq 16, 3) := by decide +kernel
theorem dX10_light_126 : decode cX10_light 126 = .ok (.aload_n 0, 1) := by decide +kernel
theorem dX10_light_127 : decode cX10_light 127 = .ok (.iload_n 1, 1) := by decide +kernel
theorem dX10_light_128 : decode cX10_light 128 = .ok (.iload_n 3, 1) := by decide +kernel
theorem dX10_light_129 : decode cX10_light 129 = .ok (.invokevirtual 240, 3) := by decide +kernel
theorem dX10_light_132 : decode cX10_light 132 = .ok (.ifCond .eq 7, 3) := by decide +kernel
theorem dX10_light_135 : decode cX10_light 135 = .ok (.iconst 1, 1) := by decide +kernel
theorem dX10_light_136 : decode cX10_light 136 = .ok (.goto 4, 3) := by decide +kernel
theorem dX10_light_139 : decode cX10_light 139 = .ok (.iconst 0, 1) := by decide +kernel
theorem dX10_light_140 : decode cX10_light 140 = .ok (.iadd, 1) := by decide +kernel
theorem dX10_light_141 : decode cX10_light 141 = .ok (.istore_n 2, 1) := by decide +kernel
theorem dX10_light_142 : decode cX10_light 142 = .ok (.iinc 3 1, 3) := by decide +kernel
theorem dX10_light_145 : decode cX10_light 145 = .ok (.goto (-77), 3) := by decide +kernel
theorem dX10_light_148 : decode cX10_light 148 = .ok (.iload_n 2, 1) := by decide +kernel
theorem dX10_light_149 : decode cX10_light 149 = .ok (.ireturn, 1) := by decide +kernel
theorem dX10_minutesRefused_0 : decode cX10_minutesRefused 0 = .ok (.iload_n 1, 1) := by decide +kernel
theorem dX10_minutesRefused_1 : decode cX10_minutesRefused 1 = .ok (.i2l, 1) := by decide +kernel
theorem dX10_minutesRefused_2 : decode cX10_minutesRefused 2 = .ok (.lconst 1, 1) := by decide +kernel
theorem dX10_minutesRefused_3 : decode cX10_minutesRefused 3 = .ok (.ldc2_w 243, 3) := by decide +kernel
theorem dX10_minutesRefused_6 : decode cX10_minutesRefused 6 = .ok (.invokestatic 105, 3) := by decide +kernel
theorem dX10_minutesRefused_9 : decode cX10_minutesRefused 9 = .ok (.ifCond .ne 6, 3) := by decide +kernel
theorem dX10_minutesRefused_12 : decode cX10_minutesRefused 12 = .ok (.ldc 111, 2) := by decide +kernel
theorem dX10_minutesRefused_14 : decode cX10_minutesRefused 14 = .ok (.ireturn, 1) := by decide +kernel
theorem dX10_minutesRefused_15 : decode cX10_minutesRefused 15 = .ok (.aload_n 0, 1) := by decide +kernel
theorem dX10_minutesRefused_16 : decode cX10_minutesRefused 16 = .ok (.getfield 99, 3) := by decide +kernel
theorem dX10_minutesRefused_19 : decode cX10_minutesRefused 19 = .ok (.ifCond .ne 8, 3) := by decide +kernel
theorem dX10_minutesRefused_22 : decode cX10_minutesRefused 22 = .ok (.ldc 232, 2) := by decide +kernel
theorem dX10_minutesRefused_24 : decode cX10_minutesRefused 24 = .ok (.goto 20, 3) := by decide +kernel
theorem dX10_minutesRefused_27 : decode cX10_minutesRefused 27 = .ok (.aload_n 0, 1) := by decide +kernel
theorem dX10_minutesRefused_28 : decode cX10_minutesRefused 28 = .ok (.getfield 29, 3) := by decide +kernel
theorem dX10_minutesRefused_31 : decode cX10_minutesRefused 31 = .ok (.iconst 2, 1) := by decide +kernel
theorem dX10_minutesRefused_32 : decode cX10_minutesRefused 32 = .ok (.iaload, 1) := by decide +kernel
theorem dX10_minutesRefused_33 : decode cX10_minutesRefused 33 = .ok (.ldc 245, 2) := by decide +kernel
theorem dX10_minutesRefused_35 : decode cX10_minutesRefused 35 = .ok (.if_icmp .le 8, 3) := by decide +kernel
theorem dX10_minutesRefused_38 : decode cX10_minutesRefused 38 = .ok (.ldc 115, 2) := by decide +kernel
theorem dX10_minutesRefused_40 : decode cX10_minutesRefused 40 = .ok (.goto 4, 3) := by decide +kernel
theorem dX10_minutesRefused_43 : decode cX10_minutesRefused 43 = .ok (.iconst 0, 1) := by decide +kernel
theorem dX10_minutesRefused_44 : decode cX10_minutesRefused 44 = .ok (.ireturn, 1) := by decide +kernel
theorem dX10_minute_0 : decode cX10_minute 0 = .ok (.aload_n 0, 1) := by decide +kernel
theorem dX10_minute_1 : decode cX10_minute 1 = .ok (.iload_n 1, 1) := by decide +kernel
theorem dX10_minute_2 : decode cX10_minute 2 = .ok (.invokevirtual 246, 3) := by decide +kernel
theorem dX10_minute_5 : decode cX10_minute 5 = .ok (.istore_n 2, 1) := by decide +kernel
theorem dX10_minute_6 : decode cX10_minute 6 = .ok (.iload_n 2, 1) := by decide +kernel
theorem dX10_minute_7 : decode cX10_minute 7 = .ok (.ifCond .eq 5, 3) := by decide +kernel
theorem dX10_minute_10 : decode cX10_minute 10 = .ok (.iload_n 2, 1) := by decide +kernel
theorem dX10_minute_11 : decode cX10_minute 11 = .ok (.ireturn, 1) := by decide +kernel
theorem dX10_minute_12 : decode cX10_minute 12 = .ok (.aload_n 0, 1) := by decide +kernel
theorem dX10_minute_13 : decode cX10_minute 13 = .ok (.invokevirtual 233, 3) := by decide +kernel
theorem dX10_minute_16 : decode cX10_minute 16 = .ok (.aload_n 0, 1) := by decide +kernel
theorem dX10_minute_17 : decode cX10_minute 17 = .ok (.getfield 29, 3) := by decide +kernel
theorem dX10_minute_20 : decode cX10_minute 20 = .ok (.iconst 2, 1) := by decide +kernel
theorem dX10_minute_21 : decode cX10_minute 21 = .ok (.dup2, 1) := by decide +kernel
theorem dX10_minute_22 : decode cX10_minute 22 = .ok (.iaload, 1) := by decide +kernel
theorem dX10_minute_23 : decode cX10_minute 23 = .ok (.iload_n 1, 1) := by decide +kernel
theorem dX10_minute_24 : decode cX10_minute 24 = .ok (.iadd, 1) := by decide +kernel
theorem dX10_minute_25 : decode cX10_minute 25 = .ok (.iastore, 1) := by decide +kernel
theorem dX10_minute_26 : decode cX10_minute 26 = .ok (.aload_n 0, 1) := by decide +kernel
theorem dX10_minute_27 : decode cX10_minute 27 = .ok (.getfield 29, 3) := by decide +kernel
theorem dX10_minute_30 : decode cX10_minute 30 = .ok (.iconst 2, 1) := by decide +kernel
theorem dX10_minute_31 : decode cX10_minute 31 = .ok (.iaload, 1) := by decide +kernel
theorem dX10_minute_32 : decode cX10_minute 32 = .ok (.ireturn, 1) := by decide +kernel
theorem dX10_fog_0 : decode cX10_fog 0 = .ok (.iload_n 1, 1) := by decide +kernel
theorem dX10_fog_1 : decode cX10_fog 1 = .ok (.i2l, 1) := by decide +kernel
theorem dX10_fog_2 : decode cX10_fog 2 = .ok (.lconst 0, 1) := by decide +kernel
theorem dX10_fog_3 : decode cX10_fog 3 = .ok (.ldc2_w 249, 3) := by decide +kernel
theorem dX10_fog_6 : decode cX10_fog 6 = .ok (.invokestatic 105, 3) := by decide +kernel
theorem dX10_fog_9 : decode cX10_fog 9 = .ok (.ifCond .ne 6, 3) := by decide +kernel
theorem dX10_fog_12 : decode cX10_fog 12 = .ok (.ldc 111, 2) := by decide +kernel
theorem dX10_fog_14 : decode cX10_fog 14 = .ok (.ireturn, 1) := by decide +kernel
theorem dX10_fog_15 : decode cX10_fog 15 = .ok (.aload_n 0, 1) := by decide +kernel
theorem dX10_fog_16 : decode cX10_fog 16 = .ok (.getfield 99, 3) := by decide +kernel
theorem dX10_fog_19 : decode cX10_fog 19 = .ok (.ifCond .ne 6, 3) := by decide +kernel
theorem dX10_fog_22 : decode cX10_fog 22 = .ok (.ldc 232, 2) := by decide +kernel
theorem dX10_fog_24 : decode cX10_fog 24 = .ok (.ireturn, 1) := by decide +kernel
theorem dX10_fog_25 : decode cX10_fog 25 = .ok (.aload_n 0, 1) := by decide +kernel
theorem dX10_fog_26 : decode cX10_fog 26 = .ok (.invokevirtual 233, 3) := by decide +kernel
theorem dX10_fog_29 : decode cX10_fog 29 = .ok (.aload_n 0, 1) := by decide +kernel
theorem dX10_fog_30 : decode cX10_fog 30 = .ok (.getfield 29, 3) := by decide +kernel
theorem dX10_fog_33 : decode cX10_fog 33 = .ok (.iconst 0, 1) := by decide +kernel
theorem dX10_fog_34 : decode cX10_fog 34 = .ok (.iaload, 1) := by decide +kernel
theorem dX10_fog_35 : decode cX10_fog 35 = .ok (.istore_n 2, 1) := by decide +kernel
theorem dX10_fog_36 : decode cX10_fog 36 = .ok (.aload_n 0, 1) := by decide +kernel
theorem dX10_fog_37 : decode cX10_fog 37 = .ok (.getfield 29, 3) := by decide +kernel
theorem dX10_fog_40 : decode cX10_fog 40 = .ok (.iconst 0, 1) := by decide +kernel
theorem dX10_fog_41 : decode cX10_fog 41 = .ok (.iload_n 1, 1) := by decide +kernel
theorem dX10_fog_42 : decode cX10_fog 42 = .ok (.iastore, 1) := by decide +kernel
theorem dX10_fog_43 : decode cX10_fog 43 = .ok (.iload_n 2, 1) := by decide +kernel
theorem dX10_fog_44 : decode cX10_fog 44 = .ok (.ireturn, 1) := by decide +kernel
theorem dX10_wind_0 : decode cX10_wind 0 = .ok (.iload_n 1, 1) := by decide +kernel
theorem dX10_wind_1 : decode cX10_wind 1 = .ok (.i2l, 1) := by decide +kernel
theorem dX10_wind_2 : decode cX10_wind 2 = .ok (.ldc2_w 251, 3) := by decide +kernel
theorem dX10_wind_5 : decode cX10_wind 5 = .ok (.ldc2_w 253, 3) := by decide +kernel
theorem dX10_wind_8 : decode cX10_wind 8 = .ok (.invokestatic 105, 3) := by decide +kernel
theorem dX10_wind_11 : decode cX10_wind 11 = .ok (.ifCond .ne 6, 3) := by decide +kernel
theorem dX10_wind_14 : decode cX10_wind 14 = .ok (.ldc 111, 2) := by decide +kernel
theorem dX10_wind_16 : decode cX10_wind 16 = .ok (.ireturn, 1) := by decide +kernel
theorem dX10_wind_17 : decode cX10_wind 17 = .ok (.aload_n 0, 1) := by decide +kernel
theorem dX10_wind_18 : decode cX10_wind 18 = .ok (.getfield 99, 3) := by decide +kernel
theorem dX10_wind_21 : decode cX10_wind 21 = .ok (.ifCond .ne 6, 3) := by decide +kernel
theorem dX10_wind_24 : decode cX10_wind 24 = .ok (.ldc 232, 2) := by decide +kernel
theorem dX10_wind_26 : decode cX10_wind 26 = .ok (.ireturn, 1) := by decide +kernel
theorem dX10_wind_27 : decode cX10_wind 27 = .ok (.aload_n 0, 1) := by decide +kernel
theorem dX10_wind_28 : decode cX10_wind 28 = .ok (.invokevirtual 233, 3) := by decide +kernel
theorem dX10_wind_31 : decode cX10_wind 31 = .ok (.aload_n 0, 1) := by decide +kernel
theorem dX10_wind_32 : decode cX10_wind 32 = .ok (.getfield 29, 3) := by decide +kernel
theorem dX10_wind_35 : decode cX10_wind 35 = .ok (.iconst 1, 1) := by decide +kernel
theorem dX10_wind_36 : decode cX10_wind 36 = .ok (.iaload, 1) := by decide +kernel
theorem dX10_wind_37 : decode cX10_wind 37 = .ok (.istore_n 2, 1) := by decide +kernel
theorem dX10_wind_38 : decode cX10_wind 38 = .ok (.aload_n 0, 1) := by decide +kernel
theorem dX10_wind_39 : decode cX10_wind 39 = .ok (.getfield 29, 3) := by decide +kernel
theorem dX10_wind_42 : decode cX10_wind 42 = .ok (.iconst 1, 1) := by decide +kernel
theorem dX10_wind_43 : decode cX10_wind 43 = .ok (.iload_n 1, 1) := by decide +kernel
theorem dX10_wind_44 : decode cX10_wind 44 = .ok (.iastore, 1) := by decide +kernel
theorem dX10_wind_45 : decode cX10_wind 45 = .ok (.iload_n 2, 1) := by decide +kernel
theorem dX10_wind_46 : decode cX10_wind 46 = .ok (.iconst 5, 1) := by decide +kernel
theorem dX10_wind_47 : decode cX10_wind 47 = .ok (.iadd, 1) := by decide +kernel
theorem dX10_wind_48 : decode cX10_wind 48 = .ok (.ireturn, 1) := by decide +kernel
theorem dX10_draw_0 : decode cX10_draw 0 = .ok (.aload_n 0, 1) := by decide +kernel
theorem dX10_draw_1 : decode cX10_draw 1 = .ok (.aload_n 0, 1) := by decide +kernel
theorem dX10_draw_2 : decode cX10_draw 2 = .ok (.getfield 255, 3) := by decide +kernel
theorem dX10_draw_5 : decode cX10_draw 5 = .ok (.i2l, 1) := by decide +kernel
theorem dX10_draw_6 : decode cX10_draw 6 = .ok (.ldc2_w 258, 3) := by decide +kernel
theorem dX10_draw_9 : decode cX10_draw 9 = .ok (.lmul, 1) := by decide +kernel
theorem dX10_draw_10 : decode cX10_draw 10 = .ok (.ldc2_w 260, 3) := by decide +kernel
theorem dX10_draw_13 : decode cX10_draw 13 = .ok (.ladd, 1) := by decide +kernel
theorem dX10_draw_14 : decode cX10_draw 14 = .ok (.ldc2_w 262, 3) := by decide +kernel
theorem dX10_draw_17 : decode cX10_draw 17 = .ok (.lrem, 1) := by decide +kernel
theorem dX10_draw_18 : decode cX10_draw 18 = .ok (.l2i, 1) := by decide +kernel
theorem dX10_draw_19 : decode cX10_draw 19 = .ok (.putfield 255, 3) := by decide +kernel
theorem dX10_draw_22 : decode cX10_draw 22 = .ok (.aload_n 0, 1) := by decide +kernel
theorem dX10_draw_23 : decode cX10_draw 23 = .ok (.getfield 255, 3) := by decide +kernel
theorem dX10_draw_26 : decode cX10_draw 26 = .ok (.ldc_w 264, 3) := by decide +kernel
theorem dX10_draw_29 : decode cX10_draw 29 = .ok (.idiv, 1) := by decide +kernel
theorem dX10_draw_30 : decode cX10_draw 30 = .ok (.iload_n 1, 1) := by decide +kernel
theorem dX10_draw_31 : decode cX10_draw 31 = .ok (.irem, 1) := by decide +kernel
theorem dX10_draw_32 : decode cX10_draw 32 = .ok (.ireturn, 1) := by decide +kernel
theorem dX10_drift_0 : decode cX10_drift 0 = .ok (.aload_n 0, 1) := by decide +kernel
theorem dX10_drift_1 : decode cX10_drift 1 = .ok (.iload_n 1, 1) := by decide +kernel
theorem dX10_drift_2 : decode cX10_drift 2 = .ok (.invokevirtual 246, 3) := by decide +kernel
theorem dX10_drift_5 : decode cX10_drift 5 = .ok (.istore_n 2, 1) := by decide +kernel
theorem dX10_drift_6 : decode cX10_drift 6 = .ok (.iload_n 2, 1) := by decide +kernel
theorem dX10_drift_7 : decode cX10_drift 7 = .ok (.ifCond .eq 5, 3) := by decide +kernel
theorem dX10_drift_10 : decode cX10_drift 10 = .ok (.iload_n 2, 1) := by decide +kernel
theorem dX10_drift_11 : decode cX10_drift 11 = .ok (.ireturn, 1) := by decide +kernel
theorem dX10_drift_12 : decode cX10_drift 12 = .ok (.aload_n 0, 1) := by decide +kernel
theorem dX10_drift_13 : decode cX10_drift 13 = .ok (.invokevirtual 233, 3) := by decide +kernel
theorem dX10_drift_16 : decode cX10_drift 16 = .ok (.iconst 0, 1) := by decide +kernel
theorem dX10_drift_17 : decode cX10_drift 17 = .ok (.istore_n 3, 1) := by decide +kernel
theorem dX10_drift_18 : decode cX10_drift 18 = .ok (.iload_n 3, 1) := by decide +kernel
theorem dX10_drift_19 : decode cX10_drift 19 = .ok (.iload_n 1, 1) := by decide +kernel
theorem dX10_drift_20 : decode cX10_drift 20 = .ok (.if_icmp .ge 66, 3) := by decide +kernel
theorem dX10_drift_23 : decode cX10_drift 23 = .ok (.aload_n 0, 1) := by decide +kernel
theorem dX10_drift_24 : decode cX10_drift 24 = .ok (.iconst 3, 1) := by decide +kernel
theorem dX10_drift_25 : decode cX10_drift 25 = .ok (.invokevirtual 265, 3) := by decide +kernel
theorem dX10_drift_28 : decode cX10_drift 28 = .ok (.istore 4, 2) := by decide +kernel
theorem dX10_drift_30 : decode cX10_drift 30 = .ok (.iload 4, 2) := by decide +kernel
theorem dX10_drift_32 : decode cX10_drift 32 = .ok (.ifCond .ne 18, 3) := by decide +kernel
theorem dX10_drift_35 : decode cX10_drift 35 = .ok (.aload_n 0, 1) := by decide +kernel
theorem dX10_drift_36 : decode cX10_drift 36 = .ok (.getfield 29, 3) := by decide +kernel
theorem dX10_drift_39 : decode cX10_drift 39 = .ok (.iconst 0, 1) := by decide +kernel
theorem dX10_drift_40 : decode cX10_drift 40 = .ok (.aload_n 0, 1) := by decide +kernel
theorem dX10_drift_41 : decode cX10_drift 41 = .ok (.bipush 21, 2) := by decide +kernel
theorem dX10_drift_43 : decode cX10_drift 43 = .ok (.invokevirtual 265, 3) := by decide +kernel
theorem dX10_drift_46 : decode cX10_drift 46 = .ok (.iastore, 1) := by decide +kernel
theorem dX10_drift_47 : decode cX10_drift 47 = .ok (.goto 23, 3) := by decide +kernel
theorem dX10_drift_50 : decode cX10_drift 50 = .ok (.iload 4, 2) := by decide +kernel
theorem dX10_drift_52 : decode cX10_drift 52 = .ok (.iconst 1, 1) := by decide +kernel
theorem dX10_drift_53 : decode cX10_drift 53 = .ok (.if_icmp .ne 17, 3) := by decide +kernel
theorem dX10_drift_56 : decode cX10_drift 56 = .ok (.aload_n 0, 1) := by decide +kernel
theorem dX10_drift_57 : decode cX10_drift 57 = .ok (.getfield 29, 3) := by decide +kernel
theorem dX10_drift_60 : decode cX10_drift 60 = .ok (.iconst 1, 1) := by decide +kernel
theorem dX10_drift_61 : decode cX10_drift 61 = .ok (.aload_n 0, 1) := by decide +kernel
theorem dX10_drift_62 : decode cX10_drift 62 = .ok (.bipush 11, 2) := by decide +kernel
theorem dX10_drift_64 : decode cX10_drift 64 = .ok (.invokevirtual 265, 3) := by decide +kernel
theorem dX10_drift_67 : decode cX10_drift 67 = .ok (.iconst 5, 1) := by decide +kernel
theorem dX10_drift_68 : decode cX10_drift 68 = .ok (.isub, 1) := by decide +kernel
theorem dX10_drift_69 : decode cX10_drift 69 = .ok (.iastore, 1) := by decide +kernel
theorem dX10_drift_70 : decode cX10_drift 70 = .ok (.aload_n 0, 1) := by decide +kernel
theorem dX10_drift_71 : decode cX10_drift 71 = .ok (.getfield 29, 3) := by decide +kernel
theorem dX10_drift_74 : decode cX10_drift 74 = .ok (.iconst 2, 1) := by decide +kernel
theorem dX10_drift_75 : decode cX10_drift 75 = .ok (.dup2, 1) := by decide +kernel
theorem dX10_drift_76 : decode cX10_drift 76 = .ok (.iaload, 1) := by decide +kernel
theorem dX10_drift_77 : decode cX10_drift 77 = .ok (.iconst 1, 1) := by decide +kernel
theorem dX10_drift_78 : decode cX10_drift 78 = .ok (.iadd, 1) := by decide +kernel
theorem dX10_drift_79 : decode cX10_drift 79 = .ok (.iastore, 1) := by decide +kernel
theorem dX10_drift_80 : decode cX10_drift 80 = .ok (.iinc 3 1, 3) := by decide +kernel
theorem dX10_drift_83 : decode cX10_drift 83 = .ok (.goto (-65), 3) := by decide +kernel
theorem dX10_drift_86 : decode cX10_drift 86 = .ok (.aload_n 0, 1) := by decide +kernel
theorem dX10_drift_87 : decode cX10_drift 87 = .ok (.getfield 29, 3) := by decide +kernel
theorem dX10_drift_90 : decode cX10_drift 90 = .ok (.iconst 2, 1) := by decide +kernel
theorem dX10_drift_91 : decode cX10_drift 91 = .ok (.iaload, 1) := by decide +kernel
theorem dX10_drift_92 : decode cX10_drift 92 = .ok (.ireturn, 1) := by decide +kernel
theorem dX10_undo_0 : decode cX10_undo 0 = .ok (.aload_n 0, 1) := by decide +kernel
theorem dX10_undo_1 : decode cX10_undo 1 = .ok (.getfield 191, 3) := by decide +kernel
theorem dX10_undo_4 : decode cX10_undo 4 = .ok (.ifCond .ne 6, 3) := by decide +kernel
theorem dX10_undo_7 : decode cX10_undo 7 = .ok (.ldc 232, 2) := by decide +kernel
theorem dX10_undo_9 : decode cX10_undo 9 = .ok (.ireturn, 1) := by decide +kernel
theorem dX10_undo_10 : decode cX10_undo 10 = .ok (.aload_n 0, 1) := by decide +kernel
theorem dX10_undo_11 : decode cX10_undo 11 = .ok (.dup, 1) := by decide +kernel
theorem dX10_undo_12 : decode cX10_undo 12 = .ok (.getfield 191, 3) := by decide +kernel
theorem dX10_undo_15 : decode cX10_undo 15 = .ok (.iconst 1, 1) := by decide +kernel
theorem dX10_undo_16 : decode cX10_undo 16 = .ok (.isub, 1) := by decide +kernel
theorem dX10_undo_17 : decode cX10_undo 17 = .ok (.putfield 191, 3) := by decide +kernel
theorem dX10_undo_20 : decode cX10_undo 20 = .ok (.iconst 0, 1) := by decide +kernel
theorem dX10_undo_21 : decode cX10_undo 21 = .ok (.istore_n 1, 1) := by decide +kernel
theorem dX10_undo_22 : decode cX10_undo 22 = .ok (.iload_n 1, 1) := by decide +kernel
theorem dX10_undo_23 : decode cX10_undo 23 = .ok (.bipush 43, 2) := by decide +kernel
theorem dX10_undo_25 : decode cX10_undo 25 = .ok (.if_icmp .ge 29, 3) := by decide +kernel
theorem dX10_undo_28 : decode cX10_undo 28 = .ok (.aload_n 0, 1) := by decide +kernel
theorem dX10_undo_29 : decode cX10_undo 29 = .ok (.getfield 29, 3) := by decide +kernel
theorem dX10_undo_32 : decode cX10_undo 32 = .ok (.iload_n 1, 1) := by decide +kernel
theorem dX10_undo_33 : decode cX10_undo 33 = .ok (.aload_n 0, 1) := by decide +kernel
theorem dX10_undo_34 : decode cX10_undo 34 = .ok (.getfield 62, 3) := by decide +kernel
theorem dX10_undo_37 : decode cX10_undo 37 = .ok (.bipush 43, 2) := by decide +kernel
theorem dX10_undo_39 : decode cX10_undo 39 = .ok (.aload_n 0, 1) := by decide +kernel
theorem dX10_undo_40 : decode cX10_undo 40 = .ok (.getfield 191, 3) := by decide +kernel
theorem dX10_undo_43 : decode cX10_undo 43 = .ok (.imul, 1) := by decide +kernel
theorem dX10_undo_44 : decode cX10_undo 44 = .ok (.iload_n 1, 1) := by decide +kernel
theorem dX10_undo_45 : decode cX10_undo 45 = .ok (.iadd, 1) := by decide +kernel
theorem dX10_undo_46 : decode cX10_undo 46 = .ok (.iaload, 1) := by decide +kernel
theorem dX10_undo_47 : decode cX10_undo 47 = .ok (.iastore, 1) := by decide +kernel
theorem dX10_undo_48 : decode cX10_undo 48 = .ok (.iinc 1 1, 3) := by decide +kernel
theorem dX10_undo_51 : decode cX10_undo 51 = .ok (.goto (-29), 3) := by decide +kernel
theorem dX10_undo_54 : decode cX10_undo 54 = .ok (.aload_n 0, 1) := by decide +kernel
theorem dX10_undo_55 : decode cX10_undo 55 = .ok (.getfield 191, 3) := by decide +kernel
theorem dX10_undo_58 : decode cX10_undo 58 = .ok (.ireturn, 1) := by decide +kernel
theorem dX10_figure_0 : decode cX10_figure 0 = .ok (.iload_n 0, 1) := by decide +kernel
theorem dX10_figure_1 : decode cX10_figure 1 = .ok (.iconst 3, 1) := by decide +kernel
theorem dX10_figure_2 : decode cX10_figure 2 = .ok (.iload_n 1, 1) := by decide +kernel
theorem dX10_figure_3 : decode cX10_figure 3 = .ok (.iconst 1, 1) := by decide +kernel
theorem dX10_figure_4 : decode cX10_figure 4 = .ok (.isub, 1) := by decide +kernel
theorem dX10_figure_5 : decode cX10_figure 5 = .ok (.iload_n 2, 1) := by decide +kernel
theorem dX10_figure_6 : decode cX10_figure 6 = .ok (.isub, 1) := by decide +kernel
theorem dX10_figure_7 : decode cX10_figure 7 = .ok (.imul, 1) := by decide +kernel
theorem dX10_figure_8 : decode cX10_figure 8 = .ok (.ishr, 1) := by decide +kernel
theorem dX10_figure_9 : decode cX10_figure 9 = .ok (.bipush 7, 2) := by decide +kernel
theorem dX10_figure_11 : decode cX10_figure 11 = .ok (.iand, 1) := by decide +kernel
theorem dX10_figure_12 : decode cX10_figure 12 = .ok (.ireturn, 1) := by decide +kernel
theorem dX10_isOrder_0 : decode cX10_isOrder 0 = .ok (.iload_n 3, 1) := by decide +kernel
theorem dX10_isOrder_1 : decode cX10_isOrder 1 = .ok (.istore 4, 2) := by decide +kernel
theorem dX10_isOrder_3 : decode cX10_isOrder 3 = .ok (.iconst 1, 1) := by decide +kernel
theorem dX10_isOrder_4 : decode cX10_isOrder 4 = .ok (.istore 5, 2) := by decide +kernel
theorem dX10_isOrder_6 : decode cX10_isOrder 6 = .ok (.iconst 0, 1) := by decide +kernel
theorem dX10_isOrder_7 : decode cX10_isOrder 7 = .ok (.istore 6, 2) := by decide +kernel
theorem dX10_isOrder_9 : decode cX10_isOrder 9 = .ok (.iload 6, 2) := by decide +kernel
theorem dX10_isOrder_11 : decode cX10_isOrder 11 = .ok (.iload_n 2, 1) := by decide +kernel
theorem dX10_isOrder_12 : decode cX10_isOrder 12 = .ok (.if_icmp .ge 84, 3) := by decide +kernel
theorem dX10_isOrder_15 : decode cX10_isOrder 15 = .ok (.iload 5, 2) := by decide +kernel
theorem dX10_isOrder_17 : decode cX10_isOrder 17 = .ok (.ifCond .eq 79, 3) := by decide +kernel
theorem dX10_isOrder_20 : decode cX10_isOrder 20 = .ok (.iload_n 1, 1) := by decide +kernel
theorem dX10_isOrder_21 : decode cX10_isOrder 21 = .ok (.iload_n 2, 1) := by decide +kernel
theorem dX10_isOrder_22 : decode cX10_isOrder 22 = .ok (.iload 6, 2) := by decide +kernel
theorem dX10_isOrder_24 : decode cX10_isOrder 24 = .ok (.invokestatic 268, 3) := by decide +kernel
theorem dX10_isOrder_27 : decode cX10_isOrder 27 = .ok (.istore 7, 2) := by decide +kernel
theorem dX10_isOrder_29 : decode cX10_isOrder 29 = .ok (.iload 4, 2) := by decide +kernel
theorem dX10_isOrder_31 : decode cX10_isOrder 31 = .ok (.iload 7, 2) := by decide +kernel
theorem dX10_isOrder_33 : decode cX10_isOrder 33 = .ok (.invokestatic 194, 3) := by decide +kernel
theorem dX10_isOrder_36 : decode cX10_isOrder 36 = .ok (.ifCond .eq 40, 3) := by decide +kernel
theorem dX10_isOrder_39 : decode cX10_isOrder 39 = .ok (.iload 6, 2) := by decide +kernel
theorem dX10_isOrder_41 : decode cX10_isOrder 41 = .ok (.ifCond .eq 31, 3) := by decide +kernel
theorem dX10_isOrder_44 : decode cX10_isOrder 44 = .ok (.aload_n 0, 1) := by decide +kernel
theorem dX10_isOrder_45 : decode cX10_isOrder 45 = .ok (.getfield 7, 3) := by decide +kernel
theorem dX10_isOrder_48 : decode cX10_isOrder 48 = .ok (.iload 7, 2) := by decide +kernel
theorem dX10_isOrder_50 : decode cX10_isOrder 50 = .ok (.iaload, 1) := by decide +kernel
theorem dX10_isOrder_51 : decode cX10_isOrder 51 = .ok (.aload_n 0, 1) := by decide +kernel
theorem dX10_isOrder_52 : decode cX10_isOrder 52 = .ok (.getfield 7, 3) := by decide +kernel
theorem dX10_isOrder_55 : decode cX10_isOrder 55 = .ok (.iload_n 1, 1) := by decide +kernel
theorem dX10_isOrder_56 : decode cX10_isOrder 56 = .ok (.iload_n 2, 1) := by decide +kernel
theorem dX10_isOrder_57 : decode cX10_isOrder 57 = .ok (.iload 6, 2) := by decide +kernel
theorem dX10_isOrder_59 : decode cX10_isOrder 59 = .ok (.iconst 1, 1) := by decide +kernel
theorem dX10_isOrder_60 : decode cX10_isOrder 60 = .ok (.isub, 1) := by decide +kernel
theorem dX10_isOrder_61 : decode cX10_isOrder 61 = .ok (.invokestatic 268, 3) := by decide +kernel
theorem dX10_isOrder_64 : decode cX10_isOrder 64 = .ok (.iaload, 1) := by decide +kernel
theorem dX10_isOrder_65 : decode cX10_isOrder 65 = .ok (.invokestatic 217, 3) := by decide +kernel
theorem dX10_isOrder_68 : decode cX10_isOrder 68 = .ok (.iconst 1, 1) := by decide +kernel
theorem dX10_isOrder_69 : decode cX10_isOrder 69 = .ok (.if_icmp .eq 7, 3) := by decide +kernel
theorem dX10_isOrder_72 : decode cX10_isOrder 72 = .ok (.iconst 1, 1) := by decide +kernel
theorem dX10_isOrder_73 : decode cX10_isOrder 73 = .ok (.goto 4, 3) := by decide +kernel
theorem dX10_isOrder_76 : decode cX10_isOrder 76 = .ok (.iconst 0, 1) := by decide +kernel
theorem dX10_isOrder_77 : decode cX10_isOrder 77 = .ok (.istore 5, 2) := by decide +kernel
theorem dX10_isOrder_79 : decode cX10_isOrder 79 = .ok (.iload 4, 2) := by decide +kernel
theorem dX10_isOrder_81 : decode cX10_isOrder 81 = .ok (.iconst 1, 1) := by decide +kernel
theorem dX10_isOrder_82 : decode cX10_isOrder 82 = .ok (.iload 7, 2) := by decide +kernel
theorem dX10_isOrder_84 : decode cX10_isOrder 84 = .ok (.ishl, 1) := by decide +kernel
theorem dX10_isOrder_85 : decode cX10_isOrder 85 = .ok (.iconst (-1), 1) := by decide +kernel
theorem dX10_isOrder_86 : decode cX10_isOrder 86 = .ok (.ixor, 1) := by decide +kernel
theorem dX10_isOrder_87 : decode cX10_isOrder 87 = .ok (.iand, 1) := by decide +kernel
theorem dX10_isOrder_88 : decode cX10_isOrder 88 = .ok (.istore 4, 2) := by decide +kernel
theorem dX10_isOrder_90 : decode cX10_isOrder 90 = .ok (.iinc 6 1, 3) := by decide +kernel
theorem dX10_isOrder_93 : decode cX10_isOrder 93 = .ok (.goto (-84), 3) := by decide +kernel
theorem dX10_isOrder_96 : decode cX10_isOrder 96 = .ok (.iload 5, 2) := by decide +kernel
theorem dX10_isOrder_98 : decode cX10_isOrder 98 = .ok (.ifCond .ne 5, 3) := by decide +kernel
theorem dX10_isOrder_101 : decode cX10_isOrder 101 = .ok (.iconst 0, 1) := by decide +kernel
theorem dX10_isOrder_102 : decode cX10_isOrder 102 = .ok (.ireturn, 1) := by decide +kernel
theorem dX10_isOrder_103 : decode cX10_isOrder 103 = .ok (.iconst 0, 1) := by decide +kernel
theorem dX10_isOrder_104 : decode cX10_isOrder 104 = .ok (.istore 6, 2) := by decide +kernel
theorem dX10_isOrder_106 : decode cX10_isOrder 106 = .ok (.iload 6, 2) := by decide +kernel
theorem dX10_isOrder_108 : decode cX10_isOrder 108 = .ok (.bipush 43, 2) := by decide +kernel
theorem dX10_isOrder_110 : decode cX10_isOrder 110 = .ok (.if_icmp .ge 23, 3) := by decide +kernel
theorem dX10_isOrder_113 : decode cX10_isOrder 113 = .ok (.aload_n 0, 1) := by decide +kernel
theorem dX10_isOrder_114 : decode cX10_isOrder 114 = .ok (.getfield 65, 3) := by decide +kernel
theorem dX10_isOrder_117 : decode cX10_isOrder 117 = .ok (.iload 6, 2) := by decide +kernel
theorem dX10_isOrder_119 : decode cX10_isOrder 119 = .ok (.aload_n 0, 1) := by decide +kernel
theorem dX10_isOrder_120 : decode cX10_isOrder 120 = .ok (.getfield 29, 3) := by decide +kernel
theorem dX10_isOrder_123 : decode cX10_isOrder 123 = .ok (.iload 6, 2) := by decide +kernel
theorem dX10_isOrder_125 : decode cX10_isOrder 125 = .ok (.iaload, 1) := by decide +kernel
theorem dX10_isOrder_126 : decode cX10_isOrder 126 = .ok (.iastore, 1) := by decide +kernel
theorem dX10_isOrder_127 : decode cX10_isOrder 127 = .ok (.iinc 6 1, 3) := by decide +kernel
theorem dX10_isOrder_130 : decode cX10_isOrder 130 = .ok (.goto (-24), 3) := by decide +kernel
theorem dX10_isOrder_133 : decode cX10_isOrder 133 = .ok (.iconst 0, 1) := by decide +kernel
theorem dX10_isOrder_134 : decode cX10_isOrder 134 = .ok (.istore 6, 2) := by decide +kernel
theorem dX10_isOrder_136 : decode cX10_isOrder 136 = .ok (.iload 6, 2) := by decide +kernel
theorem dX10_isOrder_138 : decode cX10_isOrder 138 = .ok (.iload_n 2, 1) := by decide +kernel
theorem dX10_isOrder_139 : decode cX10_isOrder 139 = .ok (.if_icmp .ge 59, 3) := by decide +kernel
theorem dX10_isOrder_142 : decode cX10_isOrder 142 = .ok (.iload 5, 2) := by decide +kernel
theorem dX10_isOrder_144 : decode cX10_isOrder 144 = .ok (.ifCond .eq 54, 3) := by decide +kernel
theorem dX10_isOrder_147 : decode cX10_isOrder 147 = .ok (.iload_n 1, 1) := by decide +kernel
theorem dX10_isOrder_148 : decode cX10_isOrder 148 = .ok (.iload_n 2, 1) := by decide +kernel
theorem dX10_isOrder_149 : decode cX10_isOrder 149 = .ok (.iload 6, 2) := by decide +kernel
theorem dX10_isOrder_151 : decode cX10_isOrder 151 = .ok (.invokestatic 268, 3) := by decide +kernel
theorem dX10_isOrder_154 : decode cX10_isOrder 154 = .ok (.istore 7, 2) := by decide +kernel
theorem dX10_isOrder_156 : decode cX10_isOrder 156 = .ok (.aload_n 0, 1) := by decide +kernel
theorem dX10_isOrder_157 : decode cX10_isOrder 157 = .ok (.iload 7, 2) := by decide +kernel
theorem dX10_isOrder_159 : decode cX10_isOrder 159 = .ok (.invokevirtual 229, 3) := by decide +kernel
theorem dX10_isOrder_162 : decode cX10_isOrder 162 = .ok (.invokestatic 272, 3) := by decide +kernel
theorem dX10_isOrder_165 : decode cX10_isOrder 165 = .ok (.iconst 2, 1) := by decide +kernel
theorem dX10_isOrder_166 : decode cX10_isOrder 166 = .ok (.if_icmp .lt 7, 3) := by decide +kernel
theorem dX10_isOrder_169 : decode cX10_isOrder 169 = .ok (.iconst 1, 1) := by decide +kernel
theorem dX10_isOrder_170 : decode cX10_isOrder 170 = .ok (.goto 4, 3) := by decide +kernel
theorem dX10_isOrder_173 : decode cX10_isOrder 173 = .ok (.iconst 0, 1) := by decide +kernel
theorem dX10_isOrder_174 : decode cX10_isOrder 174 = .ok (.istore 5, 2) := by decide +kernel
theorem dX10_isOrder_176 : decode cX10_isOrder 176 = .ok (.aload_n 0, 1) := by decide +kernel
theorem dX10_isOrder_177 : decode cX10_isOrder 177 = .ok (.iload 7, 2) := by decide +kernel
theorem dX10_isOrder_179 : decode cX10_isOrder 179 = .ok (.invokevirtual 236, 3) := by decide +kernel
theorem dX10_isOrder_182 : decode cX10_isOrder 182 = .ok (.aload_n 0, 1) := by decide +kernel
theorem dX10_isOrder_183 : decode cX10_isOrder 183 = .ok (.getfield 29, 3) := by decide +kernel
theorem dX10_isOrder_186 : decode cX10_isOrder 186 = .ok (.iconst 2, 1) := by decide +kernel
theorem dX10_isOrder_187 : decode cX10_isOrder 187 = .ok (.dup2, 1) := by decide +kernel
theorem dX10_isOrder_188 : decode cX10_isOrder 188 = .ok (.iaload, 1) := by decide +kernel
theorem dX10_isOrder_189 : decode cX10_isOrder 189 = .ok (.iconst 1, 1) := by decide +kernel
theorem dX10_isOrder_190 : decode cX10_isOrder 190 = .ok (.iadd, 1) := by decide +kernel
theorem dX10_isOrder_191 : decode cX10_isOrder 191 = .ok (.iastore, 1) := by decide +kernel
theorem dX10_isOrder_192 : decode cX10_isOrder 192 = .ok (.iinc 6 1, 3) := by decide +kernel
theorem dX10_isOrder_195 : decode cX10_isOrder 195 = .ok (.goto (-59), 3) := by decide +kernel
theorem dX10_isOrder_198 : decode cX10_isOrder 198 = .ok (.iconst 0, 1) := by decide +kernel
theorem dX10_isOrder_199 : decode cX10_isOrder 199 = .ok (.istore 6, 2) := by decide +kernel
theorem dX10_isOrder_201 : decode cX10_isOrder 201 = .ok (.iload 6, 2) := by decide +kernel
theorem dX10_isOrder_203 : decode cX10_isOrder 203 = .ok (.bipush 43, 2) := by decide +kernel
theorem dX10_isOrder_205 : decode cX10_isOrder 205 = .ok (.if_icmp .ge 23, 3) := by decide +kernel
theorem dX10_isOrder_208 : decode cX10_isOrder 208 = .ok (.aload_n 0, 1) := by decide +kernel
theorem dX10_isOrder_209 : decode cX10_isOrder 209 = .ok (.getfield 29, 3) := by decide +kernel
theorem dX10_isOrder_212 : decode cX10_isOrder 212 = .ok (.iload 6, 2) := by decide +kernel
theorem dX10_isOrder_214 : decode cX10_isOrder 214 = .ok (.aload_n 0, 1) := by decide +kernel
theorem dX10_isOrder_215 : decode cX10_isOrder 215 = .ok (.getfield 65, 3) := by decide +kernel
theorem dX10_isOrder_218 : decode cX10_isOrder 218 = .ok (.iload 6, 2) := by decide +kernel
theorem dX10_isOrder_220 : decode cX10_isOrder 220 = .ok (.iaload, 1) := by decide +kernel
theorem dX10_isOrder_221 : decode cX10_isOrder 221 = .ok (.iastore, 1) := by decide +kernel
theorem dX10_isOrder_222 : decode cX10_isOrder 222 = .ok (.iinc 6 1, 3) := by decide +kernel
theorem dX10_isOrder_225 : decode cX10_isOrder 225 = .ok (.goto (-24), 3) := by decide +kernel
theorem dX10_isOrder_228 : decode cX10_isOrder 228 = .ok (.iload 5, 2) := by decide +kernel
theorem dX10_isOrder_230 : decode cX10_isOrder 230 = .ok (.ireturn, 1) := by decide +kernel
theorem dX10_order_0 : decode cX10_order 0 = .ok (.aload_n 0, 1) := by decide +kernel
theorem dX10_order_1 : decode cX10_order 1 = .ok (.iload_n 1, 1) := by decide +kernel
theorem dX10_order_2 : decode cX10_order 2 = .ok (.invokevirtual 275, 3) := by decide +kernel
theorem dX10_order_5 : decode cX10_order 5 = .ok (.ifCond .ne 6, 3) := by decide +kernel
theorem dX10_order_8 : decode cX10_order 8 = .ok (.ldc 207, 2) := by decide +kernel
theorem dX10_order_10 : decode cX10_order 10 = .ok (.ireturn, 1) := by decide +kernel
theorem dX10_order_11 : decode cX10_order 11 = .ok (.iload_n 1, 1) := by decide +kernel
theorem dX10_order_12 : decode cX10_order 12 = .ok (.invokestatic 272, 3) := by decide +kernel
theorem dX10_order_15 : decode cX10_order 15 = .ok (.istore_n 3, 1) := by decide +kernel
theorem dX10_order_16 : decode cX10_order 16 = .ok (.iload_n 3, 1) := by decide +kernel
theorem dX10_order_17 : decode cX10_order 17 = .ok (.bipush 6, 2) := by decide +kernel
theorem dX10_order_19 : decode cX10_order 19 = .ok (.if_icmp .le 6, 3) := by decide +kernel
theorem dX10_order_22 : decode cX10_order 22 = .ok (.ldc 111, 2) := by decide +kernel
theorem dX10_order_24 : decode cX10_order 24 = .ok (.ireturn, 1) := by decide +kernel
theorem dX10_order_25 : decode cX10_order 25 = .ok (.iload_n 2, 1) := by decide +kernel
theorem dX10_order_26 : decode cX10_order 26 = .ok (.i2l, 1) := by decide +kernel
theorem dX10_order_27 : decode cX10_order 27 = .ok (.lconst 0, 1) := by decide +kernel
theorem dX10_order_28 : decode cX10_order 28 = .ok (.iload_n 3, 1) := by decide +kernel
theorem dX10_order_29 : decode cX10_order 29 = .ok (.iconst 1, 1) := by decide +kernel
theorem dX10_order_30 : decode cX10_order 30 = .ok (.isub, 1) := by decide +kernel
theorem dX10_order_31 : decode cX10_order 31 = .ok (.i2l, 1) := by decide +kernel
theorem dX10_order_32 : decode cX10_order 32 = .ok (.invokestatic 105, 3) := by decide +kernel
theorem dX10_order_35 : decode cX10_order 35 = .ok (.ifCond .ne 5, 3) := by decide +kernel
theorem dX10_order_38 : decode cX10_order 38 = .ok (.iconst (-1), 1) := by decide +kernel
theorem dX10_order_39 : decode cX10_order 39 = .ok (.ireturn, 1) := by decide +kernel
theorem dX10_order_40 : decode cX10_order 40 = .ok (.iconst 0, 1) := by decide +kernel
theorem dX10_order_41 : decode cX10_order 41 = .ok (.istore 4, 2) := by decide +kernel
theorem dX10_order_43 : decode cX10_order 43 = .ok (.iload 4, 2) := by decide +kernel
theorem dX10_order_45 : decode cX10_order 45 = .ok (.iconst 1, 1) := by decide +kernel
theorem dX10_order_46 : decode cX10_order 46 = .ok (.iconst 3, 1) := by decide +kernel
theorem dX10_order_47 : decode cX10_order 47 = .ok (.iload_n 3, 1) := by decide +kernel
theorem dX10_order_48 : decode cX10_order 48 = .ok (.imul, 1) := by decide +kernel
theorem dX10_order_49 : decode cX10_order 49 = .ok (.ishl, 1) := by decide +kernel
theorem dX10_order_50 : decode cX10_order 50 = .ok (.if_icmp .ge 28, 3) := by decide +kernel
theorem dX10_order_53 : decode cX10_order 53 = .ok (.aload_n 0, 1) := by decide +kernel
theorem dX10_order_54 : decode cX10_order 54 = .ok (.iload 4, 2) := by decide +kernel
theorem dX10_order_56 : decode cX10_order 56 = .ok (.iload_n 3, 1) := by decide +kernel
theorem dX10_order_57 : decode cX10_order 57 = .ok (.iload_n 1, 1) := by decide +kernel
theorem dX10_order_58 : decode cX10_order 58 = .ok (.invokevirtual 278, 3) := by decide +kernel
theorem dX10_order_61 : decode cX10_order 61 = .ok (.ifCond .eq 11, 3) := by decide +kernel
theorem dX10_order_64 : decode cX10_order 64 = .ok (.iload 4, 2) := by decide +kernel
theorem dX10_order_66 : decode cX10_order 66 = .ok (.iload_n 3, 1) := by decide +kernel
theorem dX10_order_67 : decode cX10_order 67 = .ok (.iload_n 2, 1) := by decide +kernel
theorem dX10_order_68 : decode cX10_order 68 = .ok (.invokestatic 268, 3) := by decide +kernel
theorem dX10_order_71 : decode cX10_order 71 = .ok (.ireturn, 1) := by decide +kernel
theorem dX10_order_72 : decode cX10_order 72 = .ok (.iinc 4 1, 3) := by decide +kernel
theorem dX10_order_75 : decode cX10_order 75 = .ok (.goto (-32), 3) := by decide +kernel
theorem dX10_order_78 : decode cX10_order 78 = .ok (.iconst (-1), 1) := by decide +kernel
theorem dX10_order_79 : decode cX10_order 79 = .ok (.ireturn, 1) := by decide +kernel
theorem dX10_signers_0 : decode cX10_signers 0 = .ok (.aload_n 0, 1) := by decide +kernel
theorem dX10_signers_1 : decode cX10_signers 1 = .ok (.iload_n 1, 1) := by decide +kernel
theorem dX10_signers_2 : decode cX10_signers 2 = .ok (.invokevirtual 204, 3) := by decide +kernel
theorem dX10_signers_5 : decode cX10_signers 5 = .ok (.ifCond .ne 6, 3) := by decide +kernel
theorem dX10_signers_8 : decode cX10_signers 8 = .ok (.ldc 207, 2) := by decide +kernel
theorem dX10_signers_10 : decode cX10_signers 10 = .ok (.ireturn, 1) := by decide +kernel
theorem dX10_signers_11 : decode cX10_signers 11 = .ok (.iconst 0, 1) := by decide +kernel
theorem dX10_signers_12 : decode cX10_signers 12 = .ok (.istore_n 2, 1) := by decide +kernel
theorem dX10_signers_13 : decode cX10_signers 13 = .ok (.iconst 0, 1) := by decide +kernel
theorem dX10_signers_14 : decode cX10_signers 14 = .ok (.istore_n 3, 1) := by decide +kernel
theorem dX10_signers_15 : decode cX10_signers 15 = .ok (.iload_n 3, 1) := by decide +kernel
theorem dX10_signers_16 : decode cX10_signers 16 = .ok (.aload_n 0, 1) := by decide +kernel
theorem dX10_signers_17 : decode cX10_signers 17 = .ok (.getfield 102, 3) := by decide +kernel
theorem dX10_signers_20 : decode cX10_signers 20 = .ok (.if_icmp .ge 28, 3) := by decide +kernel
theorem dX10_signers_23 : decode cX10_signers 23 = .ok (.iload_n 2, 1) := by decide +kernel
theorem dX10_signers_24 : decode cX10_signers 24 = .ok (.aload_n 0, 1) := by decide +kernel
theorem dX10_signers_25 : decode cX10_signers 25 = .ok (.iload_n 3, 1) := by decide +kernel
theorem dX10_signers_26 : decode cX10_signers 26 = .ok (.invokevirtual 211, 3) := by decide +kernel
theorem dX10_signers_29 : decode cX10_signers 29 = .ok (.iload_n 1, 1) := by decide +kernel
theorem dX10_signers_30 : decode cX10_signers 30 = .ok (.if_icmp .ne 9, 3) := by decide +kernel
theorem dX10_signers_33 : decode cX10_signers 33 = .ok (.iconst 1, 1) := by decide +kernel
theorem dX10_signers_34 : decode cX10_signers 34 = .ok (.iload_n 3, 1) := by decide +kernel
theorem dX10_signers_35 : decode cX10_signers 35 = .ok (.ishl, 1) := by decide +kernel
theorem dX10_signers_36 : decode cX10_signers 36 = .ok (.goto 4, 3) := by decide +kernel
theorem dX10_signers_39 : decode cX10_signers 39 = .ok (.iconst 0, 1) := by decide +kernel
theorem dX10_signers_40 : decode cX10_signers 40 = .ok (.ior, 1) := by decide +kernel
theorem dX10_signers_41 : decode cX10_signers 41 = .ok (.istore_n 2, 1) := by decide +kernel
theorem dX10_signers_42 : decode cX10_signers 42 = .ok (.iinc 3 1, 3) := by decide +kernel
theorem dX10_signers_45 : decode cX10_signers 45 = .ok (.goto (-30), 3) := by decide +kernel
theorem dX10_signers_48 : decode cX10_signers 48 = .ok (.iload_n 2, 1) := by decide +kernel
theorem dX10_signers_49 : decode cX10_signers 49 = .ok (.ireturn, 1) := by decide +kernel
theorem dX10_isFarOf_0 : decode cX10_isFarOf 0 = .ok (.aload_n 0, 1) := by decide +kernel
theorem dX10_isFarOf_1 : decode cX10_isFarOf 1 = .ok (.getfield 16, 3) := by decide +kernel
theorem dX10_isFarOf_4 : decode cX10_isFarOf 4 = .ok (.iload_n 1, 1) := by decide +kernel
theorem dX10_isFarOf_5 : decode cX10_isFarOf 5 = .ok (.iaload, 1) := by decide +kernel
theorem dX10_isFarOf_6 : decode cX10_isFarOf 6 = .ok (.aload_n 0, 1) := by decide +kernel
theorem dX10_isFarOf_7 : decode cX10_isFarOf 7 = .ok (.getfield 16, 3) := by decide +kernel
theorem dX10_isFarOf_10 : decode cX10_isFarOf 10 = .ok (.iload_n 2, 1) := by decide +kernel
theorem dX10_isFarOf_11 : decode cX10_isFarOf 11 = .ok (.iaload, 1) := by decide +kernel
theorem dX10_isFarOf_12 : decode cX10_isFarOf 12 = .ok (.if_icmp .ne 7, 3) := by decide +kernel
theorem dX10_isFarOf_15 : decode cX10_isFarOf 15 = .ok (.iconst 1, 1) := by decide +kernel
theorem dX10_isFarOf_16 : decode cX10_isFarOf 16 = .ok (.goto 4, 3) := by decide +kernel
theorem dX10_isFarOf_19 : decode cX10_isFarOf 19 = .ok (.iconst 0, 1) := by decide +kernel
theorem dX10_isFarOf_20 : decode cX10_isFarOf 20 = .ok (.istore_n 3, 1) := by decide +kernel
theorem dX10_isFarOf_21 : decode cX10_isFarOf 21 = .ok (.iconst 0, 1) := by decide +kernel
theorem dX10_isFarOf_22 : decode cX10_isFarOf 22 = .ok (.istore 4, 2) := by decide +kernel
theorem dX10_isFarOf_24 : decode cX10_isFarOf 24 = .ok (.iload 4, 2) := by decide +kernel
theorem dX10_isFarOf_26 : decode cX10_isFarOf 26 = .ok (.aload_n 0, 1) := by decide +kernel
theorem dX10_isFarOf_27 : decode cX10_isFarOf 27 = .ok (.getfield 16, 3) := by decide +kernel
theorem dX10_isFarOf_30 : decode cX10_isFarOf 30 = .ok (.iload_n 1, 1) := by decide +kernel
theorem dX10_isFarOf_31 : decode cX10_isFarOf 31 = .ok (.iaload, 1) := by decide +kernel
theorem dX10_isFarOf_32 : decode cX10_isFarOf 32 = .ok (.if_icmp .ge 53, 3) := by decide +kernel
theorem dX10_isFarOf_35 : decode cX10_isFarOf 35 = .ok (.iload_n 3, 1) := by decide +kernel
theorem dX10_isFarOf_36 : decode cX10_isFarOf 36 = .ok (.ifCond .eq 49, 3) := by decide +kernel
theorem dX10_isFarOf_39 : decode cX10_isFarOf 39 = .ok (.aload_n 0, 1) := by decide +kernel
theorem dX10_isFarOf_40 : decode cX10_isFarOf 40 = .ok (.getfield 19, 3) := by decide +kernel
theorem dX10_isFarOf_43 : decode cX10_isFarOf 43 = .ok (.iconst 5, 1) := by decide +kernel
theorem dX10_isFarOf_44 : decode cX10_isFarOf 44 = .ok (.iload_n 1, 1) := by decide +kernel
theorem dX10_isFarOf_45 : decode cX10_isFarOf 45 = .ok (.imul, 1) := by decide +kernel
theorem dX10_isFarOf_46 : decode cX10_isFarOf 46 = .ok (.aload_n 0, 1) := by decide +kernel
theorem dX10_isFarOf_47 : decode cX10_isFarOf 47 = .ok (.getfield 16, 3) := by decide +kernel
theorem dX10_isFarOf_50 : decode cX10_isFarOf 50 = .ok (.iload_n 1, 1) := by decide +kernel
theorem dX10_isFarOf_51 : decode cX10_isFarOf 51 = .ok (.iaload, 1) := by decide +kernel
theorem dX10_isFarOf_52 : decode cX10_isFarOf 52 = .ok (.iadd, 1) := by decide +kernel
theorem dX10_isFarOf_53 : decode cX10_isFarOf 53 = .ok (.iconst 1, 1) := by decide +kernel
theorem dX10_isFarOf_54 : decode cX10_isFarOf 54 = .ok (.isub, 1) := by decide +kernel
theorem dX10_isFarOf_55 : decode cX10_isFarOf 55 = .ok (.iload 4, 2) := by decide +kernel
theorem dX10_isFarOf_57 : decode cX10_isFarOf 57 = .ok (.isub, 1) := by decide +kernel
theorem dX10_isFarOf_58 : decode cX10_isFarOf 58 = .ok (.iaload, 1) := by decide +kernel
theorem dX10_isFarOf_59 : decode cX10_isFarOf 59 = .ok (.aload_n 0, 1) := by decide +kernel
theorem dX10_isFarOf_60 : decode cX10_isFarOf 60 = .ok (.getfield 19, 3) := by decide +kernel
theorem dX10_isFarOf_63 : decode cX10_isFarOf 63 = .ok (.iconst 5, 1) := by decide +kernel
theorem dX10_isFarOf_64 : decode cX10_isFarOf 64 = .ok (.iload_n 2, 1) := by decide +kernel
theorem dX10_isFarOf_65 : decode cX10_isFarOf 65 = .ok (.imul, 1) := by decide +kernel
theorem dX10_isFarOf_66 : decode cX10_isFarOf 66 = .ok (.iload 4, 2) := by decide +kernel
theorem dX10_isFarOf_68 : decode cX10_isFarOf 68 = .ok (.iadd, 1) := by decide +kernel
theorem dX10_isFarOf_69 : decode cX10_isFarOf 69 = .ok (.iaload, 1) := by decide +kernel
theorem dX10_isFarOf_70 : decode cX10_isFarOf 70 = .ok (.if_icmp .ne 7, 3) := by decide +kernel
theorem dX10_isFarOf_73 : decode cX10_isFarOf 73 = .ok (.iconst 1, 1) := by decide +kernel
theorem dX10_isFarOf_74 : decode cX10_isFarOf 74 = .ok (.goto 4, 3) := by decide +kernel
theorem dX10_isFarOf_77 : decode cX10_isFarOf 77 = .ok (.iconst 0, 1) := by decide +kernel
theorem dX10_isFarOf_78 : decode cX10_isFarOf 78 = .ok (.istore_n 3, 1) := by decide +kernel
theorem dX10_isFarOf_79 : decode cX10_isFarOf 79 = .ok (.iinc 4 1, 3) := by decide +kernel
theorem dX10_isFarOf_82 : decode cX10_isFarOf 82 = .ok (.goto (-58), 3) := by decide +kernel
theorem dX10_isFarOf_85 : decode cX10_isFarOf 85 = .ok (.iload_n 3, 1) := by decide +kernel
theorem dX10_isFarOf_86 : decode cX10_isFarOf 86 = .ok (.ireturn, 1) := by decide +kernel
theorem dX10_farShore_0 : decode cX10_farShore 0 = .ok (.iload_n 1, 1) := by decide +kernel
theorem dX10_farShore_1 : decode cX10_farShore 1 = .ok (.i2l, 1) := by decide +kernel
theorem dX10_farShore_2 : decode cX10_farShore 2 = .ok (.lconst 0, 1) := by decide +kernel
theorem dX10_farShore_3 : decode cX10_farShore 3 = .ok (.lconst 1, 1) := by decide +kernel
theorem dX10_farShore_4 : decode cX10_farShore 4 = .ok (.invokestatic 105, 3) := by decide +kernel
theorem dX10_farShore_7 : decode cX10_farShore 7 = .ok (.ifCond .ne 6, 3) := by decide +kernel
theorem dX10_farShore_10 : decode cX10_farShore 10 = .ok (.ldc 111, 2) := by decide +kernel
theorem dX10_farShore_12 : decode cX10_farShore 12 = .ok (.ireturn, 1) := by decide +kernel
theorem dX10_farShore_13 : decode cX10_farShore 13 = .ok (.iconst 0, 1) := by decide +kernel
theorem dX10_farShore_14 : decode cX10_farShore 14 = .ok (.istore_n 2, 1) := by decide +kernel
theorem dX10_farShore_15 : decode cX10_farShore 15 = .ok (.iconst 0, 1) := by decide +kernel
theorem dX10_farShore_16 : decode cX10_farShore 16 = .ok (.istore_n 3, 1) := by decide +kernel
theorem dX10_farShore_17 : decode cX10_farShore 17 = .ok (.iload_n 3, 1) := by decide +kernel
theorem dX10_farShore_18 : decode cX10_farShore 18 = .ok (.aload_n 0, 1) := by decide +kernel
theorem dX10_farShore_19 : decode cX10_farShore 19 = .ok (.getfield 102, 3) := by decide +kernel
theorem dX10_farShore_22 : decode cX10_farShore 22 = .ok (.if_icmp .ge 70, 3) := by decide +kernel
theorem dX10_farShore_25 : decode cX10_farShore 25 = .ok (.iconst 0, 1) := by decide +kernel
theorem dX10_farShore_26 : decode cX10_farShore 26 = .ok (.istore 4, 2) := by decide +kernel
theorem dX10_farShore_28 : decode cX10_farShore 28 = .ok (.iload 4, 2) := by decide +kernel
theorem dX10_farShore_30 : decode cX10_farShore 30 = .ok (.aload_n 0, 1) := by decide +kernel
theorem dX10_farShore_31 : decode cX10_farShore 31 = .ok (.getfield 102, 3) := by decide +kernel
theorem dX10_farShore_34 : decode cX10_farShore 34 = .ok (.if_icmp .ge 52, 3) := by decide +kernel
theorem dX10_farShore_37 : decode cX10_farShore 37 = .ok (.iload_n 2, 1) := by decide +kernel
theorem dX10_farShore_38 : decode cX10_farShore 38 = .ok (.iload_n 1, 1) := by decide +kernel
theorem dX10_farShore_39 : decode cX10_farShore 39 = .ok (.ifCond .ne 7, 3) := by decide +kernel
theorem dX10_farShore_42 : decode cX10_farShore 42 = .ok (.iconst 1, 1) := by decide +kernel
theorem dX10_farShore_43 : decode cX10_farShore 43 = .ok (.goto 4, 3) := by decide +kernel
theorem dX10_farShore_46 : decode cX10_farShore 46 = .ok (.iconst 0, 1) := by decide +kernel
theorem dX10_farShore_47 : decode cX10_farShore 47 = .ok (.iload 4, 2) := by decide +kernel
theorem dX10_farShore_49 : decode cX10_farShore 49 = .ok (.iload_n 3, 1) := by decide +kernel
theorem dX10_farShore_50 : decode cX10_farShore 50 = .ok (.if_icmp .eq 7, 3) := by decide +kernel
theorem dX10_farShore_53 : decode cX10_farShore 53 = .ok (.iconst 1, 1) := by decide +kernel
theorem dX10_farShore_54 : decode cX10_farShore 54 = .ok (.goto 4, 3) := by decide +kernel
theorem dX10_farShore_57 : decode cX10_farShore 57 = .ok (.iconst 0, 1) := by decide +kernel
theorem dX10_farShore_58 : decode cX10_farShore 58 = .ok (.if_icmp .ne 19, 3) := by decide +kernel
theorem dX10_farShore_61 : decode cX10_farShore 61 = .ok (.aload_n 0, 1) := by decide +kernel
theorem dX10_farShore_62 : decode cX10_farShore 62 = .ok (.iload_n 3, 1) := by decide +kernel
theorem dX10_farShore_63 : decode cX10_farShore 63 = .ok (.iload 4, 2) := by decide +kernel
theorem dX10_farShore_65 : decode cX10_farShore 65 = .ok (.invokevirtual 282, 3) := by decide +kernel
theorem dX10_farShore_68 : decode cX10_farShore 68 = .ok (.ifCond .eq 9, 3) := by decide +kernel
theorem dX10_farShore_71 : decode cX10_farShore 71 = .ok (.iconst 1, 1) := by decide +kernel
theorem dX10_farShore_72 : decode cX10_farShore 72 = .ok (.iload_n 3, 1) := by decide +kernel
theorem dX10_farShore_73 : decode cX10_farShore 73 = .ok (.ishl, 1) := by decide +kernel
theorem dX10_farShore_74 : decode cX10_farShore 74 = .ok (.goto 4, 3) := by decide +kernel
theorem dX10_farShore_77 : decode cX10_farShore 77 = .ok (.iconst 0, 1) := by decide +kernel
theorem dX10_farShore_78 : decode cX10_farShore 78 = .ok (.ior, 1) := by decide +kernel
theorem dX10_farShore_79 : decode cX10_farShore 79 = .ok (.istore_n 2, 1) := by decide +kernel
theorem dX10_farShore_80 : decode cX10_farShore 80 = .ok (.iinc 4 1, 3) := by decide +kernel
theorem dX10_farShore_83 : decode cX10_farShore 83 = .ok (.goto (-55), 3) := by decide +kernel
theorem dX10_farShore_86 : decode cX10_farShore 86 = .ok (.iinc 3 1, 3) := by decide +kernel
theorem dX10_farShore_89 : decode cX10_farShore 89 = .ok (.goto (-72), 3) := by decide +kernel
theorem dX10_farShore_92 : decode cX10_farShore 92 = .ok (.iload_n 2, 1) := by decide +kernel
theorem dX10_farShore_93 : decode cX10_farShore 93 = .ok (.ireturn, 1) := by decide +kernel
theorem dX10_cross_0 : decode cX10_cross 0 = .ok (.aload_n 0, 1) := by decide +kernel
theorem dX10_cross_1 : decode cX10_cross 1 = .ok (.iload_n 1, 1) := by decide +kernel
theorem dX10_cross_2 : decode cX10_cross 2 = .ok (.iload_n 2, 1) := by decide +kernel
theorem dX10_cross_3 : decode cX10_cross 3 = .ok (.invokevirtual 226, 3) := by decide +kernel
theorem dX10_cross_6 : decode cX10_cross 6 = .ok (.ifCond .ne 6, 3) := by decide +kernel
theorem dX10_cross_9 : decode cX10_cross 9 = .ok (.ldc 207, 2) := by decide +kernel
theorem dX10_cross_11 : decode cX10_cross 11 = .ok (.ireturn, 1) := by decide +kernel
theorem dX10_cross_12 : decode cX10_cross 12 = .ok (.iconst (-1), 1) := by decide +kernel
theorem dX10_cross_13 : decode cX10_cross 13 = .ok (.istore_n 3, 1) := by decide +kernel
theorem dX10_cross_14 : decode cX10_cross 14 = .ok (.iconst 0, 1) := by decide +kernel
theorem dX10_cross_15 : decode cX10_cross 15 = .ok (.istore 4, 2) := by decide +kernel
theorem dX10_cross_17 : decode cX10_cross 17 = .ok (.iload 4, 2) := by decide +kernel
theorem dX10_cross_19 : decode cX10_cross 19 = .ok (.aload_n 0, 1) := by decide +kernel
theorem dX10_cross_20 : decode cX10_cross 20 = .ok (.getfield 102, 3) := by decide +kernel
theorem dX10_cross_23 : decode cX10_cross 23 = .ok (.if_icmp .ge 60, 3) := by decide +kernel
theorem dX10_cross_26 : decode cX10_cross 26 = .ok (.aload_n 0, 1) := by decide +kernel
theorem dX10_cross_27 : decode cX10_cross 27 = .ok (.getfield 7, 3) := by decide +kernel
theorem dX10_cross_30 : decode cX10_cross 30 = .ok (.iload_n 1, 1) := by decide +kernel
theorem dX10_cross_31 : decode cX10_cross 31 = .ok (.iaload, 1) := by decide +kernel
theorem dX10_cross_32 : decode cX10_cross 32 = .ok (.aload_n 0, 1) := by decide +kernel
theorem dX10_cross_33 : decode cX10_cross 33 = .ok (.getfield 7, 3) := by decide +kernel
theorem dX10_cross_36 : decode cX10_cross 36 = .ok (.iload_n 2, 1) := by decide +kernel
theorem dX10_cross_37 : decode cX10_cross 37 = .ok (.iaload, 1) := by decide +kernel
theorem dX10_cross_38 : decode cX10_cross 38 = .ok (.invokestatic 217, 3) := by decide +kernel
theorem dX10_cross_41 : decode cX10_cross 41 = .ok (.iconst 2, 1) := by decide +kernel
theorem dX10_cross_42 : decode cX10_cross 42 = .ok (.if_icmp .ne 33, 3) := by decide +kernel
theorem dX10_cross_45 : decode cX10_cross 45 = .ok (.iconst 2, 1) := by decide +kernel
theorem dX10_cross_46 : decode cX10_cross 46 = .ok (.aload_n 0, 1) := by decide +kernel
theorem dX10_cross_47 : decode cX10_cross 47 = .ok (.getfield 7, 3) := by decide +kernel
theorem dX10_cross_50 : decode cX10_cross 50 = .ok (.iload 4, 2) := by decide +kernel
theorem dX10_cross_52 : decode cX10_cross 52 = .ok (.iaload, 1) := by decide +kernel
theorem dX10_cross_53 : decode cX10_cross 53 = .ok (.imul, 1) := by decide +kernel
theorem dX10_cross_54 : decode cX10_cross 54 = .ok (.aload_n 0, 1) := by decide +kernel
theorem dX10_cross_55 : decode cX10_cross 55 = .ok (.getfield 7, 3) := by decide +kernel
theorem dX10_cross_58 : decode cX10_cross 58 = .ok (.iload_n 1, 1) := by decide +kernel
theorem dX10_cross_59 : decode cX10_cross 59 = .ok (.iaload, 1) := by decide +kernel
theorem dX10_cross_60 : decode cX10_cross 60 = .ok (.aload_n 0, 1) := by decide +kernel
theorem dX10_cross_61 : decode cX10_cross 61 = .ok (.getfield 7, 3) := by decide +kernel
theorem dX10_cross_64 : decode cX10_cross 64 = .ok (.iload_n 2, 1) := by decide +kernel
theorem dX10_cross_65 : decode cX10_cross 65 = .ok (.iaload, 1) := by decide +kernel
theorem dX10_cross_66 : decode cX10_cross 66 = .ok (.iadd, 1) := by decide +kernel
theorem dX10_cross_67 : decode cX10_cross 67 = .ok (.if_icmp .ne 8, 3) := by decide +kernel
theorem dX10_cross_70 : decode cX10_cross 70 = .ok (.iload 4, 2) := by decide +kernel
theorem dX10_cross_72 : decode cX10_cross 72 = .ok (.goto 4, 3) := by decide +kernel
theorem dX10_cross_75 : decode cX10_cross 75 = .ok (.iload_n 3, 1) := by decide +kernel
theorem dX10_cross_76 : decode cX10_cross 76 = .ok (.istore_n 3, 1) := by decide +kernel
theorem dX10_cross_77 : decode cX10_cross 77 = .ok (.iinc 4 1, 3) := by decide +kernel
theorem dX10_cross_80 : decode cX10_cross 80 = .ok (.goto (-63), 3) := by decide +kernel
theorem dX10_cross_83 : decode cX10_cross 83 = .ok (.iload_n 3, 1) := by decide +kernel
theorem dX10_cross_84 : decode cX10_cross 84 = .ok (.ireturn, 1) := by decide +kernel
theorem dX10_treaty_0 : decode cX10_treaty 0 = .ok (.aload_n 0, 1) := by decide +kernel
theorem dX10_treaty_1 : decode cX10_treaty 1 = .ok (.iload_n 1, 1) := by decide +kernel
theorem dX10_treaty_2 : decode cX10_treaty 2 = .ok (.invokevirtual 275, 3) := by decide +kernel
theorem dX10_treaty_5 : decode cX10_treaty 5 = .ok (.ifCond .ne 6, 3) := by decide +kernel
theorem dX10_treaty_8 : decode cX10_treaty 8 = .ok (.ldc 207, 2) := by decide +kernel
theorem dX10_treaty_10 : decode cX10_treaty 10 = .ok (.ireturn, 1) := by decide +kernel
theorem dX10_treaty_11 : decode cX10_treaty 11 = .ok (.iconst 0, 1) := by decide +kernel
theorem dX10_treaty_12 : decode cX10_treaty 12 = .ok (.istore_n 2, 1) := by decide +kernel
theorem dX10_treaty_13 : decode cX10_treaty 13 = .ok (.iconst 0, 1) := by decide +kernel
theorem dX10_treaty_14 : decode cX10_treaty 14 = .ok (.istore_n 3, 1) := by decide +kernel
theorem dX10_treaty_15 : decode cX10_treaty 15 = .ok (.iload_n 3, 1) := by decide +kernel
