theorem dX0_init_0 : decode cX0_init 0 = .ok (.aload_n 0, 1) := by decide +kernel
theorem dX0_init_1 : decode cX0_init 1 = .ok (.invokespecial 3, 3) := by decide +kernel
theorem dX0_init_4 : decode cX0_init 4 = .ok (.aload_n 0, 1) := by decide +kernel
theorem dX0_init_5 : decode cX0_init 5 = .ok (.bipush 8, 2) := by decide +kernel
theorem dX0_init_7 : decode cX0_init 7 = .ok (.newarray .int, 2) := by decide +kernel
theorem dX0_init_9 : decode cX0_init 9 = .ok (.putfield 9, 3) := by decide +kernel
theorem dX0_init_12 : decode cX0_init 12 = .ok (.aload_n 0, 1) := by decide +kernel
theorem dX0_init_13 : decode cX0_init 13 = .ok (.bipush 8, 2) := by decide +kernel
theorem dX0_init_15 : decode cX0_init 15 = .ok (.newarray .int, 2) := by decide +kernel
theorem dX0_init_17 : decode cX0_init 17 = .ok (.putfield 15, 3) := by decide +kernel
theorem dX0_init_20 : decode cX0_init 20 = .ok (.aload_n 0, 1) := by decide +kernel
theorem dX0_init_21 : decode cX0_init 21 = .ok (.bipush 8, 2) := by decide +kernel
theorem dX0_init_23 : decode cX0_init 23 = .ok (.newarray .int, 2) := by decide +kernel
theorem dX0_init_25 : decode cX0_init 25 = .ok (.putfield 18, 3) := by decide +kernel
theorem dX0_init_28 : decode cX0_init 28 = .ok (.aload_n 0, 1) := by decide +kernel
theorem dX0_init_29 : decode cX0_init 29 = .ok (.bipush 8, 2) := by decide +kernel
theorem dX0_init_31 : decode cX0_init 31 = .ok (.newarray .int, 2) := by decide +kernel
theorem dX0_init_33 : decode cX0_init 33 = .ok (.putfield 21, 3) := by decide +kernel
theorem dX0_init_36 : decode cX0_init 36 = .ok (.aload_n 0, 1) := by decide +kernel
theorem dX0_init_37 : decode cX0_init 37 = .ok (.invokevirtual 24, 3) := by decide +kernel
theorem dX0_init_40 : decode cX0_init 40 = .ok (.return_, 1) := by decide +kernel
theorem dX0_empty_0 : decode cX0_empty 0 = .ok (.aload_n 0, 1) := by decide +kernel
theorem dX0_empty_1 : decode cX0_empty 1 = .ok (.iconst 0, 1) := by decide +kernel
theorem dX0_empty_2 : decode cX0_empty 2 = .ok (.putfield 27, 3) := by decide +kernel
theorem dX0_empty_5 : decode cX0_empty 5 = .ok (.aload_n 0, 1) := by decide +kernel
theorem dX0_empty_6 : decode cX0_empty 6 = .ok (.iconst 0, 1) := by decide +kernel
theorem dX0_empty_7 : decode cX0_empty 7 = .ok (.putfield 31, 3) := by decide +kernel
theorem dX0_empty_10 : decode cX0_empty 10 = .ok (.aload_n 0, 1) := by decide +kernel
theorem dX0_empty_11 : decode cX0_empty 11 = .ok (.iconst 0, 1) := by decide +kernel
theorem dX0_empty_12 : decode cX0_empty 12 = .ok (.putfield 34, 3) := by decide +kernel
theorem dX0_empty_15 : decode cX0_empty 15 = .ok (.aload_n 0, 1) := by decide +kernel
theorem dX0_empty_16 : decode cX0_empty 16 = .ok (.iconst 2, 1) := by decide +kernel
theorem dX0_empty_17 : decode cX0_empty 17 = .ok (.putfield 37, 3) := by decide +kernel
theorem dX0_empty_20 : decode cX0_empty 20 = .ok (.aload_n 0, 1) := by decide +kernel
theorem dX0_empty_21 : decode cX0_empty 21 = .ok (.bipush 10, 2) := by decide +kernel
theorem dX0_empty_23 : decode cX0_empty 23 = .ok (.putfield 40, 3) := by decide +kernel
theorem dX0_empty_26 : decode cX0_empty 26 = .ok (.aload_n 0, 1) := by decide +kernel
theorem dX0_empty_27 : decode cX0_empty 27 = .ok (.iconst 0, 1) := by decide +kernel
theorem dX0_empty_28 : decode cX0_empty 28 = .ok (.putfield 43, 3) := by decide +kernel
theorem dX0_empty_31 : decode cX0_empty 31 = .ok (.return_, 1) := by decide +kernel
theorem dX0_settle_0 : decode cX0_settle 0 = .ok (.aload_n 0, 1) := by decide +kernel
theorem dX0_settle_1 : decode cX0_settle 1 = .ok (.getfield 43, 3) := by decide +kernel
theorem dX0_settle_4 : decode cX0_settle 4 = .ok (.bipush 8, 2) := by decide +kernel
theorem dX0_settle_6 : decode cX0_settle 6 = .ok (.if_icmp .lt 4, 3) := by decide +kernel
theorem dX0_settle_9 : decode cX0_settle 9 = .ok (.return_, 1) := by decide +kernel
theorem dX0_settle_10 : decode cX0_settle 10 = .ok (.aload_n 0, 1) := by decide +kernel
theorem dX0_settle_11 : decode cX0_settle 11 = .ok (.getfield 9, 3) := by decide +kernel
theorem dX0_settle_14 : decode cX0_settle 14 = .ok (.aload_n 0, 1) := by decide +kernel
theorem dX0_settle_15 : decode cX0_settle 15 = .ok (.getfield 43, 3) := by decide +kernel
theorem dX0_settle_18 : decode cX0_settle 18 = .ok (.iload_n 1, 1) := by decide +kernel
theorem dX0_settle_19 : decode cX0_settle 19 = .ok (.iastore, 1) := by decide +kernel
theorem dX0_settle_20 : decode cX0_settle 20 = .ok (.aload_n 0, 1) := by decide +kernel
theorem dX0_settle_21 : decode cX0_settle 21 = .ok (.getfield 15, 3) := by decide +kernel
theorem dX0_settle_24 : decode cX0_settle 24 = .ok (.aload_n 0, 1) := by decide +kernel
theorem dX0_settle_25 : decode cX0_settle 25 = .ok (.getfield 43, 3) := by decide +kernel
theorem dX0_settle_28 : decode cX0_settle 28 = .ok (.iload_n 2, 1) := by decide +kernel
theorem dX0_settle_29 : decode cX0_settle 29 = .ok (.iastore, 1) := by decide +kernel
theorem dX0_settle_30 : decode cX0_settle 30 = .ok (.aload_n 0, 1) := by decide +kernel
theorem dX0_settle_31 : decode cX0_settle 31 = .ok (.getfield 18, 3) := by decide +kernel
theorem dX0_settle_34 : decode cX0_settle 34 = .ok (.aload_n 0, 1) := by decide +kernel
theorem dX0_settle_35 : decode cX0_settle 35 = .ok (.getfield 43, 3) := by decide +kernel
theorem dX0_settle_38 : decode cX0_settle 38 = .ok (.iload_n 3, 1) := by decide +kernel
theorem dX0_settle_39 : decode cX0_settle 39 = .ok (.iastore, 1) := by decide +kernel
theorem dX0_settle_40 : decode cX0_settle 40 = .ok (.aload_n 0, 1) := by decide +kernel
theorem dX0_settle_41 : decode cX0_settle 41 = .ok (.getfield 21, 3) := by decide +kernel
theorem dX0_settle_44 : decode cX0_settle 44 = .ok (.aload_n 0, 1) := by decide +kernel
theorem dX0_settle_45 : decode cX0_settle 45 = .ok (.getfield 43, 3) := by decide +kernel
theorem dX0_settle_48 : decode cX0_settle 48 = .ok (.iload 4, 2) := by decide +kernel
theorem dX0_settle_50 : decode cX0_settle 50 = .ok (.iastore, 1) := by decide +kernel
theorem dX0_settle_51 : decode cX0_settle 51 = .ok (.aload_n 0, 1) := by decide +kernel
theorem dX0_settle_52 : decode cX0_settle 52 = .ok (.dup, 1) := by decide +kernel
theorem dX0_settle_53 : decode cX0_settle 53 = .ok (.getfield 43, 3) := by decide +kernel
theorem dX0_settle_56 : decode cX0_settle 56 = .ok (.iconst 1, 1) := by decide +kernel
theorem dX0_settle_57 : decode cX0_settle 57 = .ok (.iadd, 1) := by decide +kernel
theorem dX0_settle_58 : decode cX0_settle 58 = .ok (.putfield 43, 3) := by decide +kernel
theorem dX0_settle_61 : decode cX0_settle 61 = .ok (.return_, 1) := by decide +kernel
theorem dX0_has_0 : decode cX0_has 0 = .ok (.iload_n 1, 1) := by decide +kernel
theorem dX0_has_1 : decode cX0_has 1 = .ok (.ifCond .lt 15, 3) := by decide +kernel
theorem dX0_has_4 : decode cX0_has 4 = .ok (.iload_n 1, 1) := by decide +kernel
theorem dX0_has_5 : decode cX0_has 5 = .ok (.aload_n 0, 1) := by decide +kernel
theorem dX0_has_6 : decode cX0_has 6 = .ok (.getfield 43, 3) := by decide +kernel
theorem dX0_has_9 : decode cX0_has 9 = .ok (.if_icmp .ge 7, 3) := by decide +kernel
theorem dX0_has_12 : decode cX0_has 12 = .ok (.iconst 1, 1) := by decide +kernel
theorem dX0_has_13 : decode cX0_has 13 = .ok (.goto 4, 3) := by decide +kernel
theorem dX0_has_16 : decode cX0_has 16 = .ok (.iconst 0, 1) := by decide +kernel
theorem dX0_has_17 : decode cX0_has 17 = .ok (.ireturn, 1) := by decide +kernel
theorem dX0_hasTwo_0 : decode cX0_hasTwo 0 = .ok (.aload_n 0, 1) := by decide +kernel
theorem dX0_hasTwo_1 : decode cX0_hasTwo 1 = .ok (.iload_n 1, 1) := by decide +kernel
theorem dX0_hasTwo_2 : decode cX0_hasTwo 2 = .ok (.invokevirtual 46, 3) := by decide +kernel
theorem dX0_hasTwo_5 : decode cX0_hasTwo 5 = .ok (.ifCond .eq 20, 3) := by decide +kernel
theorem dX0_hasTwo_8 : decode cX0_hasTwo 8 = .ok (.aload_n 0, 1) := by decide +kernel
theorem dX0_hasTwo_9 : decode cX0_hasTwo 9 = .ok (.iload_n 2, 1) := by decide +kernel
theorem dX0_hasTwo_10 : decode cX0_hasTwo 10 = .ok (.invokevirtual 46, 3) := by decide +kernel
theorem dX0_hasTwo_13 : decode cX0_hasTwo 13 = .ok (.ifCond .eq 12, 3) := by decide +kernel
theorem dX0_hasTwo_16 : decode cX0_hasTwo 16 = .ok (.iload_n 1, 1) := by decide +kernel
theorem dX0_hasTwo_17 : decode cX0_hasTwo 17 = .ok (.iload_n 2, 1) := by decide +kernel
theorem dX0_hasTwo_18 : decode cX0_hasTwo 18 = .ok (.if_icmp .eq 7, 3) := by decide +kernel
theorem dX0_hasTwo_21 : decode cX0_hasTwo 21 = .ok (.iconst 1, 1) := by decide +kernel
theorem dX0_hasTwo_22 : decode cX0_hasTwo 22 = .ok (.goto 4, 3) := by decide +kernel
theorem dX0_hasTwo_25 : decode cX0_hasTwo 25 = .ok (.iconst 0, 1) := by decide +kernel
theorem dX0_hasTwo_26 : decode cX0_hasTwo 26 = .ok (.ireturn, 1) := by decide +kernel
theorem dX0_hasAll_0 : decode cX0_hasAll 0 = .ok (.iload_n 1, 1) := by decide +kernel
theorem dX0_hasAll_1 : decode cX0_hasAll 1 = .ok (.ifCond .lt 17, 3) := by decide +kernel
theorem dX0_hasAll_4 : decode cX0_hasAll 4 = .ok (.iload_n 1, 1) := by decide +kernel
theorem dX0_hasAll_5 : decode cX0_hasAll 5 = .ok (.iconst 1, 1) := by decide +kernel
theorem dX0_hasAll_6 : decode cX0_hasAll 6 = .ok (.aload_n 0, 1) := by decide +kernel
theorem dX0_hasAll_7 : decode cX0_hasAll 7 = .ok (.getfield 43, 3) := by decide +kernel
theorem dX0_hasAll_10 : decode cX0_hasAll 10 = .ok (.ishl, 1) := by decide +kernel
theorem dX0_hasAll_11 : decode cX0_hasAll 11 = .ok (.if_icmp .ge 7, 3) := by decide +kernel
theorem dX0_hasAll_14 : decode cX0_hasAll 14 = .ok (.iconst 1, 1) := by decide +kernel
theorem dX0_hasAll_15 : decode cX0_hasAll 15 = .ok (.goto 4, 3) := by decide +kernel
theorem dX0_hasAll_18 : decode cX0_hasAll 18 = .ok (.iconst 0, 1) := by decide +kernel
theorem dX0_hasAll_19 : decode cX0_hasAll 19 = .ok (.ireturn, 1) := by decide +kernel
theorem dX0_apart_0 : decode cX0_apart 0 = .ok (.aload_n 0, 1) := by decide +kernel
theorem dX0_apart_1 : decode cX0_apart 1 = .ok (.getfield 9, 3) := by decide +kernel
theorem dX0_apart_4 : decode cX0_apart 4 = .ok (.iload_n 1, 1) := by decide +kernel
theorem dX0_apart_5 : decode cX0_apart 5 = .ok (.iaload, 1) := by decide +kernel
theorem dX0_apart_6 : decode cX0_apart 6 = .ok (.aload_n 0, 1) := by decide +kernel
theorem dX0_apart_7 : decode cX0_apart 7 = .ok (.getfield 9, 3) := by decide +kernel
theorem dX0_apart_10 : decode cX0_apart 10 = .ok (.iload_n 2, 1) := by decide +kernel
theorem dX0_apart_11 : decode cX0_apart 11 = .ok (.iaload, 1) := by decide +kernel
theorem dX0_apart_12 : decode cX0_apart 12 = .ok (.isub, 1) := by decide +kernel
theorem dX0_apart_13 : decode cX0_apart 13 = .ok (.invokestatic 50, 3) := by decide +kernel
theorem dX0_apart_16 : decode cX0_apart 16 = .ok (.ireturn, 1) := by decide +kernel
theorem dX0_houseOn_0 : decode cX0_houseOn 0 = .ok (.iconst 0, 1) := by decide +kernel
theorem dX0_houseOn_1 : decode cX0_houseOn 1 = .ok (.istore_n 2, 1) := by decide +kernel
theorem dX0_houseOn_2 : decode cX0_houseOn 2 = .ok (.iload_n 2, 1) := by decide +kernel
theorem dX0_houseOn_3 : decode cX0_houseOn 3 = .ok (.aload_n 0, 1) := by decide +kernel
theorem dX0_houseOn_4 : decode cX0_houseOn 4 = .ok (.getfield 43, 3) := by decide +kernel
theorem dX0_houseOn_7 : decode cX0_houseOn 7 = .ok (.if_icmp .ge 21, 3) := by decide +kernel
theorem dX0_houseOn_10 : decode cX0_houseOn 10 = .ok (.aload_n 0, 1) := by decide +kernel
theorem dX0_houseOn_11 : decode cX0_houseOn 11 = .ok (.getfield 9, 3) := by decide +kernel
theorem dX0_houseOn_14 : decode cX0_houseOn 14 = .ok (.iload_n 2, 1) := by decide +kernel
theorem dX0_houseOn_15 : decode cX0_houseOn 15 = .ok (.iaload, 1) := by decide +kernel
theorem dX0_houseOn_16 : decode cX0_houseOn 16 = .ok (.iload_n 1, 1) := by decide +kernel
theorem dX0_houseOn_17 : decode cX0_houseOn 17 = .ok (.if_icmp .ne 5, 3) := by decide +kernel
theorem dX0_houseOn_20 : decode cX0_houseOn 20 = .ok (.iload_n 2, 1) := by decide +kernel
theorem dX0_houseOn_21 : decode cX0_houseOn 21 = .ok (.ireturn, 1) := by decide +kernel
theorem dX0_houseOn_22 : decode cX0_houseOn 22 = .ok (.iinc 2 1, 3) := by decide +kernel
theorem dX0_houseOn_25 : decode cX0_houseOn 25 = .ok (.goto (-23), 3) := by decide +kernel
theorem dX0_houseOn_28 : decode cX0_houseOn 28 = .ok (.iconst (-1), 1) := by decide +kernel
theorem dX0_houseOn_29 : decode cX0_houseOn 29 = .ok (.ireturn, 1) := by decide +kernel
theorem dX0_houseOfStars_0 : decode cX0_houseOfStars 0 = .ok (.iconst 0, 1) := by decide +kernel
theorem dX0_houseOfStars_1 : decode cX0_houseOfStars 1 = .ok (.istore_n 2, 1) := by decide +kernel
theorem dX0_houseOfStars_2 : decode cX0_houseOfStars 2 = .ok (.iload_n 2, 1) := by decide +kernel
theorem dX0_houseOfStars_3 : decode cX0_houseOfStars 3 = .ok (.aload_n 0, 1) := by decide +kernel
theorem dX0_houseOfStars_4 : decode cX0_houseOfStars 4 = .ok (.getfield 43, 3) := by decide +kernel
theorem dX0_houseOfStars_7 : decode cX0_houseOfStars 7 = .ok (.if_icmp .ge 21, 3) := by decide +kernel
theorem dX0_houseOfStars_10 : decode cX0_houseOfStars 10 = .ok (.aload_n 0, 1) := by decide +kernel
theorem dX0_houseOfStars_11 : decode cX0_houseOfStars 11 = .ok (.getfield 21, 3) := by decide +kernel
theorem dX0_houseOfStars_14 : decode cX0_houseOfStars 14 = .ok (.iload_n 2, 1) := by decide +kernel
theorem dX0_houseOfStars_15 : decode cX0_houseOfStars 15 = .ok (.iaload, 1) := by decide +kernel
theorem dX0_houseOfStars_16 : decode cX0_houseOfStars 16 = .ok (.iload_n 1, 1) := by decide +kernel
theorem dX0_houseOfStars_17 : decode cX0_houseOfStars 17 = .ok (.if_icmp .ne 5, 3) := by decide +kernel
theorem dX0_houseOfStars_20 : decode cX0_houseOfStars 20 = .ok (.iload_n 2, 1) := by decide +kernel
theorem dX0_houseOfStars_21 : decode cX0_houseOfStars 21 = .ok (.ireturn, 1) := by decide +kernel
theorem dX0_houseOfStars_22 : decode cX0_houseOfStars 22 = .ok (.iinc 2 1, 3) := by decide +kernel
theorem dX0_houseOfStars_25 : decode cX0_houseOfStars 25 = .ok (.goto (-23), 3) := by decide +kernel
theorem dX0_houseOfStars_28 : decode cX0_houseOfStars 28 = .ok (.iconst (-1), 1) := by decide +kernel
theorem dX0_houseOfStars_29 : decode cX0_houseOfStars 29 = .ok (.ireturn, 1) := by decide +kernel
theorem dX0_anyGreen_0 : decode cX0_anyGreen 0 = .ok (.aload_n 0, 1) := by decide +kernel
theorem dX0_anyGreen_1 : decode cX0_anyGreen 1 = .ok (.getfield 21, 3) := by decide +kernel
theorem dX0_anyGreen_4 : decode cX0_anyGreen 4 = .ok (.iload_n 1, 1) := by decide +kernel
theorem dX0_anyGreen_5 : decode cX0_anyGreen 5 = .ok (.iaload, 1) := by decide +kernel
theorem dX0_anyGreen_6 : decode cX0_anyGreen 6 = .ok (.invokestatic 56, 3) := by decide +kernel
theorem dX0_anyGreen_9 : decode cX0_anyGreen 9 = .ok (.aload_n 0, 1) := by decide +kernel
theorem dX0_anyGreen_10 : decode cX0_anyGreen 10 = .ok (.getfield 21, 3) := by decide +kernel
theorem dX0_anyGreen_13 : decode cX0_anyGreen 13 = .ok (.iload_n 2, 1) := by decide +kernel
theorem dX0_anyGreen_14 : decode cX0_anyGreen 14 = .ok (.iaload, 1) := by decide +kernel
theorem dX0_anyGreen_15 : decode cX0_anyGreen 15 = .ok (.invokestatic 56, 3) := by decide +kernel
theorem dX0_anyGreen_18 : decode cX0_anyGreen 18 = .ok (.iadd, 1) := by decide +kernel
theorem dX0_anyGreen_19 : decode cX0_anyGreen 19 = .ok (.ifCond .le 7, 3) := by decide +kernel
theorem dX0_anyGreen_22 : decode cX0_anyGreen 22 = .ok (.iconst 1, 1) := by decide +kernel
theorem dX0_anyGreen_23 : decode cX0_anyGreen 23 = .ok (.goto 4, 3) := by decide +kernel
theorem dX0_anyGreen_26 : decode cX0_anyGreen 26 = .ok (.iconst 0, 1) := by decide +kernel
theorem dX0_anyGreen_27 : decode cX0_anyGreen 27 = .ok (.ireturn, 1) := by decide +kernel
theorem dX0_readAs_0 : decode cX0_readAs 0 = .ok (.aload_n 0, 1) := by decide +kernel
theorem dX0_readAs_1 : decode cX0_readAs 1 = .ok (.getfield 15, 3) := by decide +kernel
theorem dX0_readAs_4 : decode cX0_readAs 4 = .ok (.iload_n 1, 1) := by decide +kernel
theorem dX0_readAs_5 : decode cX0_readAs 5 = .ok (.iaload, 1) := by decide +kernel
theorem dX0_readAs_6 : decode cX0_readAs 6 = .ok (.iconst 2, 1) := by decide +kernel
theorem dX0_readAs_7 : decode cX0_readAs 7 = .ok (.if_icmp .le 5, 3) := by decide +kernel
theorem dX0_readAs_10 : decode cX0_readAs 10 = .ok (.iload_n 1, 1) := by decide +kernel
theorem dX0_readAs_11 : decode cX0_readAs 11 = .ok (.ireturn, 1) := by decide +kernel
theorem dX0_readAs_12 : decode cX0_readAs 12 = .ok (.iload_n 1, 1) := by decide +kernel
theorem dX0_readAs_13 : decode cX0_readAs 13 = .ok (.istore_n 2, 1) := by decide +kernel
theorem dX0_readAs_14 : decode cX0_readAs 14 = .ok (.iconst 0, 1) := by decide +kernel
theorem dX0_readAs_15 : decode cX0_readAs 15 = .ok (.istore_n 3, 1) := by decide +kernel
theorem dX0_readAs_16 : decode cX0_readAs 16 = .ok (.iload_n 3, 1) := by decide +kernel
theorem dX0_readAs_17 : decode cX0_readAs 17 = .ok (.aload_n 0, 1) := by decide +kernel
theorem dX0_readAs_18 : decode cX0_readAs 18 = .ok (.getfield 43, 3) := by decide +kernel
theorem dX0_readAs_21 : decode cX0_readAs 21 = .ok (.if_icmp .ge 46, 3) := by decide +kernel
theorem dX0_readAs_24 : decode cX0_readAs 24 = .ok (.aload_n 0, 1) := by decide +kernel
theorem dX0_readAs_25 : decode cX0_readAs 25 = .ok (.getfield 9, 3) := by decide +kernel
theorem dX0_readAs_28 : decode cX0_readAs 28 = .ok (.iload_n 3, 1) := by decide +kernel
theorem dX0_readAs_29 : decode cX0_readAs 29 = .ok (.iaload, 1) := by decide +kernel
theorem dX0_readAs_30 : decode cX0_readAs 30 = .ok (.aload_n 0, 1) := by decide +kernel
theorem dX0_readAs_31 : decode cX0_readAs 31 = .ok (.getfield 9, 3) := by decide +kernel
theorem dX0_readAs_34 : decode cX0_readAs 34 = .ok (.iload_n 1, 1) := by decide +kernel
theorem dX0_readAs_35 : decode cX0_readAs 35 = .ok (.iaload, 1) := by decide +kernel
theorem dX0_readAs_36 : decode cX0_readAs 36 = .ok (.if_icmp .le 25, 3) := by decide +kernel
theorem dX0_readAs_39 : decode cX0_readAs 39 = .ok (.iload_n 2, 1) := by decide +kernel
theorem dX0_readAs_40 : decode cX0_readAs 40 = .ok (.iload_n 1, 1) := by decide +kernel
theorem dX0_readAs_41 : decode cX0_readAs 41 = .ok (.if_icmp .eq 18, 3) := by decide +kernel
theorem dX0_readAs_44 : decode cX0_readAs 44 = .ok (.aload_n 0, 1) := by decide +kernel
theorem dX0_readAs_45 : decode cX0_readAs 45 = .ok (.getfield 9, 3) := by decide +kernel
theorem dX0_readAs_48 : decode cX0_readAs 48 = .ok (.iload_n 3, 1) := by decide +kernel
theorem dX0_readAs_49 : decode cX0_readAs 49 = .ok (.iaload, 1) := by decide +kernel
theorem dX0_readAs_50 : decode cX0_readAs 50 = .ok (.aload_n 0, 1) := by decide +kernel
theorem dX0_readAs_51 : decode cX0_readAs 51 = .ok (.getfield 9, 3) := by decide +kernel
theorem dX0_readAs_54 : decode cX0_readAs 54 = .ok (.iload_n 2, 1) := by decide +kernel
theorem dX0_readAs_55 : decode cX0_readAs 55 = .ok (.iaload, 1) := by decide +kernel
theorem dX0_readAs_56 : decode cX0_readAs 56 = .ok (.if_icmp .ge 5, 3) := by decide +kernel
theorem dX0_readAs_59 : decode cX0_readAs 59 = .ok (.iload_n 3, 1) := by decide +kernel
theorem dX0_readAs_60 : decode cX0_readAs 60 = .ok (.istore_n 2, 1) := by decide +kernel
theorem dX0_readAs_61 : decode cX0_readAs 61 = .ok (.iinc 3 1, 3) := by decide +kernel
theorem dX0_readAs_64 : decode cX0_readAs 64 = .ok (.goto (-48), 3) := by decide +kernel
theorem dX0_readAs_67 : decode cX0_readAs 67 = .ok (.iload_n 2, 1) := by decide +kernel
theorem dX0_readAs_68 : decode cX0_readAs 68 = .ok (.ireturn, 1) := by decide +kernel
theorem dX1_init_0 : decode cX1_init 0 = .ok (.aload_n 0, 1) := by decide +kernel
theorem dX1_init_1 : decode cX1_init 1 = .ok (.invokespecial 3, 3) := by decide +kernel
theorem dX1_init_4 : decode cX1_init 4 = .ok (.aload_n 0, 1) := by decide +kernel
theorem dX1_init_5 : decode cX1_init 5 = .ok (.bipush 15, 2) := by decide +kernel
theorem dX1_init_7 : decode cX1_init 7 = .ok (.newarray .int, 2) := by decide +kernel
theorem dX1_init_9 : decode cX1_init 9 = .ok (.putfield 9, 3) := by decide +kernel
theorem dX1_init_12 : decode cX1_init 12 = .ok (.aload_n 0, 1) := by decide +kernel
theorem dX1_init_13 : decode cX1_init 13 = .ok (.bipush 15, 2) := by decide +kernel
theorem dX1_init_15 : decode cX1_init 15 = .ok (.newarray .int, 2) := by decide +kernel
theorem dX1_init_17 : decode cX1_init 17 = .ok (.putfield 15, 3) := by decide +kernel
theorem dX1_init_20 : decode cX1_init 20 = .ok (.aload_n 0, 1) := by decide +kernel
theorem dX1_init_21 : decode cX1_init 21 = .ok (.bipush 15, 2) := by decide +kernel
theorem dX1_init_23 : decode cX1_init 23 = .ok (.newarray .boolean, 2) := by decide +kernel
theorem dX1_init_25 : decode cX1_init 25 = .ok (.putfield 18, 3) := by decide +kernel
theorem dX1_init_28 : decode cX1_init 28 = .ok (.return_, 1) := by decide +kernel
theorem dX1_add_0 : decode cX1_add 0 = .ok (.aload_n 0, 1) := by decide +kernel
theorem dX1_add_1 : decode cX1_add 1 = .ok (.getfield 22, 3) := by decide +kernel
theorem dX1_add_4 : decode cX1_add 4 = .ok (.bipush 15, 2) := by decide +kernel
theorem dX1_add_6 : decode cX1_add 6 = .ok (.if_icmp .lt 4, 3) := by decide +kernel
theorem dX1_add_9 : decode cX1_add 9 = .ok (.return_, 1) := by decide +kernel
theorem dX1_add_10 : decode cX1_add 10 = .ok (.aload_n 0, 1) := by decide +kernel
theorem dX1_add_11 : decode cX1_add 11 = .ok (.getfield 9, 3) := by decide +kernel
theorem dX1_add_14 : decode cX1_add 14 = .ok (.aload_n 0, 1) := by decide +kernel
theorem dX1_add_15 : decode cX1_add 15 = .ok (.getfield 22, 3) := by decide +kernel
theorem dX1_add_18 : decode cX1_add 18 = .ok (.iload_n 1, 1) := by decide +kernel
theorem dX1_add_19 : decode cX1_add 19 = .ok (.iastore, 1) := by decide +kernel
theorem dX1_add_20 : decode cX1_add 20 = .ok (.aload_n 0, 1) := by decide +kernel
theorem dX1_add_21 : decode cX1_add 21 = .ok (.getfield 15, 3) := by decide +kernel
theorem dX1_add_24 : decode cX1_add 24 = .ok (.aload_n 0, 1) := by decide +kernel
theorem dX1_add_25 : decode cX1_add 25 = .ok (.getfield 22, 3) := by decide +kernel
theorem dX1_add_28 : decode cX1_add 28 = .ok (.iload_n 2, 1) := by decide +kernel
theorem dX1_add_29 : decode cX1_add 29 = .ok (.iastore, 1) := by decide +kernel
theorem dX1_add_30 : decode cX1_add 30 = .ok (.aload_n 0, 1) := by decide +kernel
theorem dX1_add_31 : decode cX1_add 31 = .ok (.getfield 18, 3) := by decide +kernel
theorem dX1_add_34 : decode cX1_add 34 = .ok (.aload_n 0, 1) := by decide +kernel
theorem dX1_add_35 : decode cX1_add 35 = .ok (.getfield 22, 3) := by decide +kernel
theorem dX1_add_38 : decode cX1_add 38 = .ok (.iload_n 3, 1) := by decide +kernel
theorem dX1_add_39 : decode cX1_add 39 = .ok (.bastore, 1) := by decide +kernel
theorem dX1_add_40 : decode cX1_add 40 = .ok (.aload_n 0, 1) := by decide +kernel
theorem dX1_add_41 : decode cX1_add 41 = .ok (.dup, 1) := by decide +kernel
theorem dX1_add_42 : decode cX1_add 42 = .ok (.getfield 22, 3) := by decide +kernel
theorem dX1_add_45 : decode cX1_add 45 = .ok (.iconst 1, 1) := by decide +kernel
theorem dX1_add_46 : decode cX1_add 46 = .ok (.iadd, 1) := by decide +kernel
theorem dX1_add_47 : decode cX1_add 47 = .ok (.putfield 22, 3) := by decide +kernel
theorem dX1_add_50 : decode cX1_add 50 = .ok (.return_, 1) := by decide +kernel
theorem dX1_firstWrong_0 : decode cX1_firstWrong 0 = .ok (.iconst 0, 1) := by decide +kernel
theorem dX1_firstWrong_1 : decode cX1_firstWrong 1 = .ok (.istore_n 2, 1) := by decide +kernel
theorem dX1_firstWrong_2 : decode cX1_firstWrong 2 = .ok (.iload_n 2, 1) := by decide +kernel
theorem dX1_firstWrong_3 : decode cX1_firstWrong 3 = .ok (.aload_n 0, 1) := by decide +kernel
theorem dX1_firstWrong_4 : decode cX1_firstWrong 4 = .ok (.getfield 22, 3) := by decide +kernel
theorem dX1_firstWrong_7 : decode cX1_firstWrong 7 = .ok (.if_icmp .ge 36, 3) := by decide +kernel
theorem dX1_firstWrong_10 : decode cX1_firstWrong 10 = .ok (.aload_n 1, 1) := by decide +kernel
theorem dX1_firstWrong_11 : decode cX1_firstWrong 11 = .ok (.aload_n 0, 1) := by decide +kernel
theorem dX1_firstWrong_12 : decode cX1_firstWrong 12 = .ok (.getfield 9, 3) := by decide +kernel
theorem dX1_firstWrong_15 : decode cX1_firstWrong 15 = .ok (.iload_n 2, 1) := by decide +kernel
theorem dX1_firstWrong_16 : decode cX1_firstWrong 16 = .ok (.iaload, 1) := by decide +kernel
theorem dX1_firstWrong_17 : decode cX1_firstWrong 17 = .ok (.aload_n 0, 1) := by decide +kernel
theorem dX1_firstWrong_18 : decode cX1_firstWrong 18 = .ok (.getfield 15, 3) := by decide +kernel
theorem dX1_firstWrong_21 : decode cX1_firstWrong 21 = .ok (.iload_n 2, 1) := by decide +kernel
theorem dX1_firstWrong_22 : decode cX1_firstWrong 22 = .ok (.iaload, 1) := by decide +kernel
theorem dX1_firstWrong_23 : decode cX1_firstWrong 23 = .ok (.invokevirtual 26, 3) := by decide +kernel
theorem dX1_firstWrong_26 : decode cX1_firstWrong 26 = .ok (.aload_n 0, 1) := by decide +kernel
theorem dX1_firstWrong_27 : decode cX1_firstWrong 27 = .ok (.getfield 18, 3) := by decide +kernel
theorem dX1_firstWrong_30 : decode cX1_firstWrong 30 = .ok (.iload_n 2, 1) := by decide +kernel
theorem dX1_firstWrong_31 : decode cX1_firstWrong 31 = .ok (.baload, 1) := by decide +kernel
theorem dX1_firstWrong_32 : decode cX1_firstWrong 32 = .ok (.if_icmp .eq 5, 3) := by decide +kernel
theorem dX1_firstWrong_35 : decode cX1_firstWrong 35 = .ok (.iload_n 2, 1) := by decide +kernel
theorem dX1_firstWrong_36 : decode cX1_firstWrong 36 = .ok (.ireturn, 1) := by decide +kernel
theorem dX1_firstWrong_37 : decode cX1_firstWrong 37 = .ok (.iinc 2 1, 3) := by decide +kernel
theorem dX1_firstWrong_40 : decode cX1_firstWrong 40 = .ok (.goto (-38), 3) := by decide +kernel
theorem dX1_firstWrong_43 : decode cX1_firstWrong 43 = .ok (.iconst (-1), 1) := by decide +kernel
theorem dX1_firstWrong_44 : decode cX1_firstWrong 44 = .ok (.ireturn, 1) := by decide +kernel
theorem dX2_init_0 : decode cX2_init 0 = .ok (.aload_n 0, 1) := by decide +kernel
theorem dX2_init_1 : decode cX2_init 1 = .ok (.invokespecial 3, 3) := by decide +kernel
theorem dX2_init_4 : decode cX2_init 4 = .ok (.aload_n 0, 1) := by decide +kernel
theorem dX2_init_5 : decode cX2_init 5 = .ok (.bipush 6, 2) := by decide +kernel
theorem dX2_init_7 : decode cX2_init 7 = .ok (.newarray .int, 2) := by decide +kernel
theorem dX2_init_9 : decode cX2_init 9 = .ok (.putfield 9, 3) := by decide +kernel
theorem dX2_init_12 : decode cX2_init 12 = .ok (.aload_n 0, 1) := by decide +kernel
theorem dX2_init_13 : decode cX2_init 13 = .ok (.bipush 6, 2) := by decide +kernel
theorem dX2_init_15 : decode cX2_init 15 = .ok (.newarray .int, 2) := by decide +kernel
theorem dX2_init_17 : decode cX2_init 17 = .ok (.putfield 15, 3) := by decide +kernel
theorem dX2_init_20 : decode cX2_init 20 = .ok (.return_, 1) := by decide +kernel
theorem dX2_add_0 : decode cX2_add 0 = .ok (.aload_n 0, 1) := by decide +kernel
theorem dX2_add_1 : decode cX2_add 1 = .ok (.getfield 18, 3) := by decide +kernel
theorem dX2_add_4 : decode cX2_add 4 = .ok (.bipush 6, 2) := by decide +kernel
theorem dX2_add_6 : decode cX2_add 6 = .ok (.if_icmp .lt 4, 3) := by decide +kernel
theorem dX2_add_9 : decode cX2_add 9 = .ok (.return_, 1) := by decide +kernel
theorem dX2_add_10 : decode cX2_add 10 = .ok (.aload_n 0, 1) := by decide +kernel
theorem dX2_add_11 : decode cX2_add 11 = .ok (.getfield 9, 3) := by decide +kernel
theorem dX2_add_14 : decode cX2_add 14 = .ok (.aload_n 0, 1) := by decide +kernel
theorem dX2_add_15 : decode cX2_add 15 = .ok (.getfield 18, 3) := by decide +kernel
theorem dX2_add_18 : decode cX2_add 18 = .ok (.iload_n 1, 1) := by decide +kernel
theorem dX2_add_19 : decode cX2_add 19 = .ok (.iastore, 1) := by decide +kernel
theorem dX2_add_20 : decode cX2_add 20 = .ok (.aload_n 0, 1) := by decide +kernel
theorem dX2_add_21 : decode cX2_add 21 = .ok (.getfield 15, 3) := by decide +kernel
theorem dX2_add_24 : decode cX2_add 24 = .ok (.aload_n 0, 1) := by decide +kernel
theorem dX2_add_25 : decode cX2_add 25 = .ok (.getfield 18, 3) := by decide +kernel
theorem dX2_add_28 : decode cX2_add 28 = .ok (.iload_n 2, 1) := by decide +kernel
theorem dX2_add_29 : decode cX2_add 29 = .ok (.iastore, 1) := by decide +kernel
theorem dX2_add_30 : decode cX2_add 30 = .ok (.aload_n 0, 1) := by decide +kernel
theorem dX2_add_31 : decode cX2_add 31 = .ok (.dup, 1) := by decide +kernel
theorem dX2_add_32 : decode cX2_add 32 = .ok (.getfield 18, 3) := by decide +kernel
theorem dX2_add_35 : decode cX2_add 35 = .ok (.iconst 1, 1) := by decide +kernel
theorem dX2_add_36 : decode cX2_add 36 = .ok (.iadd, 1) := by decide +kernel
theorem dX2_add_37 : decode cX2_add 37 = .ok (.putfield 18, 3) := by decide +kernel
theorem dX2_add_40 : decode cX2_add 40 = .ok (.return_, 1) := by decide +kernel
theorem dX2_ways_0 : decode cX2_ways 0 = .ok (.iconst 1, 1) := by decide +kernel
theorem dX2_ways_1 : decode cX2_ways 1 = .ok (.istore_n 3, 1) := by decide +kernel
theorem dX2_ways_2 : decode cX2_ways 2 = .ok (.iconst 0, 1) := by decide +kernel
theorem dX2_ways_3 : decode cX2_ways 3 = .ok (.istore 4, 2) := by decide +kernel
theorem dX2_ways_5 : decode cX2_ways 5 = .ok (.iload 4, 2) := by decide +kernel
theorem dX2_ways_7 : decode cX2_ways 7 = .ok (.aload_n 0, 1) := by decide +kernel
theorem dX2_ways_8 : decode cX2_ways 8 = .ok (.getfield 18, 3) := by decide +kernel
theorem dX2_ways_11 : decode cX2_ways 11 = .ok (.if_icmp .ge 42, 3) := by decide +kernel
theorem dX2_ways_14 : decode cX2_ways 14 = .ok (.aload_n 2, 1) := by decide +kernel
theorem dX2_ways_15 : decode cX2_ways 15 = .ok (.aload_n 1, 1) := by decide +kernel
theorem dX2_ways_16 : decode cX2_ways 16 = .ok (.aload_n 0, 1) := by decide +kernel
theorem dX2_ways_17 : decode cX2_ways 17 = .ok (.getfield 15, 3) := by decide +kernel
theorem dX2_ways_20 : decode cX2_ways 20 = .ok (.iload 4, 2) := by decide +kernel
theorem dX2_ways_22 : decode cX2_ways 22 = .ok (.iaload, 1) := by decide +kernel
theorem dX2_ways_23 : decode cX2_ways 23 = .ok (.invokevirtual 22, 3) := by decide +kernel
theorem dX2_ways_26 : decode cX2_ways 26 = .ok (.invokestatic 28, 3) := by decide +kernel
theorem dX2_ways_29 : decode cX2_ways 29 = .ok (.istore 5, 2) := by decide +kernel
theorem dX2_ways_31 : decode cX2_ways 31 = .ok (.iload_n 3, 1) := by decide +kernel
theorem dX2_ways_32 : decode cX2_ways 32 = .ok (.iconst 0, 1) := by decide +kernel
theorem dX2_ways_33 : decode cX2_ways 33 = .ok (.iload 5, 2) := by decide +kernel
theorem dX2_ways_35 : decode cX2_ways 35 = .ok (.aload_n 0, 1) := by decide +kernel
theorem dX2_ways_36 : decode cX2_ways 36 = .ok (.iload 4, 2) := by decide +kernel
theorem dX2_ways_38 : decode cX2_ways 38 = .ok (.invokevirtual 34, 3) := by decide +kernel
theorem dX2_ways_41 : decode cX2_ways 41 = .ok (.isub, 1) := by decide +kernel
theorem dX2_ways_42 : decode cX2_ways 42 = .ok (.invokestatic 37, 3) := by decide +kernel
theorem dX2_ways_45 : decode cX2_ways 45 = .ok (.imul, 1) := by decide +kernel
theorem dX2_ways_46 : decode cX2_ways 46 = .ok (.istore_n 3, 1) := by decide +kernel
theorem dX2_ways_47 : decode cX2_ways 47 = .ok (.iinc 4 1, 3) := by decide +kernel
theorem dX2_ways_50 : decode cX2_ways 50 = .ok (.goto (-45), 3) := by decide +kernel
theorem dX2_ways_53 : decode cX2_ways 53 = .ok (.iload_n 3, 1) := by decide +kernel
theorem dX2_ways_54 : decode cX2_ways 54 = .ok (.ireturn, 1) := by decide +kernel
theorem dX2_alikeAhead_0 : decode cX2_alikeAhead 0 = .ok (.iconst 0, 1) := by decide +kernel
theorem dX2_alikeAhead_1 : decode cX2_alikeAhead 1 = .ok (.istore_n 2, 1) := by decide +kernel
theorem dX2_alikeAhead_2 : decode cX2_alikeAhead 2 = .ok (.iconst 0, 1) := by decide +kernel
theorem dX2_alikeAhead_3 : decode cX2_alikeAhead 3 = .ok (.istore_n 3, 1) := by decide +kernel
theorem dX2_alikeAhead_4 : decode cX2_alikeAhead 4 = .ok (.iload_n 3, 1) := by decide +kernel
theorem dX2_alikeAhead_5 : decode cX2_alikeAhead 5 = .ok (.iload_n 1, 1) := by decide +kernel
theorem dX2_alikeAhead_6 : decode cX2_alikeAhead 6 = .ok (.if_icmp .ge 42, 3) := by decide +kernel
theorem dX2_alikeAhead_9 : decode cX2_alikeAhead 9 = .ok (.aload_n 0, 1) := by decide +kernel
theorem dX2_alikeAhead_10 : decode cX2_alikeAhead 10 = .ok (.getfield 9, 3) := by decide +kernel
theorem dX2_alikeAhead_13 : decode cX2_alikeAhead 13 = .ok (.iload_n 3, 1) := by decide +kernel
theorem dX2_alikeAhead_14 : decode cX2_alikeAhead 14 = .ok (.iaload, 1) := by decide +kernel
theorem dX2_alikeAhead_15 : decode cX2_alikeAhead 15 = .ok (.aload_n 0, 1) := by decide +kernel
theorem dX2_alikeAhead_16 : decode cX2_alikeAhead 16 = .ok (.getfield 9, 3) := by decide +kernel
theorem dX2_alikeAhead_19 : decode cX2_alikeAhead 19 = .ok (.iload_n 1, 1) := by decide +kernel
theorem dX2_alikeAhead_20 : decode cX2_alikeAhead 20 = .ok (.iaload, 1) := by decide +kernel
theorem dX2_alikeAhead_21 : decode cX2_alikeAhead 21 = .ok (.if_icmp .ne 21, 3) := by decide +kernel
theorem dX2_alikeAhead_24 : decode cX2_alikeAhead 24 = .ok (.aload_n 0, 1) := by decide +kernel
theorem dX2_alikeAhead_25 : decode cX2_alikeAhead 25 = .ok (.getfield 15, 3) := by decide +kernel
theorem dX2_alikeAhead_28 : decode cX2_alikeAhead 28 = .ok (.iload_n 3, 1) := by decide +kernel
theorem dX2_alikeAhead_29 : decode cX2_alikeAhead 29 = .ok (.iaload, 1) := by decide +kernel
theorem dX2_alikeAhead_30 : decode cX2_alikeAhead 30 = .ok (.aload_n 0, 1) := by decide +kernel
theorem dX2_alikeAhead_31 : decode cX2_alikeAhead 31 = .ok (.getfield 15, 3) := by decide +kernel
theorem dX2_alikeAhead_34 : decode cX2_alikeAhead 34 = .ok (.iload_n 1, 1) := by decide +kernel
theorem dX2_alikeAhead_35 : decode cX2_alikeAhead 35 = .ok (.iaload, 1) := by decide +kernel
theorem dX2_alikeAhead_36 : decode cX2_alikeAhead 36 = .ok (.if_icmp .ne 6, 3) := by decide +kernel
theorem dX2_alikeAhead_39 : decode cX2_alikeAhead 39 = .ok (.iinc 2 1, 3) := by decide +kernel
theorem dX2_alikeAhead_42 : decode cX2_alikeAhead 42 = .ok (.iinc 3 1, 3) := by decide +kernel
theorem dX2_alikeAhead_45 : decode cX2_alikeAhead 45 = .ok (.goto (-41), 3) := by decide +kernel
theorem dX2_alikeAhead_48 : decode cX2_alikeAhead 48 = .ok (.iload_n 2, 1) := by decide +kernel
theorem dX2_alikeAhead_49 : decode cX2_alikeAhead 49 = .ok (.ireturn, 1) := by decide +kernel
theorem dX3_init_0 : decode cX3_init 0 = .ok (.aload_n 0, 1) := by decide +kernel
theorem dX3_init_1 : decode cX3_init 1 = .ok (.invokespecial 3, 3) := by decide +kernel
theorem dX3_init_4 : decode cX3_init 4 = .ok (.aload_n 0, 1) := by decide +kernel
theorem dX3_init_5 : decode cX3_init 5 = .ok (.bipush 8, 2) := by decide +kernel
theorem dX3_init_7 : decode cX3_init 7 = .ok (.newarray .int, 2) := by decide +kernel
theorem dX3_init_9 : decode cX3_init 9 = .ok (.putfield 9, 3) := by decide +kernel
theorem dX3_init_12 : decode cX3_init 12 = .ok (.aload_n 0, 1) := by decide +kernel
theorem dX3_init_13 : decode cX3_init 13 = .ok (.bipush 8, 2) := by decide +kernel
theorem dX3_init_15 : decode cX3_init 15 = .ok (.newarray .int, 2) := by decide +kernel
theorem dX3_init_17 : decode cX3_init 17 = .ok (.putfield 15, 3) := by decide +kernel
theorem dX3_init_20 : decode cX3_init 20 = .ok (.aload_n 0, 1) := by decide +kernel
theorem dX3_init_21 : decode cX3_init 21 = .ok (.bipush 8, 2) := by decide +kernel
theorem dX3_init_23 : decode cX3_init 23 = .ok (.newarray .int, 2) := by decide +kernel
theorem dX3_init_25 : decode cX3_init 25 = .ok (.putfield 18, 3) := by decide +kernel
theorem dX3_init_28 : decode cX3_init 28 = .ok (.aload_n 0, 1) := by decide +kernel
theorem dX3_init_29 : decode cX3_init 29 = .ok (.bipush 8, 2) := by decide +kernel
theorem dX3_init_31 : decode cX3_init 31 = .ok (.newarray .int, 2) := by decide +kernel
theorem dX3_init_33 : decode cX3_init 33 = .ok (.putfield 21, 3) := by decide +kernel
theorem dX3_init_36 : decode cX3_init 36 = .ok (.return_, 1) := by decide +kernel
theorem dX3_begin_0 : decode cX3_begin 0 = .ok (.aload_n 0, 1) := by decide +kernel
theorem dX3_begin_1 : decode cX3_begin 1 = .ok (.iconst 0, 1) := by decide +kernel
theorem dX3_begin_2 : decode cX3_begin 2 = .ok (.putfield 24, 3) := by decide +kernel
theorem dX3_begin_5 : decode cX3_begin 5 = .ok (.aload_n 0, 1) := by decide +kernel
theorem dX3_begin_6 : decode cX3_begin 6 = .ok (.aload_n 1, 1) := by decide +kernel
theorem dX3_begin_7 : decode cX3_begin 7 = .ok (.getfield 28, 3) := by decide +kernel
theorem dX3_begin_10 : decode cX3_begin 10 = .ok (.putfield 33, 3) := by decide +kernel
theorem dX3_begin_13 : decode cX3_begin 13 = .ok (.aload_n 0, 1) := by decide +kernel
theorem dX3_begin_14 : decode cX3_begin 14 = .ok (.aload_n 1, 1) := by decide +kernel
theorem dX3_begin_15 : decode cX3_begin 15 = .ok (.getfield 36, 3) := by decide +kernel
theorem dX3_begin_18 : decode cX3_begin 18 = .ok (.putfield 39, 3) := by decide +kernel
theorem dX3_begin_21 : decode cX3_begin 21 = .ok (.aload_n 0, 1) := by decide +kernel
theorem dX3_begin_22 : decode cX3_begin 22 = .ok (.iconst 0, 1) := by decide +kernel
theorem dX3_begin_23 : decode cX3_begin 23 = .ok (.putfield 42, 3) := by decide +kernel
theorem dX3_begin_26 : decode cX3_begin 26 = .ok (.iconst 0, 1) := by decide +kernel
theorem dX3_begin_27 : decode cX3_begin 27 = .ok (.istore_n 2, 1) := by decide +kernel
theorem dX3_begin_28 : decode cX3_begin 28 = .ok (.iload_n 2, 1) := by decide +kernel
theorem dX3_begin_29 : decode cX3_begin 29 = .ok (.bipush 8, 2) := by decide +kernel
theorem dX3_begin_31 : decode cX3_begin 31 = .ok (.if_icmp .ge 54, 3) := by decide +kernel
theorem dX3_begin_34 : decode cX3_begin 34 = .ok (.aload_n 0, 1) := by decide +kernel
theorem dX3_begin_35 : decode cX3_begin 35 = .ok (.getfield 9, 3) := by decide +kernel
theorem dX3_begin_38 : decode cX3_begin 38 = .ok (.iload_n 2, 1) := by decide +kernel
theorem dX3_begin_39 : decode cX3_begin 39 = .ok (.iload_n 2, 1) := by decide +kernel
theorem dX3_begin_40 : decode cX3_begin 40 = .ok (.aload_n 1, 1) := by decide +kernel
theorem dX3_begin_41 : decode cX3_begin 41 = .ok (.getfield 45, 3) := by decide +kernel
theorem dX3_begin_44 : decode cX3_begin 44 = .ok (.if_icmp .ge 12, 3) := by decide +kernel
theorem dX3_begin_47 : decode cX3_begin 47 = .ok (.aload_n 1, 1) := by decide +kernel
theorem dX3_begin_48 : decode cX3_begin 48 = .ok (.getfield 48, 3) := by decide +kernel
theorem dX3_begin_51 : decode cX3_begin 51 = .ok (.iload_n 2, 1) := by decide +kernel
theorem dX3_begin_52 : decode cX3_begin 52 = .ok (.iaload, 1) := by decide +kernel
theorem dX3_begin_53 : decode cX3_begin 53 = .ok (.goto 4, 3) := by decide +kernel
theorem dX3_begin_56 : decode cX3_begin 56 = .ok (.iconst 0, 1) := by decide +kernel
theorem dX3_begin_57 : decode cX3_begin 57 = .ok (.iastore, 1) := by decide +kernel
theorem dX3_begin_58 : decode cX3_begin 58 = .ok (.aload_n 0, 1) := by decide +kernel
theorem dX3_begin_59 : decode cX3_begin 59 = .ok (.getfield 15, 3) := by decide +kernel
theorem dX3_begin_62 : decode cX3_begin 62 = .ok (.iload_n 2, 1) := by decide +kernel
theorem dX3_begin_63 : decode cX3_begin 63 = .ok (.iconst (-1), 1) := by decide +kernel
theorem dX3_begin_64 : decode cX3_begin 64 = .ok (.iastore, 1) := by decide +kernel
theorem dX3_begin_65 : decode cX3_begin 65 = .ok (.aload_n 0, 1) := by decide +kernel
theorem dX3_begin_66 : decode cX3_begin 66 = .ok (.getfield 18, 3) := by decide +kernel
theorem dX3_begin_69 : decode cX3_begin 69 = .ok (.iload_n 2, 1) := by decide +kernel
theorem dX3_begin_70 : decode cX3_begin 70 = .ok (.iconst (-1), 1) := by decide +kernel
theorem dX3_begin_71 : decode cX3_begin 71 = .ok (.iastore, 1) := by decide +kernel
theorem dX3_begin_72 : decode cX3_begin 72 = .ok (.aload_n 0, 1) := by decide +kernel
theorem dX3_begin_73 : decode cX3_begin 73 = .ok (.getfield 21, 3) := by decide +kernel
theorem dX3_begin_76 : decode cX3_begin 76 = .ok (.iload_n 2, 1) := by decide +kernel
theorem dX3_begin_77 : decode cX3_begin 77 = .ok (.iconst 0, 1) := by decide +kernel
theorem dX3_begin_78 : decode cX3_begin 78 = .ok (.iastore, 1) := by decide +kernel
theorem dX3_begin_79 : decode cX3_begin 79 = .ok (.iinc 2 1, 3) := by decide +kernel
theorem dX3_begin_82 : decode cX3_begin 82 = .ok (.goto (-54), 3) := by decide +kernel
theorem dX3_begin_85 : decode cX3_begin 85 = .ok (.return_, 1) := by decide +kernel
theorem dX3_become_0 : decode cX3_become 0 = .ok (.aload_n 0, 1) := by decide +kernel
theorem dX3_become_1 : decode cX3_become 1 = .ok (.aload_n 1, 1) := by decide +kernel
theorem dX3_become_2 : decode cX3_become 2 = .ok (.getfield 24, 3) := by decide +kernel
theorem dX3_become_5 : decode cX3_become 5 = .ok (.putfield 24, 3) := by decide +kernel
theorem dX3_become_8 : decode cX3_become 8 = .ok (.aload_n 0, 1) := by decide +kernel
theorem dX3_become_9 : decode cX3_become 9 = .ok (.aload_n 1, 1) := by decide +kernel
theorem dX3_become_10 : decode cX3_become 10 = .ok (.getfield 33, 3) := by decide +kernel
theorem dX3_become_13 : decode cX3_become 13 = .ok (.putfield 33, 3) := by decide +kernel
theorem dX3_become_16 : decode cX3_become 16 = .ok (.aload_n 0, 1) := by decide +kernel
theorem dX3_become_17 : decode cX3_become 17 = .ok (.aload_n 1, 1) := by decide +kernel
theorem dX3_become_18 : decode cX3_become 18 = .ok (.getfield 39, 3) := by decide +kernel
theorem dX3_become_21 : decode cX3_become 21 = .ok (.putfield 39, 3) := by decide +kernel
theorem dX3_become_24 : decode cX3_become 24 = .ok (.aload_n 0, 1) := by decide +kernel
theorem dX3_become_25 : decode cX3_become 25 = .ok (.aload_n 1, 1) := by decide +kernel
theorem dX3_become_26 : decode cX3_become 26 = .ok (.getfield 42, 3) := by decide +kernel
theorem dX3_become_29 : decode cX3_become 29 = .ok (.putfield 42, 3) := by decide +kernel
theorem dX3_become_32 : decode cX3_become 32 = .ok (.iconst 0, 1) := by decide +kernel
theorem dX3_become_33 : decode cX3_become 33 = .ok (.istore_n 2, 1) := by decide +kernel
theorem dX3_become_34 : decode cX3_become 34 = .ok (.iload_n 2, 1) := by decide +kernel
theorem dX3_become_35 : decode cX3_become 35 = .ok (.bipush 8, 2) := by decide +kernel
theorem dX3_become_37 : decode cX3_become 37 = .ok (.if_icmp .ge 27, 3) := by decide +kernel
theorem dX3_become_40 : decode cX3_become 40 = .ok (.aload_n 0, 1) := by decide +kernel
theorem dX3_become_41 : decode cX3_become 41 = .ok (.getfield 9, 3) := by decide +kernel
theorem dX3_become_44 : decode cX3_become 44 = .ok (.iload_n 2, 1) := by decide +kernel
theorem dX3_become_45 : decode cX3_become 45 = .ok (.aload_n 1, 1) := by decide +kernel
theorem dX3_become_46 : decode cX3_become 46 = .ok (.getfield 9, 3) := by decide +kernel
theorem dX3_become_49 : decode cX3_become 49 = .ok (.iload_n 2, 1) := by decide +kernel
theorem dX3_become_50 : decode cX3_become 50 = .ok (.iaload, 1) := by decide +kernel
theorem dX3_become_51 : decode cX3_become 51 = .ok (.iastore, 1) := by decide +kernel
theorem dX3_become_52 : decode cX3_become 52 = .ok (.aload_n 0, 1) := by decide +kernel
theorem dX3_become_53 : decode cX3_become 53 = .ok (.iload_n 2, 1) := by decide +kernel
theorem dX3_become_54 : decode cX3_become 54 = .ok (.aload_n 1, 1) := by decide +kernel
theorem dX3_become_55 : decode cX3_become 55 = .ok (.invokevirtual 51, 3) := by decide +kernel
theorem dX3_become_58 : decode cX3_become 58 = .ok (.iinc 2 1, 3) := by decide +kernel
theorem dX3_become_61 : decode cX3_become 61 = .ok (.goto (-27), 3) := by decide +kernel
theorem dX3_become_64 : decode cX3_become 64 = .ok (.return_, 1) := by decide +kernel
theorem dX3_signedAs_0 : decode cX3_signedAs 0 = .ok (.aload_n 0, 1) := by decide +kernel
theorem dX3_signedAs_1 : decode cX3_signedAs 1 = .ok (.getfield 15, 3) := by decide +kernel
theorem dX3_signedAs_4 : decode cX3_signedAs 4 = .ok (.iload_n 1, 1) := by decide +kernel
theorem dX3_signedAs_5 : decode cX3_signedAs 5 = .ok (.aload_n 2, 1) := by decide +kernel
theorem dX3_signedAs_6 : decode cX3_signedAs 6 = .ok (.getfield 15, 3) := by decide +kernel
theorem dX3_signedAs_9 : decode cX3_signedAs 9 = .ok (.iload_n 1, 1) := by decide +kernel
theorem dX3_signedAs_10 : decode cX3_signedAs 10 = .ok (.iaload, 1) := by decide +kernel
theorem dX3_signedAs_11 : decode cX3_signedAs 11 = .ok (.iastore, 1) := by decide +kernel
theorem dX3_signedAs_12 : decode cX3_signedAs 12 = .ok (.aload_n 0, 1) := by decide +kernel
theorem dX3_signedAs_13 : decode cX3_signedAs 13 = .ok (.getfield 18, 3) := by decide +kernel
theorem dX3_signedAs_16 : decode cX3_signedAs 16 = .ok (.iload_n 1, 1) := by decide +kernel
theorem dX3_signedAs_17 : decode cX3_signedAs 17 = .ok (.aload_n 2, 1) := by decide +kernel
theorem dX3_signedAs_18 : decode cX3_signedAs 18 = .ok (.getfield 18, 3) := by decide +kernel
theorem dX3_signedAs_21 : decode cX3_signedAs 21 = .ok (.iload_n 1, 1) := by decide +kernel
theorem dX3_signedAs_22 : decode cX3_signedAs 22 = .ok (.iaload, 1) := by decide +kernel
theorem dX3_signedAs_23 : decode cX3_signedAs 23 = .ok (.iastore, 1) := by decide +kernel
theorem dX3_signedAs_24 : decode cX3_signedAs 24 = .ok (.aload_n 0, 1) := by decide +kernel
theorem dX3_signedAs_25 : decode cX3_signedAs 25 = .ok (.getfield 21, 3) := by decide +kernel
theorem dX3_signedAs_28 : decode cX3_signedAs 28 = .ok (.iload_n 1, 1) := by decide +kernel
theorem dX3_signedAs_29 : decode cX3_signedAs 29 = .ok (.aload_n 2, 1) := by decide +kernel
theorem dX3_signedAs_30 : decode cX3_signedAs 30 = .ok (.getfield 21, 3) := by decide +kernel
theorem dX3_signedAs_33 : decode cX3_signedAs 33 = .ok (.iload_n 1, 1) := by decide +kernel
theorem dX3_signedAs_34 : decode cX3_signedAs 34 = .ok (.iaload, 1) := by decide +kernel
theorem dX3_signedAs_35 : decode cX3_signedAs 35 = .ok (.iastore, 1) := by decide +kernel
theorem dX3_signedAs_36 : decode cX3_signedAs 36 = .ok (.return_, 1) := by decide +kernel
theorem dX3_cellOver_0 : decode cX3_cellOver 0 = .ok (.iconst 0, 1) := by decide +kernel
theorem dX3_cellOver_1 : decode cX3_cellOver 1 = .ok (.aload_n 1, 1) := by decide +kernel
theorem dX3_cellOver_2 : decode cX3_cellOver 2 = .ok (.getfield 55, 3) := by decide +kernel
theorem dX3_cellOver_5 : decode cX3_cellOver 5 = .ok (.iconst 1, 1) := by decide +kernel
theorem dX3_cellOver_6 : decode cX3_cellOver 6 = .ok (.isub, 1) := by decide +kernel
theorem dX3_cellOver_7 : decode cX3_cellOver 7 = .ok (.aload_n 1, 1) := by decide +kernel
theorem dX3_cellOver_8 : decode cX3_cellOver 8 = .ok (.getfield 58, 3) := by decide +kernel
theorem dX3_cellOver_11 : decode cX3_cellOver 11 = .ok (.iload_n 2, 1) := by decide +kernel
theorem dX3_cellOver_12 : decode cX3_cellOver 12 = .ok (.iaload, 1) := by decide +kernel
theorem dX3_cellOver_13 : decode cX3_cellOver 13 = .ok (.aload_n 0, 1) := by decide +kernel
theorem dX3_cellOver_14 : decode cX3_cellOver 14 = .ok (.getfield 39, 3) := by decide +kernel
theorem dX3_cellOver_17 : decode cX3_cellOver 17 = .ok (.iadd, 1) := by decide +kernel
theorem dX3_cellOver_18 : decode cX3_cellOver 18 = .ok (.invokestatic 61, 3) := by decide +kernel
theorem dX3_cellOver_21 : decode cX3_cellOver 21 = .ok (.invokestatic 67, 3) := by decide +kernel
theorem dX3_cellOver_24 : decode cX3_cellOver 24 = .ok (.ireturn, 1) := by decide +kernel
theorem dX3_housesOver_0 : decode cX3_housesOver 0 = .ok (.iconst 0, 1) := by decide +kernel
theorem dX3_housesOver_1 : decode cX3_housesOver 1 = .ok (.istore_n 3, 1) := by decide +kernel
theorem dX3_housesOver_2 : decode cX3_housesOver 2 = .ok (.iconst 0, 1) := by decide +kernel
theorem dX3_housesOver_3 : decode cX3_housesOver 3 = .ok (.istore 4, 2) := by decide +kernel
theorem dX3_housesOver_5 : decode cX3_housesOver 5 = .ok (.iload 4, 2) := by decide +kernel
theorem dX3_housesOver_7 : decode cX3_housesOver 7 = .ok (.aload_n 1, 1) := by decide +kernel
theorem dX3_housesOver_8 : decode cX3_housesOver 8 = .ok (.getfield 45, 3) := by decide +kernel
theorem dX3_housesOver_11 : decode cX3_housesOver 11 = .ok (.if_icmp .ge 27, 3) := by decide +kernel
theorem dX3_housesOver_14 : decode cX3_housesOver 14 = .ok (.aload_n 0, 1) := by decide +kernel
theorem dX3_housesOver_15 : decode cX3_housesOver 15 = .ok (.aload_n 1, 1) := by decide +kernel
theorem dX3_housesOver_16 : decode cX3_housesOver 16 = .ok (.iload 4, 2) := by decide +kernel
theorem dX3_housesOver_18 : decode cX3_housesOver 18 = .ok (.invokevirtual 70, 3) := by decide +kernel
theorem dX3_housesOver_21 : decode cX3_housesOver 21 = .ok (.iload_n 2, 1) := by decide +kernel
theorem dX3_housesOver_22 : decode cX3_housesOver 22 = .ok (.if_icmp .ne 10, 3) := by decide +kernel
theorem dX3_housesOver_25 : decode cX3_housesOver 25 = .ok (.iload_n 3, 1) := by decide +kernel
theorem dX3_housesOver_26 : decode cX3_housesOver 26 = .ok (.iconst 1, 1) := by decide +kernel
theorem dX3_housesOver_27 : decode cX3_housesOver 27 = .ok (.iload 4, 2) := by decide +kernel
theorem dX3_housesOver_29 : decode cX3_housesOver 29 = .ok (.ishl, 1) := by decide +kernel
theorem dX3_housesOver_30 : decode cX3_housesOver 30 = .ok (.ior, 1) := by decide +kernel
theorem dX3_housesOver_31 : decode cX3_housesOver 31 = .ok (.istore_n 3, 1) := by decide +kernel
theorem dX3_housesOver_32 : decode cX3_housesOver 32 = .ok (.iinc 4 1, 3) := by decide +kernel
theorem dX3_housesOver_35 : decode cX3_housesOver 35 = .ok (.goto (-30), 3) := by decide +kernel
theorem dX3_housesOver_38 : decode cX3_housesOver 38 = .ok (.iload_n 3, 1) := by decide +kernel
theorem dX3_housesOver_39 : decode cX3_housesOver 39 = .ok (.ireturn, 1) := by decide +kernel
theorem dX3_reach_0 : decode cX3_reach 0 = .ok (.aload_n 1, 1) := by decide +kernel
theorem dX3_reach_1 : decode cX3_reach 1 = .ok (.getfield 74, 3) := by decide +kernel
theorem dX3_reach_4 : decode cX3_reach 4 = .ok (.iload_n 2, 1) := by decide +kernel
theorem dX3_reach_5 : decode cX3_reach 5 = .ok (.iaload, 1) := by decide +kernel
theorem dX3_reach_6 : decode cX3_reach 6 = .ok (.iconst 3, 1) := by decide +kernel
theorem dX3_reach_7 : decode cX3_reach 7 = .ok (.iadd, 1) := by decide +kernel
theorem dX3_reach_8 : decode cX3_reach 8 = .ok (.aload_n 0, 1) := by decide +kernel
theorem dX3_reach_9 : decode cX3_reach 9 = .ok (.getfield 33, 3) := by decide +kernel
theorem dX3_reach_12 : decode cX3_reach 12 = .ok (.iconst 2, 1) := by decide +kernel
theorem dX3_reach_13 : decode cX3_reach 13 = .ok (.idiv, 1) := by decide +kernel
theorem dX3_reach_14 : decode cX3_reach 14 = .ok (.isub, 1) := by decide +kernel
theorem dX3_reach_15 : decode cX3_reach 15 = .ok (.ireturn, 1) := by decide +kernel
theorem dX3_inReach_0 : decode cX3_inReach 0 = .ok (.aload_n 0, 1) := by decide +kernel
theorem dX3_inReach_1 : decode cX3_inReach 1 = .ok (.aload_n 1, 1) := by decide +kernel
theorem dX3_inReach_2 : decode cX3_inReach 2 = .ok (.iload_n 2, 1) := by decide +kernel
theorem dX3_inReach_3 : decode cX3_inReach 3 = .ok (.invokevirtual 70, 3) := by decide +kernel
theorem dX3_inReach_6 : decode cX3_inReach 6 = .ok (.istore_n 3, 1) := by decide +kernel
theorem dX3_inReach_7 : decode cX3_inReach 7 = .ok (.aload_n 0, 1) := by decide +kernel
theorem dX3_inReach_8 : decode cX3_inReach 8 = .ok (.aload_n 1, 1) := by decide +kernel
theorem dX3_inReach_9 : decode cX3_inReach 9 = .ok (.iload_n 2, 1) := by decide +kernel
theorem dX3_inReach_10 : decode cX3_inReach 10 = .ok (.invokevirtual 77, 3) := by decide +kernel
theorem dX3_inReach_13 : decode cX3_inReach 13 = .ok (.istore 4, 2) := by decide +kernel
theorem dX3_inReach_15 : decode cX3_inReach 15 = .ok (.iconst 0, 1) := by decide +kernel
theorem dX3_inReach_16 : decode cX3_inReach 16 = .ok (.istore 5, 2) := by decide +kernel
theorem dX3_inReach_18 : decode cX3_inReach 18 = .ok (.iconst 0, 1) := by decide +kernel
theorem dX3_inReach_19 : decode cX3_inReach 19 = .ok (.istore 6, 2) := by decide +kernel
theorem dX3_inReach_21 : decode cX3_inReach 21 = .ok (.iload 6, 2) := by decide +kernel
theorem dX3_inReach_23 : decode cX3_inReach 23 = .ok (.aload_n 1, 1) := by decide +kernel
theorem dX3_inReach_24 : decode cX3_inReach 24 = .ok (.getfield 45, 3) := by decide +kernel
theorem dX3_inReach_27 : decode cX3_inReach 27 = .ok (.if_icmp .ge 41, 3) := by decide +kernel
theorem dX3_inReach_30 : decode cX3_inReach 30 = .ok (.iload 6, 2) := by decide +kernel
theorem dX3_inReach_32 : decode cX3_inReach 32 = .ok (.iload_n 2, 1) := by decide +kernel
theorem dX3_inReach_33 : decode cX3_inReach 33 = .ok (.if_icmp .eq 29, 3) := by decide +kernel
theorem dX3_inReach_36 : decode cX3_inReach 36 = .ok (.aload_n 1, 1) := by decide +kernel
theorem dX3_inReach_37 : decode cX3_inReach 37 = .ok (.getfield 58, 3) := by decide +kernel
theorem dX3_inReach_40 : decode cX3_inReach 40 = .ok (.iload 6, 2) := by decide +kernel
theorem dX3_inReach_42 : decode cX3_inReach 42 = .ok (.iaload, 1) := by decide +kernel
theorem dX3_inReach_43 : decode cX3_inReach 43 = .ok (.iload_n 3, 1) := by decide +kernel
theorem dX3_inReach_44 : decode cX3_inReach 44 = .ok (.isub, 1) := by decide +kernel
theorem dX3_inReach_45 : decode cX3_inReach 45 = .ok (.invokestatic 80, 3) := by decide +kernel
theorem dX3_inReach_48 : decode cX3_inReach 48 = .ok (.iload 4, 2) := by decide +kernel
theorem dX3_inReach_50 : decode cX3_inReach 50 = .ok (.if_icmp .gt 12, 3) := by decide +kernel
theorem dX3_inReach_53 : decode cX3_inReach 53 = .ok (.iload 5, 2) := by decide +kernel
theorem dX3_inReach_55 : decode cX3_inReach 55 = .ok (.iconst 1, 1) := by decide +kernel
theorem dX3_inReach_56 : decode cX3_inReach 56 = .ok (.iload 6, 2) := by decide +kernel
theorem dX3_inReach_58 : decode cX3_inReach 58 = .ok (.ishl, 1) := by decide +kernel
theorem dX3_inReach_59 : decode cX3_inReach 59 = .ok (.ior, 1) := by decide +kernel
theorem dX3_inReach_60 : decode cX3_inReach 60 = .ok (.istore 5, 2) := by decide +kernel
theorem dX3_inReach_62 : decode cX3_inReach 62 = .ok (.iinc 6 1, 3) := by decide +kernel
theorem dX3_inReach_65 : decode cX3_inReach 65 = .ok (.goto (-44), 3) := by decide +kernel
theorem dX3_inReach_68 : decode cX3_inReach 68 = .ok (.iload 5, 2) := by decide +kernel
theorem dX3_inReach_70 : decode cX3_inReach 70 = .ok (.ireturn, 1) := by decide +kernel
theorem dX3_hidden_0 : decode cX3_hidden 0 = .ok (.aload_n 0, 1) := by decide +kernel
theorem dX3_hidden_1 : decode cX3_hidden 1 = .ok (.aload_n 1, 1) := by decide +kernel
theorem dX3_hidden_2 : decode cX3_hidden 2 = .ok (.iload_n 2, 1) := by decide +kernel
theorem dX3_hidden_3 : decode cX3_hidden 3 = .ok (.invokevirtual 70, 3) := by decide +kernel
theorem dX3_hidden_6 : decode cX3_hidden 6 = .ok (.istore_n 3, 1) := by decide +kernel
theorem dX3_hidden_7 : decode cX3_hidden 7 = .ok (.iconst 0, 1) := by decide +kernel
theorem dX3_hidden_8 : decode cX3_hidden 8 = .ok (.istore 4, 2) := by decide +kernel
theorem dX3_hidden_10 : decode cX3_hidden 10 = .ok (.iload 4, 2) := by decide +kernel
theorem dX3_hidden_12 : decode cX3_hidden 12 = .ok (.aload_n 1, 1) := by decide +kernel
theorem dX3_hidden_13 : decode cX3_hidden 13 = .ok (.getfield 45, 3) := by decide +kernel
theorem dX3_hidden_16 : decode cX3_hidden 16 = .ok (.if_icmp .ge 70, 3) := by decide +kernel
theorem dX3_hidden_19 : decode cX3_hidden 19 = .ok (.iload 4, 2) := by decide +kernel
theorem dX3_hidden_21 : decode cX3_hidden 21 = .ok (.iload_n 2, 1) := by decide +kernel
theorem dX3_hidden_22 : decode cX3_hidden 22 = .ok (.if_icmp .eq 29, 3) := by decide +kernel
theorem dX3_hidden_25 : decode cX3_hidden 25 = .ok (.aload_n 0, 1) := by decide +kernel
theorem dX3_hidden_26 : decode cX3_hidden 26 = .ok (.getfield 15, 3) := by decide +kernel
theorem dX3_hidden_29 : decode cX3_hidden 29 = .ok (.iload 4, 2) := by decide +kernel
theorem dX3_hidden_31 : decode cX3_hidden 31 = .ok (.iaload, 1) := by decide +kernel
theorem dX3_hidden_32 : decode cX3_hidden 32 = .ok (.iconst (-1), 1) := by decide +kernel
theorem dX3_hidden_33 : decode cX3_hidden 33 = .ok (.if_icmp .eq 18, 3) := by decide +kernel
theorem dX3_hidden_36 : decode cX3_hidden 36 = .ok (.aload_n 0, 1) := by decide +kernel
theorem dX3_hidden_37 : decode cX3_hidden 37 = .ok (.getfield 18, 3) := by decide +kernel
theorem dX3_hidden_40 : decode cX3_hidden 40 = .ok (.iload 4, 2) := by decide +kernel
theorem dX3_hidden_42 : decode cX3_hidden 42 = .ok (.iaload, 1) := by decide +kernel
theorem dX3_hidden_43 : decode cX3_hidden 43 = .ok (.iload_n 3, 1) := by decide +kernel
theorem dX3_hidden_44 : decode cX3_hidden 44 = .ok (.if_icmp .ne 7, 3) := by decide +kernel
theorem dX3_hidden_47 : decode cX3_hidden 47 = .ok (.iconst 1, 1) := by decide +kernel
theorem dX3_hidden_48 : decode cX3_hidden 48 = .ok (.goto 4, 3) := by decide +kernel
theorem dX3_hidden_51 : decode cX3_hidden 51 = .ok (.iconst 0, 1) := by decide +kernel
theorem dX3_hidden_52 : decode cX3_hidden 52 = .ok (.istore 5, 2) := by decide +kernel
theorem dX3_hidden_54 : decode cX3_hidden 54 = .ok (.iload 5, 2) := by decide +kernel
theorem dX3_hidden_56 : decode cX3_hidden 56 = .ok (.ifCond .eq 24, 3) := by decide +kernel
theorem dX3_hidden_59 : decode cX3_hidden 59 = .ok (.aload_n 0, 1) := by decide +kernel
theorem dX3_hidden_60 : decode cX3_hidden 60 = .ok (.getfield 24, 3) := by decide +kernel
theorem dX3_hidden_63 : decode cX3_hidden 63 = .ok (.aload_n 0, 1) := by decide +kernel
theorem dX3_hidden_64 : decode cX3_hidden 64 = .ok (.getfield 15, 3) := by decide +kernel
theorem dX3_hidden_67 : decode cX3_hidden 67 = .ok (.iload 4, 2) := by decide +kernel
theorem dX3_hidden_69 : decode cX3_hidden 69 = .ok (.iaload, 1) := by decide +kernel
theorem dX3_hidden_70 : decode cX3_hidden 70 = .ok (.isub, 1) := by decide +kernel
theorem dX3_hidden_71 : decode cX3_hidden 71 = .ok (.aload_n 1, 1) := by decide +kernel
theorem dX3_hidden_72 : decode cX3_hidden 72 = .ok (.getfield 84, 3) := by decide +kernel
theorem dX3_hidden_75 : decode cX3_hidden 75 = .ok (.if_icmp .gt 5, 3) := by decide +kernel
theorem dX3_hidden_78 : decode cX3_hidden 78 = .ok (.iconst 1, 1) := by decide +kernel
theorem dX3_hidden_79 : decode cX3_hidden 79 = .ok (.ireturn, 1) := by decide +kernel
theorem dX3_hidden_80 : decode cX3_hidden 80 = .ok (.iinc 4 1, 3) := by decide +kernel
theorem dX3_hidden_83 : decode cX3_hidden 83 = .ok (.goto (-73), 3) := by decide +kernel
theorem dX3_hidden_86 : decode cX3_hidden 86 = .ok (.iconst 0, 1) := by decide +kernel
theorem dX3_hidden_87 : decode cX3_hidden 87 = .ok (.ireturn, 1) := by decide +kernel
theorem dX3_viewers_0 : decode cX3_viewers 0 = .ok (.aload_n 0, 1) := by decide +kernel
theorem dX3_viewers_1 : decode cX3_viewers 1 = .ok (.aload_n 1, 1) := by decide +kernel
theorem dX3_viewers_2 : decode cX3_viewers 2 = .ok (.iload_n 2, 1) := by decide +kernel
theorem dX3_viewers_3 : decode cX3_viewers 3 = .ok (.invokevirtual 87, 3) := by decide +kernel
theorem dX3_viewers_6 : decode cX3_viewers 6 = .ok (.ifCond .eq 7, 3) := by decide +kernel
theorem dX3_viewers_9 : decode cX3_viewers 9 = .ok (.iconst 0, 1) := by decide +kernel
theorem dX3_viewers_10 : decode cX3_viewers 10 = .ok (.goto 9, 3) := by decide +kernel
theorem dX3_viewers_13 : decode cX3_viewers 13 = .ok (.aload_n 0, 1) := by decide +kernel
theorem dX3_viewers_14 : decode cX3_viewers 14 = .ok (.aload_n 1, 1) := by decide +kernel
theorem dX3_viewers_15 : decode cX3_viewers 15 = .ok (.iload_n 2, 1) := by decide +kernel
theorem dX3_viewers_16 : decode cX3_viewers 16 = .ok (.invokevirtual 91, 3) := by decide +kernel
theorem dX3_viewers_19 : decode cX3_viewers 19 = .ok (.ireturn, 1) := by decide +kernel
theorem dX3_sign_0 : decode cX3_sign 0 = .ok (.aload_n 0, 1) := by decide +kernel
theorem dX3_sign_1 : decode cX3_sign 1 = .ok (.getfield 21, 3) := by decide +kernel
theorem dX3_sign_4 : decode cX3_sign 4 = .ok (.iload_n 2, 1) := by decide +kernel
theorem dX3_sign_5 : decode cX3_sign 5 = .ok (.aload_n 0, 1) := by decide +kernel
theorem dX3_sign_6 : decode cX3_sign 6 = .ok (.aload_n 1, 1) := by decide +kernel
theorem dX3_sign_7 : decode cX3_sign 7 = .ok (.iload_n 2, 1) := by decide +kernel
theorem dX3_sign_8 : decode cX3_sign 8 = .ok (.invokevirtual 94, 3) := by decide +kernel
theorem dX3_sign_11 : decode cX3_sign 11 = .ok (.iastore, 1) := by decide +kernel
theorem dX3_sign_12 : decode cX3_sign 12 = .ok (.aload_n 0, 1) := by decide +kernel
theorem dX3_sign_13 : decode cX3_sign 13 = .ok (.getfield 15, 3) := by decide +kernel
theorem dX3_sign_16 : decode cX3_sign 16 = .ok (.iload_n 2, 1) := by decide +kernel
theorem dX3_sign_17 : decode cX3_sign 17 = .ok (.aload_n 0, 1) := by decide +kernel
theorem dX3_sign_18 : decode cX3_sign 18 = .ok (.getfield 24, 3) := by decide +kernel
theorem dX3_sign_21 : decode cX3_sign 21 = .ok (.iastore, 1) := by decide +kernel
theorem dX3_sign_22 : decode cX3_sign 22 = .ok (.aload_n 0, 1) := by decide +kernel
theorem dX3_sign_23 : decode cX3_sign 23 = .ok (.getfield 18, 3) := by decide +kernel
theorem dX3_sign_26 : decode cX3_sign 26 = .ok (.iload_n 2, 1) := by decide +kernel
theorem dX3_sign_27 : decode cX3_sign 27 = .ok (.aload_n 0, 1) := by decide +kernel
theorem dX3_sign_28 : decode cX3_sign 28 = .ok (.aload_n 1, 1) := by decide +kernel
theorem dX3_sign_29 : decode cX3_sign 29 = .ok (.iload_n 2, 1) := by decide +kernel
theorem dX3_sign_30 : decode cX3_sign 30 = .ok (.invokevirtual 70, 3) := by decide +kernel
theorem dX3_sign_33 : decode cX3_sign 33 = .ok (.iastore, 1) := by decide +kernel
theorem dX3_sign_34 : decode cX3_sign 34 = .ok (.return_, 1) := by decide +kernel
theorem dX3_agree_0 : decode cX3_agree 0 = .ok (.aload_n 0, 1) := by decide +kernel
theorem dX3_agree_1 : decode cX3_agree 1 = .ok (.getfield 42, 3) := by decide +kernel
theorem dX3_agree_4 : decode cX3_agree 4 = .ok (.invokestatic 97, 3) := by decide +kernel
theorem dX3_agree_7 : decode cX3_agree 7 = .ok (.istore_n 3, 1) := by decide +kernel
theorem dX3_agree_8 : decode cX3_agree 8 = .ok (.iconst 0, 1) := by decide +kernel
theorem dX3_agree_9 : decode cX3_agree 9 = .ok (.istore 4, 2) := by decide +kernel
theorem dX3_agree_11 : decode cX3_agree 11 = .ok (.iload 4, 2) := by decide +kernel
theorem dX3_agree_13 : decode cX3_agree 13 = .ok (.aload_n 1, 1) := by decide +kernel
theorem dX3_agree_14 : decode cX3_agree 14 = .ok (.getfield 45, 3) := by decide +kernel
theorem dX3_agree_17 : decode cX3_agree 17 = .ok (.if_icmp .ge 50, 3) := by decide +kernel
theorem dX3_agree_20 : decode cX3_agree 20 = .ok (.iload 4, 2) := by decide +kernel
theorem dX3_agree_22 : decode cX3_agree 22 = .ok (.iload_n 2, 1) := by decide +kernel
theorem dX3_agree_23 : decode cX3_agree 23 = .ok (.if_icmp .eq 38, 3) := by decide +kernel
theorem dX3_agree_26 : decode cX3_agree 26 = .ok (.aload_n 0, 1) := by decide +kernel
theorem dX3_agree_27 : decode cX3_agree 27 = .ok (.getfield 15, 3) := by decide +kernel
theorem dX3_agree_30 : decode cX3_agree 30 = .ok (.iload 4, 2) := by decide +kernel
theorem dX3_agree_32 : decode cX3_agree 32 = .ok (.iaload, 1) := by decide +kernel
theorem dX3_agree_33 : decode cX3_agree 33 = .ok (.iconst (-1), 1) := by decide +kernel
theorem dX3_agree_34 : decode cX3_agree 34 = .ok (.if_icmp .eq 27, 3) := by decide +kernel
theorem dX3_agree_37 : decode cX3_agree 37 = .ok (.aload_n 0, 1) := by decide +kernel
theorem dX3_agree_38 : decode cX3_agree 38 = .ok (.getfield 24, 3) := by decide +kernel
theorem dX3_agree_41 : decode cX3_agree 41 = .ok (.aload_n 0, 1) := by decide +kernel
theorem dX3_agree_42 : decode cX3_agree 42 = .ok (.getfield 15, 3) := by decide +kernel
theorem dX3_agree_45 : decode cX3_agree 45 = .ok (.iload 4, 2) := by decide +kernel
theorem dX3_agree_47 : decode cX3_agree 47 = .ok (.iaload, 1) := by decide +kernel
theorem dX3_agree_48 : decode cX3_agree 48 = .ok (.isub, 1) := by decide +kernel
theorem dX3_agree_49 : decode cX3_agree 49 = .ok (.iconst 1, 1) := by decide +kernel
theorem dX3_agree_50 : decode cX3_agree 50 = .ok (.if_icmp .gt 11, 3) := by decide +kernel
theorem dX3_agree_53 : decode cX3_agree 53 = .ok (.aload_n 0, 1) := by decide +kernel
theorem dX3_agree_54 : decode cX3_agree 54 = .ok (.aload_n 1, 1) := by decide +kernel
theorem dX3_agree_55 : decode cX3_agree 55 = .ok (.iload_n 2, 1) := by decide +kernel
theorem dX3_agree_56 : decode cX3_agree 56 = .ok (.iload 4, 2) := by decide +kernel
theorem dX3_agree_58 : decode cX3_agree 58 = .ok (.invokevirtual 102, 3) := by decide +kernel
theorem dX3_agree_61 : decode cX3_agree 61 = .ok (.iinc 4 1, 3) := by decide +kernel
theorem dX3_agree_64 : decode cX3_agree 64 = .ok (.goto (-53), 3) := by decide +kernel
theorem dX3_agree_67 : decode cX3_agree 67 = .ok (.aload_n 0, 1) := by decide +kernel
theorem dX3_agree_68 : decode cX3_agree 68 = .ok (.getfield 42, 3) := by decide +kernel
theorem dX3_agree_71 : decode cX3_agree 71 = .ok (.invokestatic 97, 3) := by decide +kernel
theorem dX3_agree_74 : decode cX3_agree 74 = .ok (.iload_n 3, 1) := by decide +kernel
theorem dX3_agree_75 : decode cX3_agree 75 = .ok (.isub, 1) := by decide +kernel
theorem dX3_agree_76 : decode cX3_agree 76 = .ok (.ireturn, 1) := by decide +kernel
theorem dX3_meet_0 : decode cX3_meet 0 = .ok (.aload_n 1, 1) := by decide +kernel
theorem dX3_meet_1 : decode cX3_meet 1 = .ok (.iload_n 2, 1) := by decide +kernel
theorem dX3_meet_2 : decode cX3_meet 2 = .ok (.invokevirtual 106, 3) := by decide +kernel
theorem dX3_meet_5 : decode cX3_meet 5 = .ok (.istore 4, 2) := by decide +kernel
theorem dX3_meet_7 : decode cX3_meet 7 = .ok (.aload_n 1, 1) := by decide +kernel
theorem dX3_meet_8 : decode cX3_meet 8 = .ok (.iload_n 3, 1) := by decide +kernel
theorem dX3_meet_9 : decode cX3_meet 9 = .ok (.invokevirtual 106, 3) := by decide +kernel
theorem dX3_meet_12 : decode cX3_meet 12 = .ok (.istore 5, 2) := by decide +kernel
theorem dX3_meet_14 : decode cX3_meet 14 = .ok (.iconst 1, 1) := by decide +kernel
theorem dX3_meet_15 : decode cX3_meet 15 = .ok (.iload_n 2, 1) := by decide +kernel
theorem dX3_meet_16 : decode cX3_meet 16 = .ok (.ishl, 1) := by decide +kernel
theorem dX3_meet_17 : decode cX3_meet 17 = .ok (.iconst 1, 1) := by decide +kernel
theorem dX3_meet_18 : decode cX3_meet 18 = .ok (.iload_n 3, 1) := by decide +kernel
theorem dX3_meet_19 : decode cX3_meet 19 = .ok (.ishl, 1) := by decide +kernel
theorem dX3_meet_20 : decode cX3_meet 20 = .ok (.ior, 1) := by decide +kernel
theorem dX3_meet_21 : decode cX3_meet 21 = .ok (.iconst 1, 1) := by decide +kernel
theorem dX3_meet_22 : decode cX3_meet 22 = .ok (.iload 4, 2) := by decide +kernel
theorem dX3_meet_24 : decode cX3_meet 24 = .ok (.ishl, 1) := by decide +kernel
theorem dX3_meet_25 : decode cX3_meet 25 = .ok (.ior, 1) := by decide +kernel
theorem dX3_meet_26 : decode cX3_meet 26 = .ok (.iconst 1, 1) := by decide +kernel
theorem dX3_meet_27 : decode cX3_meet 27 = .ok (.iload 5, 2) := by decide +kernel
theorem dX3_meet_29 : decode cX3_meet 29 = .ok (.ishl, 1) := by decide +kernel
theorem dX3_meet_30 : decode cX3_meet 30 = .ok (.ior, 1) := by decide +kernel
theorem dX3_meet_31 : decode cX3_meet 31 = .ok (.istore 6, 2) := by decide +kernel
theorem dX3_meet_33 : decode cX3_meet 33 = .ok (.iload 4, 2) := by decide +kernel
theorem dX3_meet_35 : decode cX3_meet 35 = .ok (.iload 5, 2) := by decide +kernel
theorem dX3_meet_37 : decode cX3_meet 37 = .ok (.if_icmp .eq 40, 3) := by decide +kernel
theorem dX3_meet_40 : decode cX3_meet 40 = .ok (.aload_n 0, 1) := by decide +kernel
theorem dX3_meet_41 : decode cX3_meet 41 = .ok (.getfield 21, 3) := by decide +kernel
theorem dX3_meet_44 : decode cX3_meet 44 = .ok (.iload_n 2, 1) := by decide +kernel
theorem dX3_meet_45 : decode cX3_meet 45 = .ok (.iaload, 1) := by decide +kernel
theorem dX3_meet_46 : decode cX3_meet 46 = .ok (.aload_n 0, 1) := by decide +kernel
theorem dX3_meet_47 : decode cX3_meet 47 = .ok (.getfield 21, 3) := by decide +kernel
theorem dX3_meet_50 : decode cX3_meet 50 = .ok (.iload_n 3, 1) := by decide +kernel
theorem dX3_meet_51 : decode cX3_meet 51 = .ok (.iaload, 1) := by decide +kernel
theorem dX3_meet_52 : decode cX3_meet 52 = .ok (.iand, 1) := by decide +kernel
theorem dX3_meet_53 : decode cX3_meet 53 = .ok (.iload 6, 2) := by decide +kernel
theorem dX3_meet_55 : decode cX3_meet 55 = .ok (.iconst (-1), 1) := by decide +kernel
theorem dX3_meet_56 : decode cX3_meet 56 = .ok (.ixor, 1) := by decide +kernel
theorem dX3_meet_57 : decode cX3_meet 57 = .ok (.iand, 1) := by decide +kernel
theorem dX3_meet_58 : decode cX3_meet 58 = .ok (.ifCond .eq 19, 3) := by decide +kernel
theorem dX3_meet_61 : decode cX3_meet 61 = .ok (.aload_n 0, 1) := by decide +kernel
theorem dX3_meet_62 : decode cX3_meet 62 = .ok (.dup, 1) := by decide +kernel
theorem dX3_meet_63 : decode cX3_meet 63 = .ok (.getfield 42, 3) := by decide +kernel
theorem dX3_meet_66 : decode cX3_meet 66 = .ok (.iload 4, 2) := by decide +kernel
theorem dX3_meet_68 : decode cX3_meet 68 = .ok (.iload 5, 2) := by decide +kernel
theorem dX3_meet_70 : decode cX3_meet 70 = .ok (.invokestatic 109, 3) := by decide +kernel
theorem dX3_meet_73 : decode cX3_meet 73 = .ok (.ior, 1) := by decide +kernel
theorem dX3_meet_74 : decode cX3_meet 74 = .ok (.putfield 42, 3) := by decide +kernel
theorem dX3_meet_77 : decode cX3_meet 77 = .ok (.return_, 1) := by decide +kernel
theorem dX3_holdsFor_0 : decode cX3_holdsFor 0 = .ok (.aload_n 0, 1) := by decide +kernel
theorem dX3_holdsFor_1 : decode cX3_holdsFor 1 = .ok (.getfield 42, 3) := by decide +kernel
theorem dX3_holdsFor_4 : decode cX3_holdsFor 4 = .ok (.iload_n 1, 1) := by decide +kernel
theorem dX3_holdsFor_5 : decode cX3_holdsFor 5 = .ok (.iload_n 2, 1) := by decide +kernel
theorem dX3_holdsFor_6 : decode cX3_holdsFor 6 = .ok (.invokestatic 109, 3) := by decide +kernel
theorem dX3_holdsFor_9 : decode cX3_holdsFor 9 = .ok (.iand, 1) := by decide +kernel
theorem dX3_holdsFor_10 : decode cX3_holdsFor 10 = .ok (.ifCond .eq 7, 3) := by decide +kernel
theorem dX3_holdsFor_13 : decode cX3_holdsFor 13 = .ok (.iconst 1, 1) := by decide +kernel
theorem dX3_holdsFor_14 : decode cX3_holdsFor 14 = .ok (.goto 4, 3) := by decide +kernel
theorem dX3_holdsFor_17 : decode cX3_holdsFor 17 = .ok (.iconst 0, 1) := by decide +kernel
theorem dX3_holdsFor_18 : decode cX3_holdsFor 18 = .ok (.ireturn, 1) := by decide +kernel
theorem dX3_conditionals_0 : decode cX3_conditionals 0 = .ok (.iconst 0, 1) := by decide +kernel
theorem dX3_conditionals_1 : decode cX3_conditionals 1 = .ok (.istore_n 2, 1) := by decide +kernel
theorem dX3_conditionals_2 : decode cX3_conditionals 2 = .ok (.iconst 1, 1) := by decide +kernel
theorem dX3_conditionals_3 : decode cX3_conditionals 3 = .ok (.istore_n 3, 1) := by decide +kernel
theorem dX3_conditionals_4 : decode cX3_conditionals 4 = .ok (.iload_n 3, 1) := by decide +kernel
theorem dX3_conditionals_5 : decode cX3_conditionals 5 = .ok (.aload_n 1, 1) := by decide +kernel
theorem dX3_conditionals_6 : decode cX3_conditionals 6 = .ok (.getfield 45, 3) := by decide +kernel
theorem dX3_conditionals_9 : decode cX3_conditionals 9 = .ok (.if_icmp .ge 47, 3) := by decide +kernel
theorem dX3_conditionals_12 : decode cX3_conditionals 12 = .ok (.iconst 0, 1) := by decide +kernel
theorem dX3_conditionals_13 : decode cX3_conditionals 13 = .ok (.istore 4, 2) := by decide +kernel
theorem dX3_conditionals_15 : decode cX3_conditionals 15 = .ok (.iload 4, 2) := by decide +kernel
theorem dX3_conditionals_17 : decode cX3_conditionals 17 = .ok (.iload_n 3, 1) := by decide +kernel
theorem dX3_conditionals_18 : decode cX3_conditionals 18 = .ok (.if_icmp .ge 32, 3) := by decide +kernel
theorem dX3_conditionals_21 : decode cX3_conditionals 21 = .ok (.aload_n 0, 1) := by decide +kernel
theorem dX3_conditionals_22 : decode cX3_conditionals 22 = .ok (.iload 4, 2) := by decide +kernel
theorem dX3_conditionals_24 : decode cX3_conditionals 24 = .ok (.iload_n 3, 1) := by decide +kernel
theorem dX3_conditionals_25 : decode cX3_conditionals 25 = .ok (.invokevirtual 112, 3) := by decide +kernel
theorem dX3_conditionals_28 : decode cX3_conditionals 28 = .ok (.ifCond .eq 16, 3) := by decide +kernel
theorem dX3_conditionals_31 : decode cX3_conditionals 31 = .ok (.aload_n 1, 1) := by decide +kernel
theorem dX3_conditionals_32 : decode cX3_conditionals 32 = .ok (.iload 4, 2) := by decide +kernel
theorem dX3_conditionals_34 : decode cX3_conditionals 34 = .ok (.iload_n 3, 1) := by decide +kernel
theorem dX3_conditionals_35 : decode cX3_conditionals 35 = .ok (.invokevirtual 116, 3) := by decide +kernel
theorem dX3_conditionals_38 : decode cX3_conditionals 38 = .ok (.ifCond .eq 6, 3) := by decide +kernel
theorem dX3_conditionals_41 : decode cX3_conditionals 41 = .ok (.iinc 2 1, 3) := by decide +kernel
theorem dX3_conditionals_44 : decode cX3_conditionals 44 = .ok (.iinc 4 1, 3) := by decide +kernel
theorem dX3_conditionals_47 : decode cX3_conditionals 47 = .ok (.goto (-32), 3) := by decide +kernel
theorem dX3_conditionals_50 : decode cX3_conditionals 50 = .ok (.iinc 3 1, 3) := by decide +kernel
theorem dX3_conditionals_53 : decode cX3_conditionals 53 = .ok (.goto (-49), 3) := by decide +kernel
theorem dX3_conditionals_56 : decode cX3_conditionals 56 = .ok (.iload_n 2, 1) := by decide +kernel
theorem dX3_conditionals_57 : decode cX3_conditionals 57 = .ok (.ireturn, 1) := by decide +kernel
theorem dX3_lackOfPowder_0 : decode cX3_lackOfPowder 0 = .ok (.aload_n 0, 1) := by decide +kernel
theorem dX3_lackOfPowder_1 : decode cX3_lackOfPowder 1 = .ok (.aload_n 1, 1) := by decide +kernel
theorem dX3_lackOfPowder_2 : decode cX3_lackOfPowder 2 = .ok (.iload_n 2, 1) := by decide +kernel
theorem dX3_lackOfPowder_3 : decode cX3_lackOfPowder 3 = .ok (.invokevirtual 70, 3) := by decide +kernel
theorem dX3_lackOfPowder_6 : decode cX3_lackOfPowder 6 = .ok (.istore 4, 2) := by decide +kernel
theorem dX3_lackOfPowder_8 : decode cX3_lackOfPowder 8 = .ok (.iconst (-1), 1) := by decide +kernel
theorem dX3_lackOfPowder_9 : decode cX3_lackOfPowder 9 = .ok (.istore 5, 2) := by decide +kernel
theorem dX3_lackOfPowder_11 : decode cX3_lackOfPowder 11 = .ok (.iconst 0, 1) := by decide +kernel
theorem dX3_lackOfPowder_12 : decode cX3_lackOfPowder 12 = .ok (.istore 6, 2) := by decide +kernel
theorem dX3_lackOfPowder_14 : decode cX3_lackOfPowder 14 = .ok (.iload 6, 2) := by decide +kernel
theorem dX3_lackOfPowder_16 : decode cX3_lackOfPowder 16 = .ok (.aload_n 1, 1) := by decide +kernel
theorem dX3_lackOfPowder_17 : decode cX3_lackOfPowder 17 = .ok (.getfield 45, 3) := by decide +kernel
theorem dX3_lackOfPowder_20 : decode cX3_lackOfPowder 20 = .ok (.if_icmp .ge 45, 3) := by decide +kernel
theorem dX3_lackOfPowder_23 : decode cX3_lackOfPowder 23 = .ok (.iload 6, 2) := by decide +kernel
theorem dX3_lackOfPowder_25 : decode cX3_lackOfPowder 25 = .ok (.iload_n 2, 1) := by decide +kernel
theorem dX3_lackOfPowder_26 : decode cX3_lackOfPowder 26 = .ok (.if_icmp .eq 33, 3) := by decide +kernel
theorem dX3_lackOfPowder_29 : decode cX3_lackOfPowder 29 = .ok (.iload_n 3, 1) := by decide +kernel
theorem dX3_lackOfPowder_30 : decode cX3_lackOfPowder 30 = .ok (.iload 6, 2) := by decide +kernel
theorem dX3_lackOfPowder_32 : decode cX3_lackOfPowder 32 = .ok (.ishr, 1) := by decide +kernel
theorem dX3_lackOfPowder_33 : decode cX3_lackOfPowder 33 = .ok (.iconst 1, 1) := by decide +kernel
theorem dX3_lackOfPowder_34 : decode cX3_lackOfPowder 34 = .ok (.iand, 1) := by decide +kernel
theorem dX3_lackOfPowder_35 : decode cX3_lackOfPowder 35 = .ok (.iconst 1, 1) := by decide +kernel
theorem dX3_lackOfPowder_36 : decode cX3_lackOfPowder 36 = .ok (.if_icmp .ne 23, 3) := by decide +kernel
theorem dX3_lackOfPowder_39 : decode cX3_lackOfPowder 39 = .ok (.iload 5, 2) := by decide +kernel
theorem dX3_lackOfPowder_41 : decode cX3_lackOfPowder 41 = .ok (.aload_n 1, 1) := by decide +kernel
theorem dX3_lackOfPowder_42 : decode cX3_lackOfPowder 42 = .ok (.getfield 58, 3) := by decide +kernel
theorem dX3_lackOfPowder_45 : decode cX3_lackOfPowder 45 = .ok (.iload 6, 2) := by decide +kernel
theorem dX3_lackOfPowder_47 : decode cX3_lackOfPowder 47 = .ok (.iaload, 1) := by decide +kernel
theorem dX3_lackOfPowder_48 : decode cX3_lackOfPowder 48 = .ok (.iload 4, 2) := by decide +kernel
theorem dX3_lackOfPowder_50 : decode cX3_lackOfPowder 50 = .ok (.isub, 1) := by decide +kernel
theorem dX3_lackOfPowder_51 : decode cX3_lackOfPowder 51 = .ok (.invokestatic 80, 3) := by decide +kernel
theorem dX3_lackOfPowder_54 : decode cX3_lackOfPowder 54 = .ok (.invokestatic 67, 3) := by decide +kernel
theorem dX3_lackOfPowder_57 : decode cX3_lackOfPowder 57 = .ok (.istore 5, 2) := by decide +kernel
theorem dX3_lackOfPowder_59 : decode cX3_lackOfPowder 59 = .ok (.iinc 6 1, 3) := by decide +kernel
theorem dX3_lackOfPowder_62 : decode cX3_lackOfPowder 62 = .ok (.goto (-48), 3) := by decide +kernel
theorem dX3_lackOfPowder_65 : decode cX3_lackOfPowder 65 = .ok (.iload 5, 2) := by decide +kernel
theorem dX3_lackOfPowder_67 : decode cX3_lackOfPowder 67 = .ok (.iconst (-1), 1) := by decide +kernel
theorem dX3_lackOfPowder_68 : decode cX3_lackOfPowder 68 = .ok (.if_icmp .ne 7, 3) := by decide +kernel
theorem dX3_lackOfPowder_71 : decode cX3_lackOfPowder 71 = .ok (.iconst 0, 1) := by decide +kernel
theorem dX3_lackOfPowder_72 : decode cX3_lackOfPowder 72 = .ok (.goto 16, 3) := by decide +kernel
theorem dX3_lackOfPowder_75 : decode cX3_lackOfPowder 75 = .ok (.iconst 0, 1) := by decide +kernel
theorem dX3_lackOfPowder_76 : decode cX3_lackOfPowder 76 = .ok (.iload 5, 2) := by decide +kernel
theorem dX3_lackOfPowder_78 : decode cX3_lackOfPowder 78 = .ok (.aload_n 0, 1) := by decide +kernel
theorem dX3_lackOfPowder_79 : decode cX3_lackOfPowder 79 = .ok (.aload_n 1, 1) := by decide +kernel
theorem dX3_lackOfPowder_80 : decode cX3_lackOfPowder 80 = .ok (.iload_n 2, 1) := by decide +kernel
theorem dX3_lackOfPowder_81 : decode cX3_lackOfPowder 81 = .ok (.invokevirtual 77, 3) := by decide +kernel
theorem dX3_lackOfPowder_84 : decode cX3_lackOfPowder 84 = .ok (.isub, 1) := by decide +kernel
theorem dX3_lackOfPowder_85 : decode cX3_lackOfPowder 85 = .ok (.invokestatic 67, 3) := by decide +kernel
theorem dX3_lackOfPowder_88 : decode cX3_lackOfPowder 88 = .ok (.ireturn, 1) := by decide +kernel
theorem dX3_pairBit_0 : decode cX3_pairBit 0 = .ok (.iload_n 0, 1) := by decide +kernel
theorem dX3_pairBit_1 : decode cX3_pairBit 1 = .ok (.iload_n 1, 1) := by decide +kernel
theorem dX3_pairBit_2 : decode cX3_pairBit 2 = .ok (.invokestatic 67, 3) := by decide +kernel
theorem dX3_pairBit_5 : decode cX3_pairBit 5 = .ok (.istore_n 2, 1) := by decide +kernel
theorem dX3_pairBit_6 : decode cX3_pairBit 6 = .ok (.iconst 1, 1) := by decide +kernel
theorem dX3_pairBit_7 : decode cX3_pairBit 7 = .ok (.iload_n 2, 1) := by decide +kernel
theorem dX3_pairBit_8 : decode cX3_pairBit 8 = .ok (.iload_n 2, 1) := by decide +kernel
theorem dX3_pairBit_9 : decode cX3_pairBit 9 = .ok (.iconst 1, 1) := by decide +kernel
theorem dX3_pairBit_10 : decode cX3_pairBit 10 = .ok (.isub, 1) := by decide +kernel
theorem dX3_pairBit_11 : decode cX3_pairBit 11 = .ok (.imul, 1) := by decide +kernel
theorem dX3_pairBit_12 : decode cX3_pairBit 12 = .ok (.iconst 2, 1) := by decide +kernel
theorem dX3_pairBit_13 : decode cX3_pairBit 13 = .ok (.idiv, 1) := by decide +kernel
theorem dX3_pairBit_14 : decode cX3_pairBit 14 = .ok (.iload_n 0, 1) := by decide +kernel
theorem dX3_pairBit_15 : decode cX3_pairBit 15 = .ok (.iload_n 1, 1) := by decide +kernel
theorem dX3_pairBit_16 : decode cX3_pairBit 16 = .ok (.invokestatic 61, 3) := by decide +kernel
theorem dX3_pairBit_19 : decode cX3_pairBit 19 = .ok (.iadd, 1) := by decide +kernel
theorem dX3_pairBit_20 : decode cX3_pairBit 20 = .ok (.ishl, 1) := by decide +kernel
theorem dX3_pairBit_21 : decode cX3_pairBit 21 = .ok (.ireturn, 1) := by decide +kernel
theorem dX4_init_0 : decode cX4_init 0 = .ok (.aload_n 0, 1) := by decide +kernel
theorem dX4_init_1 : decode cX4_init 1 = .ok (.invokespecial 3, 3) := by decide +kernel
theorem dX4_init_4 : decode cX4_init 4 = .ok (.aload_n 0, 1) := by decide +kernel
theorem dX4_init_5 : decode cX4_init 5 = .ok (.bipush 8, 2) := by decide +kernel
theorem dX4_init_7 : decode cX4_init 7 = .ok (.newarray .int, 2) := by decide +kernel
theorem dX4_init_9 : decode cX4_init 9 = .ok (.putfield 9, 3) := by decide +kernel
theorem dX4_init_12 : decode cX4_init 12 = .ok (.aload_n 0, 1) := by decide +kernel
theorem dX4_init_13 : decode cX4_init 13 = .ok (.bipush 8, 2) := by decide +kernel
theorem dX4_init_15 : decode cX4_init 15 = .ok (.newarray .int, 2) := by decide +kernel
