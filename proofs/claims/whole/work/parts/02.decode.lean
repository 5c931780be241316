theorem dX1_init_0 : decode cX1_init 0 = .ok (.aload_n 0, 1) := by decide +kernel
theorem dX1_init_1 : decode cX1_init 1 = .ok (.invokespecial 3, 3) := by decide +kernel
theorem dX1_init_4 : decode cX1_init 4 = .ok (.aload_n 0, 1) := by decide +kernel
theorem dX1_init_5 : decode cX1_init 5 = .ok (.iconst 4, 1) := by decide +kernel
theorem dX1_init_6 : decode cX1_init 6 = .ok (.newarray .int, 2) := by decide +kernel
theorem dX1_init_8 : decode cX1_init 8 = .ok (.putfield 9, 3) := by decide +kernel
theorem dX1_init_11 : decode cX1_init 11 = .ok (.aload_n 0, 1) := by decide +kernel
theorem dX1_init_12 : decode cX1_init 12 = .ok (.iconst 4, 1) := by decide +kernel
theorem dX1_init_13 : decode cX1_init 13 = .ok (.newarray .int, 2) := by decide +kernel
theorem dX1_init_15 : decode cX1_init 15 = .ok (.putfield 15, 3) := by decide +kernel
theorem dX1_init_18 : decode cX1_init 18 = .ok (.return_, 1) := by decide +kernel
theorem dX2_init_0 : decode cX2_init 0 = .ok (.aload_n 0, 1) := by decide +kernel
theorem dX2_init_1 : decode cX2_init 1 = .ok (.invokespecial 3, 3) := by decide +kernel
theorem dX2_init_4 : decode cX2_init 4 = .ok (.aload_n 0, 1) := by decide +kernel
theorem dX2_init_5 : decode cX2_init 5 = .ok (.sipush 512, 3) := by decide +kernel
theorem dX2_init_8 : decode cX2_init 8 = .ok (.newarray .int, 2) := by decide +kernel
theorem dX2_init_10 : decode cX2_init 10 = .ok (.putfield 9, 3) := by decide +kernel
theorem dX2_init_13 : decode cX2_init 13 = .ok (.aload_n 0, 1) := by decide +kernel
theorem dX2_init_14 : decode cX2_init 14 = .ok (.bipush 73, 2) := by decide +kernel
theorem dX2_init_16 : decode cX2_init 16 = .ok (.newarray .int, 2) := by decide +kernel
theorem dX2_init_18 : decode cX2_init 18 = .ok (.putfield 15, 3) := by decide +kernel
theorem dX2_init_21 : decode cX2_init 21 = .ok (.aload_n 0, 1) := by decide +kernel
theorem dX2_init_22 : decode cX2_init 22 = .ok (.bipush 73, 2) := by decide +kernel
theorem dX2_init_24 : decode cX2_init 24 = .ok (.newarray .int, 2) := by decide +kernel
theorem dX2_init_26 : decode cX2_init 26 = .ok (.putfield 18, 3) := by decide +kernel
theorem dX2_init_29 : decode cX2_init 29 = .ok (.return_, 1) := by decide +kernel
theorem dX0_init_0 : decode cX0_init 0 = .ok (.aload_n 0, 1) := by decide +kernel
theorem dX0_init_1 : decode cX0_init 1 = .ok (.invokespecial 3, 3) := by decide +kernel
theorem dX0_init_4 : decode cX0_init 4 = .ok (.aload_n 0, 1) := by decide +kernel
theorem dX0_init_5 : decode cX0_init 5 = .ok (.sipush 512, 3) := by decide +kernel
theorem dX0_init_8 : decode cX0_init 8 = .ok (.newarray .int, 2) := by decide +kernel
theorem dX0_init_10 : decode cX0_init 10 = .ok (.putfield 9, 3) := by decide +kernel
theorem dX0_init_13 : decode cX0_init 13 = .ok (.return_, 1) := by decide +kernel
theorem dX3_init_0 : decode cX3_init 0 = .ok (.aload_n 0, 1) := by decide +kernel
theorem dX3_init_1 : decode cX3_init 1 = .ok (.invokespecial 3, 3) := by decide +kernel
theorem dX3_init_4 : decode cX3_init 4 = .ok (.aload_n 0, 1) := by decide +kernel
theorem dX3_init_5 : decode cX3_init 5 = .ok (.bipush 16, 2) := by decide +kernel
theorem dX3_init_7 : decode cX3_init 7 = .ok (.newarray .int, 2) := by decide +kernel
theorem dX3_init_9 : decode cX3_init 9 = .ok (.putfield 9, 3) := by decide +kernel
theorem dX3_init_12 : decode cX3_init 12 = .ok (.return_, 1) := by decide +kernel
theorem dX5_init_0 : decode cX5_init 0 = .ok (.aload_n 0, 1) := by decide +kernel
theorem dX5_init_1 : decode cX5_init 1 = .ok (.invokespecial 3, 3) := by decide +kernel
theorem dX5_init_4 : decode cX5_init 4 = .ok (.aload_n 0, 1) := by decide +kernel
theorem dX5_init_5 : decode cX5_init 5 = .ok (.bipush 8, 2) := by decide +kernel
theorem dX5_init_7 : decode cX5_init 7 = .ok (.newarray .int, 2) := by decide +kernel
theorem dX5_init_9 : decode cX5_init 9 = .ok (.putfield 9, 3) := by decide +kernel
theorem dX5_init_12 : decode cX5_init 12 = .ok (.aload_n 0, 1) := by decide +kernel
theorem dX5_init_13 : decode cX5_init 13 = .ok (.new 13, 3) := by decide +kernel
theorem dX5_init_16 : decode cX5_init 16 = .ok (.dup, 1) := by decide +kernel
theorem dX5_init_17 : decode cX5_init 17 = .ok (.invokespecial 15, 3) := by decide +kernel
theorem dX5_init_20 : decode cX5_init 20 = .ok (.putfield 16, 3) := by decide +kernel
theorem dX5_init_23 : decode cX5_init 23 = .ok (.aload_n 0, 1) := by decide +kernel
theorem dX5_init_24 : decode cX5_init 24 = .ok (.new 20, 3) := by decide +kernel
theorem dX5_init_27 : decode cX5_init 27 = .ok (.dup, 1) := by decide +kernel
theorem dX5_init_28 : decode cX5_init 28 = .ok (.invokespecial 22, 3) := by decide +kernel
theorem dX5_init_31 : decode cX5_init 31 = .ok (.putfield 23, 3) := by decide +kernel
theorem dX5_init_34 : decode cX5_init 34 = .ok (.aload_n 0, 1) := by decide +kernel
theorem dX5_init_35 : decode cX5_init 35 = .ok (.new 27, 3) := by decide +kernel
theorem dX5_init_38 : decode cX5_init 38 = .ok (.dup, 1) := by decide +kernel
theorem dX5_init_39 : decode cX5_init 39 = .ok (.invokespecial 29, 3) := by decide +kernel
theorem dX5_init_42 : decode cX5_init 42 = .ok (.putfield 30, 3) := by decide +kernel
theorem dX5_init_45 : decode cX5_init 45 = .ok (.aload_n 0, 1) := by decide +kernel
theorem dX5_init_46 : decode cX5_init 46 = .ok (.new 34, 3) := by decide +kernel
theorem dX5_init_49 : decode cX5_init 49 = .ok (.dup, 1) := by decide +kernel
theorem dX5_init_50 : decode cX5_init 50 = .ok (.invokespecial 36, 3) := by decide +kernel
theorem dX5_init_53 : decode cX5_init 53 = .ok (.putfield 37, 3) := by decide +kernel
theorem dX5_init_56 : decode cX5_init 56 = .ok (.aload_n 0, 1) := by decide +kernel
theorem dX5_init_57 : decode cX5_init 57 = .ok (.iconst 1, 1) := by decide +kernel
theorem dX5_init_58 : decode cX5_init 58 = .ok (.putfield 41, 3) := by decide +kernel
theorem dX5_init_61 : decode cX5_init 61 = .ok (.return_, 1) := by decide +kernel
theorem dX5_isAccount_0 : decode cX5_isAccount 0 = .ok (.iload_n 0, 1) := by decide +kernel
theorem dX5_isAccount_1 : decode cX5_isAccount 1 = .ok (.ifCond .lt 13, 3) := by decide +kernel
theorem dX5_isAccount_4 : decode cX5_isAccount 4 = .ok (.iload_n 0, 1) := by decide +kernel
theorem dX5_isAccount_5 : decode cX5_isAccount 5 = .ok (.bipush 8, 2) := by decide +kernel
theorem dX5_isAccount_7 : decode cX5_isAccount 7 = .ok (.if_icmp .ge 7, 3) := by decide +kernel
theorem dX5_isAccount_10 : decode cX5_isAccount 10 = .ok (.iconst 1, 1) := by decide +kernel
theorem dX5_isAccount_11 : decode cX5_isAccount 11 = .ok (.goto 4, 3) := by decide +kernel
theorem dX5_isAccount_14 : decode cX5_isAccount 14 = .ok (.iconst 0, 1) := by decide +kernel
theorem dX5_isAccount_15 : decode cX5_isAccount 15 = .ok (.ireturn, 1) := by decide +kernel
theorem dX5_limit_0 : decode cX5_limit 0 = .ok (.iload_n 1, 1) := by decide +kernel
theorem dX5_limit_1 : decode cX5_limit 1 = .ok (.invokestatic 45, 3) := by decide +kernel
theorem dX5_limit_4 : decode cX5_limit 4 = .ok (.ifCond .eq 13, 3) := by decide +kernel
theorem dX5_limit_7 : decode cX5_limit 7 = .ok (.iload_n 2, 1) := by decide +kernel
theorem dX5_limit_8 : decode cX5_limit 8 = .ok (.ifCond .lt 9, 3) := by decide +kernel
theorem dX5_limit_11 : decode cX5_limit 11 = .ok (.iload_n 2, 1) := by decide +kernel
theorem dX5_limit_12 : decode cX5_limit 12 = .ok (.ldc 49, 2) := by decide +kernel
theorem dX5_limit_14 : decode cX5_limit 14 = .ok (.if_icmp .le 5, 3) := by decide +kernel
theorem dX5_limit_17 : decode cX5_limit 17 = .ok (.iconst 0, 1) := by decide +kernel
theorem dX5_limit_18 : decode cX5_limit 18 = .ok (.ireturn, 1) := by decide +kernel
theorem dX5_limit_19 : decode cX5_limit 19 = .ok (.aload_n 0, 1) := by decide +kernel
theorem dX5_limit_20 : decode cX5_limit 20 = .ok (.getfield 9, 3) := by decide +kernel
theorem dX5_limit_23 : decode cX5_limit 23 = .ok (.iload_n 1, 1) := by decide +kernel
theorem dX5_limit_24 : decode cX5_limit 24 = .ok (.iload_n 2, 1) := by decide +kernel
theorem dX5_limit_25 : decode cX5_limit 25 = .ok (.iastore, 1) := by decide +kernel
theorem dX5_limit_26 : decode cX5_limit 26 = .ok (.iconst 1, 1) := by decide +kernel
theorem dX5_limit_27 : decode cX5_limit 27 = .ok (.ireturn, 1) := by decide +kernel
theorem dX5_isAmount_0 : decode cX5_isAmount 0 = .ok (.iload_n 0, 1) := by decide +kernel
theorem dX5_isAmount_1 : decode cX5_isAmount 1 = .ok (.sipush (-9999), 3) := by decide +kernel
theorem dX5_isAmount_4 : decode cX5_isAmount 4 = .ok (.if_icmp .lt 14, 3) := by decide +kernel
theorem dX5_isAmount_7 : decode cX5_isAmount 7 = .ok (.iload_n 0, 1) := by decide +kernel
theorem dX5_isAmount_8 : decode cX5_isAmount 8 = .ok (.sipush 9999, 3) := by decide +kernel
theorem dX5_isAmount_11 : decode cX5_isAmount 11 = .ok (.if_icmp .gt 7, 3) := by decide +kernel
theorem dX5_isAmount_14 : decode cX5_isAmount 14 = .ok (.iconst 1, 1) := by decide +kernel
theorem dX5_isAmount_15 : decode cX5_isAmount 15 = .ok (.goto 4, 3) := by decide +kernel
theorem dX5_isAmount_18 : decode cX5_isAmount 18 = .ok (.iconst 0, 1) := by decide +kernel
theorem dX5_isAmount_19 : decode cX5_isAmount 19 = .ok (.ireturn, 1) := by decide +kernel
theorem dX1_add_0 : decode cX1_add 0 = .ok (.aload_n 0, 1) := by decide +kernel
theorem dX1_add_1 : decode cX1_add 1 = .ok (.getfield 18, 3) := by decide +kernel
theorem dX1_add_4 : decode cX1_add 4 = .ok (.iconst 4, 1) := by decide +kernel
theorem dX1_add_5 : decode cX1_add 5 = .ok (.if_icmp .lt 5, 3) := by decide +kernel
theorem dX1_add_8 : decode cX1_add 8 = .ok (.iconst 0, 1) := by decide +kernel
theorem dX1_add_9 : decode cX1_add 9 = .ok (.ireturn, 1) := by decide +kernel
theorem dX1_add_10 : decode cX1_add 10 = .ok (.aload_n 0, 1) := by decide +kernel
theorem dX1_add_11 : decode cX1_add 11 = .ok (.getfield 9, 3) := by decide +kernel
theorem dX1_add_14 : decode cX1_add 14 = .ok (.aload_n 0, 1) := by decide +kernel
theorem dX1_add_15 : decode cX1_add 15 = .ok (.getfield 18, 3) := by decide +kernel
theorem dX1_add_18 : decode cX1_add 18 = .ok (.iload_n 1, 1) := by decide +kernel
theorem dX1_add_19 : decode cX1_add 19 = .ok (.iastore, 1) := by decide +kernel
theorem dX1_add_20 : decode cX1_add 20 = .ok (.aload_n 0, 1) := by decide +kernel
theorem dX1_add_21 : decode cX1_add 21 = .ok (.getfield 15, 3) := by decide +kernel
theorem dX1_add_24 : decode cX1_add 24 = .ok (.aload_n 0, 1) := by decide +kernel
theorem dX1_add_25 : decode cX1_add 25 = .ok (.getfield 18, 3) := by decide +kernel
theorem dX1_add_28 : decode cX1_add 28 = .ok (.iload_n 2, 1) := by decide +kernel
theorem dX1_add_29 : decode cX1_add 29 = .ok (.iastore, 1) := by decide +kernel
theorem dX1_add_30 : decode cX1_add 30 = .ok (.aload_n 0, 1) := by decide +kernel
theorem dX1_add_31 : decode cX1_add 31 = .ok (.dup, 1) := by decide +kernel
theorem dX1_add_32 : decode cX1_add 32 = .ok (.getfield 18, 3) := by decide +kernel
theorem dX1_add_35 : decode cX1_add 35 = .ok (.iconst 1, 1) := by decide +kernel
theorem dX1_add_36 : decode cX1_add 36 = .ok (.iadd, 1) := by decide +kernel
theorem dX1_add_37 : decode cX1_add 37 = .ok (.putfield 18, 3) := by decide +kernel
theorem dX1_add_40 : decode cX1_add 40 = .ok (.iconst 1, 1) := by decide +kernel
theorem dX1_add_41 : decode cX1_add 41 = .ok (.ireturn, 1) := by decide +kernel
theorem dX5_leg_0 : decode cX5_leg 0 = .ok (.aload_n 0, 1) := by decide +kernel
theorem dX5_leg_1 : decode cX5_leg 1 = .ok (.getfield 41, 3) := by decide +kernel
theorem dX5_leg_4 : decode cX5_leg 4 = .ok (.ifCond .eq 33, 3) := by decide +kernel
theorem dX5_leg_7 : decode cX5_leg 7 = .ok (.iload_n 1, 1) := by decide +kernel
theorem dX5_leg_8 : decode cX5_leg 8 = .ok (.invokestatic 45, 3) := by decide +kernel
theorem dX5_leg_11 : decode cX5_leg 11 = .ok (.ifCond .eq 26, 3) := by decide +kernel
theorem dX5_leg_14 : decode cX5_leg 14 = .ok (.iload_n 2, 1) := by decide +kernel
theorem dX5_leg_15 : decode cX5_leg 15 = .ok (.invokestatic 50, 3) := by decide +kernel
theorem dX5_leg_18 : decode cX5_leg 18 = .ok (.ifCond .eq 19, 3) := by decide +kernel
theorem dX5_leg_21 : decode cX5_leg 21 = .ok (.aload_n 0, 1) := by decide +kernel
theorem dX5_leg_22 : decode cX5_leg 22 = .ok (.getfield 16, 3) := by decide +kernel
theorem dX5_leg_25 : decode cX5_leg 25 = .ok (.iload_n 1, 1) := by decide +kernel
theorem dX5_leg_26 : decode cX5_leg 26 = .ok (.iload_n 2, 1) := by decide +kernel
theorem dX5_leg_27 : decode cX5_leg 27 = .ok (.invokevirtual 53, 3) := by decide +kernel
theorem dX5_leg_30 : decode cX5_leg 30 = .ok (.ifCond .eq 7, 3) := by decide +kernel
theorem dX5_leg_33 : decode cX5_leg 33 = .ok (.iconst 1, 1) := by decide +kernel
theorem dX5_leg_34 : decode cX5_leg 34 = .ok (.goto 4, 3) := by decide +kernel
theorem dX5_leg_37 : decode cX5_leg 37 = .ok (.iconst 0, 1) := by decide +kernel
theorem dX5_leg_38 : decode cX5_leg 38 = .ok (.ireturn, 1) := by decide +kernel
theorem dX1_clear_0 : decode cX1_clear 0 = .ok (.aload_n 0, 1) := by decide +kernel
theorem dX1_clear_1 : decode cX1_clear 1 = .ok (.iconst 0, 1) := by decide +kernel
theorem dX1_clear_2 : decode cX1_clear 2 = .ok (.putfield 18, 3) := by decide +kernel
theorem dX1_clear_5 : decode cX1_clear 5 = .ok (.return_, 1) := by decide +kernel
theorem dX5_drop_0 : decode cX5_drop 0 = .ok (.aload_n 0, 1) := by decide +kernel
theorem dX5_drop_1 : decode cX5_drop 1 = .ok (.getfield 16, 3) := by decide +kernel
theorem dX5_drop_4 : decode cX5_drop 4 = .ok (.invokevirtual 57, 3) := by decide +kernel
theorem dX5_drop_7 : decode cX5_drop 7 = .ok (.return_, 1) := by decide +kernel
theorem dX1_isEven_0 : decode cX1_isEven 0 = .ok (.iconst 0, 1) := by decide +kernel
theorem dX1_isEven_1 : decode cX1_isEven 1 = .ok (.istore_n 1, 1) := by decide +kernel
theorem dX1_isEven_2 : decode cX1_isEven 2 = .ok (.iconst 0, 1) := by decide +kernel
theorem dX1_isEven_3 : decode cX1_isEven 3 = .ok (.istore_n 2, 1) := by decide +kernel
theorem dX1_isEven_4 : decode cX1_isEven 4 = .ok (.iload_n 2, 1) := by decide +kernel
theorem dX1_isEven_5 : decode cX1_isEven 5 = .ok (.aload_n 0, 1) := by decide +kernel
theorem dX1_isEven_6 : decode cX1_isEven 6 = .ok (.getfield 18, 3) := by decide +kernel
theorem dX1_isEven_9 : decode cX1_isEven 9 = .ok (.if_icmp .ge 18, 3) := by decide +kernel
theorem dX1_isEven_12 : decode cX1_isEven 12 = .ok (.iload_n 1, 1) := by decide +kernel
theorem dX1_isEven_13 : decode cX1_isEven 13 = .ok (.aload_n 0, 1) := by decide +kernel
theorem dX1_isEven_14 : decode cX1_isEven 14 = .ok (.getfield 15, 3) := by decide +kernel
theorem dX1_isEven_17 : decode cX1_isEven 17 = .ok (.iload_n 2, 1) := by decide +kernel
theorem dX1_isEven_18 : decode cX1_isEven 18 = .ok (.iaload, 1) := by decide +kernel
theorem dX1_isEven_19 : decode cX1_isEven 19 = .ok (.iadd, 1) := by decide +kernel
theorem dX1_isEven_20 : decode cX1_isEven 20 = .ok (.istore_n 1, 1) := by decide +kernel
theorem dX1_isEven_21 : decode cX1_isEven 21 = .ok (.iinc 2 1, 3) := by decide +kernel
theorem dX1_isEven_24 : decode cX1_isEven 24 = .ok (.goto (-20), 3) := by decide +kernel
theorem dX1_isEven_27 : decode cX1_isEven 27 = .ok (.aload_n 0, 1) := by decide +kernel
theorem dX1_isEven_28 : decode cX1_isEven 28 = .ok (.getfield 18, 3) := by decide +kernel
theorem dX1_isEven_31 : decode cX1_isEven 31 = .ok (.iconst 2, 1) := by decide +kernel
theorem dX1_isEven_32 : decode cX1_isEven 32 = .ok (.if_icmp .lt 11, 3) := by decide +kernel
theorem dX1_isEven_35 : decode cX1_isEven 35 = .ok (.iload_n 1, 1) := by decide +kernel
theorem dX1_isEven_36 : decode cX1_isEven 36 = .ok (.ifCond .ne 7, 3) := by decide +kernel
theorem dX1_isEven_39 : decode cX1_isEven 39 = .ok (.iconst 1, 1) := by decide +kernel
theorem dX1_isEven_40 : decode cX1_isEven 40 = .ok (.goto 4, 3) := by decide +kernel
theorem dX1_isEven_43 : decode cX1_isEven 43 = .ok (.iconst 0, 1) := by decide +kernel
theorem dX1_isEven_44 : decode cX1_isEven 44 = .ok (.ireturn, 1) := by decide +kernel
theorem dX2_firstWith_0 : decode cX2_firstWith 0 = .ok (.iconst 0, 1) := by decide +kernel
theorem dX2_firstWith_1 : decode cX2_firstWith 1 = .ok (.istore_n 2, 1) := by decide +kernel
theorem dX2_firstWith_2 : decode cX2_firstWith 2 = .ok (.iload_n 2, 1) := by decide +kernel
theorem dX2_firstWith_3 : decode cX2_firstWith 3 = .ok (.aload_n 0, 1) := by decide +kernel
theorem dX2_firstWith_4 : decode cX2_firstWith 4 = .ok (.getfield 21, 3) := by decide +kernel
theorem dX2_firstWith_7 : decode cX2_firstWith 7 = .ok (.if_icmp .ge 28, 3) := by decide +kernel
theorem dX2_firstWith_10 : decode cX2_firstWith 10 = .ok (.aload_n 0, 1) := by decide +kernel
theorem dX2_firstWith_11 : decode cX2_firstWith 11 = .ok (.getfield 9, 3) := by decide +kernel
theorem dX2_firstWith_14 : decode cX2_firstWith 14 = .ok (.aload_n 0, 1) := by decide +kernel
theorem dX2_firstWith_15 : decode cX2_firstWith 15 = .ok (.getfield 15, 3) := by decide +kernel
theorem dX2_firstWith_18 : decode cX2_firstWith 18 = .ok (.iload_n 2, 1) := by decide +kernel
theorem dX2_firstWith_19 : decode cX2_firstWith 19 = .ok (.iaload, 1) := by decide +kernel
theorem dX2_firstWith_20 : decode cX2_firstWith 20 = .ok (.iconst 1, 1) := by decide +kernel
theorem dX2_firstWith_21 : decode cX2_firstWith 21 = .ok (.iadd, 1) := by decide +kernel
theorem dX2_firstWith_22 : decode cX2_firstWith 22 = .ok (.iaload, 1) := by decide +kernel
theorem dX2_firstWith_23 : decode cX2_firstWith 23 = .ok (.iload_n 1, 1) := by decide +kernel
theorem dX2_firstWith_24 : decode cX2_firstWith 24 = .ok (.if_icmp .ne 5, 3) := by decide +kernel
theorem dX2_firstWith_27 : decode cX2_firstWith 27 = .ok (.iload_n 2, 1) := by decide +kernel
theorem dX2_firstWith_28 : decode cX2_firstWith 28 = .ok (.ireturn, 1) := by decide +kernel
theorem dX2_firstWith_29 : decode cX2_firstWith 29 = .ok (.iinc 2 1, 3) := by decide +kernel
theorem dX2_firstWith_32 : decode cX2_firstWith 32 = .ok (.goto (-30), 3) := by decide +kernel
theorem dX2_firstWith_35 : decode cX2_firstWith 35 = .ok (.iconst (-1), 1) := by decide +kernel
theorem dX2_firstWith_36 : decode cX2_firstWith 36 = .ok (.ireturn, 1) := by decide +kernel
theorem dX1_size_0 : decode cX1_size 0 = .ok (.aload_n 0, 1) := by decide +kernel
theorem dX1_size_1 : decode cX1_size 1 = .ok (.getfield 18, 3) := by decide +kernel
theorem dX1_size_4 : decode cX1_size 4 = .ok (.ireturn, 1) := by decide +kernel
theorem dX1_accountAt_0 : decode cX1_accountAt 0 = .ok (.iload_n 1, 1) := by decide +kernel
theorem dX1_accountAt_1 : decode cX1_accountAt 1 = .ok (.ifCond .lt 20, 3) := by decide +kernel
theorem dX1_accountAt_4 : decode cX1_accountAt 4 = .ok (.iload_n 1, 1) := by decide +kernel
theorem dX1_accountAt_5 : decode cX1_accountAt 5 = .ok (.aload_n 0, 1) := by decide +kernel
theorem dX1_accountAt_6 : decode cX1_accountAt 6 = .ok (.getfield 18, 3) := by decide +kernel
theorem dX1_accountAt_9 : decode cX1_accountAt 9 = .ok (.if_icmp .ge 12, 3) := by decide +kernel
theorem dX1_accountAt_12 : decode cX1_accountAt 12 = .ok (.aload_n 0, 1) := by decide +kernel
theorem dX1_accountAt_13 : decode cX1_accountAt 13 = .ok (.getfield 9, 3) := by decide +kernel
theorem dX1_accountAt_16 : decode cX1_accountAt 16 = .ok (.iload_n 1, 1) := by decide +kernel
theorem dX1_accountAt_17 : decode cX1_accountAt 17 = .ok (.iaload, 1) := by decide +kernel
theorem dX1_accountAt_18 : decode cX1_accountAt 18 = .ok (.goto 4, 3) := by decide +kernel
theorem dX1_accountAt_21 : decode cX1_accountAt 21 = .ok (.iconst 0, 1) := by decide +kernel
theorem dX1_accountAt_22 : decode cX1_accountAt 22 = .ok (.ireturn, 1) := by decide +kernel
theorem dX2_size_0 : decode cX2_size 0 = .ok (.aload_n 0, 1) := by decide +kernel
theorem dX2_size_1 : decode cX2_size 1 = .ok (.getfield 21, 3) := by decide +kernel
theorem dX2_size_4 : decode cX2_size 4 = .ok (.ireturn, 1) := by decide +kernel
theorem dX2_accountCell_0 : decode cX2_accountCell 0 = .ok (.iload_n 0, 1) := by decide +kernel
theorem dX2_accountCell_1 : decode cX2_accountCell 1 = .ok (.iconst 2, 1) := by decide +kernel
theorem dX2_accountCell_2 : decode cX2_accountCell 2 = .ok (.iadd, 1) := by decide +kernel
theorem dX2_accountCell_3 : decode cX2_accountCell 3 = .ok (.iconst 2, 1) := by decide +kernel
theorem dX2_accountCell_4 : decode cX2_accountCell 4 = .ok (.iload_n 1, 1) := by decide +kernel
theorem dX2_accountCell_5 : decode cX2_accountCell 5 = .ok (.imul, 1) := by decide +kernel
theorem dX2_accountCell_6 : decode cX2_accountCell 6 = .ok (.iadd, 1) := by decide +kernel
theorem dX2_accountCell_7 : decode cX2_accountCell 7 = .ok (.ireturn, 1) := by decide +kernel
theorem dX2_amountCell_0 : decode cX2_amountCell 0 = .ok (.iload_n 0, 1) := by decide +kernel
theorem dX2_amountCell_1 : decode cX2_amountCell 1 = .ok (.iconst 3, 1) := by decide +kernel
theorem dX2_amountCell_2 : decode cX2_amountCell 2 = .ok (.iadd, 1) := by decide +kernel
theorem dX2_amountCell_3 : decode cX2_amountCell 3 = .ok (.iconst 2, 1) := by decide +kernel
theorem dX2_amountCell_4 : decode cX2_amountCell 4 = .ok (.iload_n 1, 1) := by decide +kernel
theorem dX2_amountCell_5 : decode cX2_amountCell 5 = .ok (.imul, 1) := by decide +kernel
theorem dX2_amountCell_6 : decode cX2_amountCell 6 = .ok (.iadd, 1) := by decide +kernel
theorem dX2_amountCell_7 : decode cX2_amountCell 7 = .ok (.ireturn, 1) := by decide +kernel
theorem dX2_totalAt_0 : decode cX2_totalAt 0 = .ok (.iconst 0, 1) := by decide +kernel
theorem dX2_totalAt_1 : decode cX2_totalAt 1 = .ok (.istore 4, 2) := by decide +kernel
theorem dX2_totalAt_3 : decode cX2_totalAt 3 = .ok (.iconst 0, 1) := by decide +kernel
theorem dX2_totalAt_4 : decode cX2_totalAt 4 = .ok (.istore 5, 2) := by decide +kernel
theorem dX2_totalAt_6 : decode cX2_totalAt 6 = .ok (.iload 5, 2) := by decide +kernel
theorem dX2_totalAt_8 : decode cX2_totalAt 8 = .ok (.aload_n 0, 1) := by decide +kernel
theorem dX2_totalAt_9 : decode cX2_totalAt 9 = .ok (.getfield 9, 3) := by decide +kernel
theorem dX2_totalAt_12 : decode cX2_totalAt 12 = .ok (.iload_n 1, 1) := by decide +kernel
theorem dX2_totalAt_13 : decode cX2_totalAt 13 = .ok (.iaload, 1) := by decide +kernel
theorem dX2_totalAt_14 : decode cX2_totalAt 14 = .ok (.if_icmp .ge 48, 3) := by decide +kernel
theorem dX2_totalAt_17 : decode cX2_totalAt 17 = .ok (.aload_n 0, 1) := by decide +kernel
theorem dX2_totalAt_18 : decode cX2_totalAt 18 = .ok (.getfield 9, 3) := by decide +kernel
theorem dX2_totalAt_21 : decode cX2_totalAt 21 = .ok (.iload_n 1, 1) := by decide +kernel
theorem dX2_totalAt_22 : decode cX2_totalAt 22 = .ok (.iload 5, 2) := by decide +kernel
theorem dX2_totalAt_24 : decode cX2_totalAt 24 = .ok (.invokestatic 53, 3) := by decide +kernel
theorem dX2_totalAt_27 : decode cX2_totalAt 27 = .ok (.iaload, 1) := by decide +kernel
theorem dX2_totalAt_28 : decode cX2_totalAt 28 = .ok (.iload_n 2, 1) := by decide +kernel
theorem dX2_totalAt_29 : decode cX2_totalAt 29 = .ok (.if_icmp .ne 27, 3) := by decide +kernel
theorem dX2_totalAt_32 : decode cX2_totalAt 32 = .ok (.iload 4, 2) := by decide +kernel
theorem dX2_totalAt_34 : decode cX2_totalAt 34 = .ok (.iload_n 3, 1) := by decide +kernel
theorem dX2_totalAt_35 : decode cX2_totalAt 35 = .ok (.ifCond .eq 17, 3) := by decide +kernel
theorem dX2_totalAt_38 : decode cX2_totalAt 38 = .ok (.aload_n 0, 1) := by decide +kernel
theorem dX2_totalAt_39 : decode cX2_totalAt 39 = .ok (.getfield 9, 3) := by decide +kernel
theorem dX2_totalAt_42 : decode cX2_totalAt 42 = .ok (.iload_n 1, 1) := by decide +kernel
theorem dX2_totalAt_43 : decode cX2_totalAt 43 = .ok (.iload 5, 2) := by decide +kernel
theorem dX2_totalAt_45 : decode cX2_totalAt 45 = .ok (.invokestatic 60, 3) := by decide +kernel
theorem dX2_totalAt_48 : decode cX2_totalAt 48 = .ok (.iaload, 1) := by decide +kernel
theorem dX2_totalAt_49 : decode cX2_totalAt 49 = .ok (.goto 4, 3) := by decide +kernel
theorem dX2_totalAt_52 : decode cX2_totalAt 52 = .ok (.iconst 1, 1) := by decide +kernel
theorem dX2_totalAt_53 : decode cX2_totalAt 53 = .ok (.iadd, 1) := by decide +kernel
theorem dX2_totalAt_54 : decode cX2_totalAt 54 = .ok (.istore 4, 2) := by decide +kernel
theorem dX2_totalAt_56 : decode cX2_totalAt 56 = .ok (.iinc 5 1, 3) := by decide +kernel
theorem dX2_totalAt_59 : decode cX2_totalAt 59 = .ok (.goto (-53), 3) := by decide +kernel
theorem dX2_totalAt_62 : decode cX2_totalAt 62 = .ok (.iload 4, 2) := by decide +kernel
theorem dX2_totalAt_64 : decode cX2_totalAt 64 = .ok (.ireturn, 1) := by decide +kernel
theorem dX2_total_0 : decode cX2_total 0 = .ok (.iconst 0, 1) := by decide +kernel
theorem dX2_total_1 : decode cX2_total 1 = .ok (.istore 5, 2) := by decide +kernel
theorem dX2_total_3 : decode cX2_total 3 = .ok (.iload_n 3, 1) := by decide +kernel
theorem dX2_total_4 : decode cX2_total 4 = .ok (.aload_n 0, 1) := by decide +kernel
theorem dX2_total_5 : decode cX2_total 5 = .ok (.getfield 21, 3) := by decide +kernel
theorem dX2_total_8 : decode cX2_total 8 = .ok (.invokestatic 93, 3) := by decide +kernel
theorem dX2_total_11 : decode cX2_total 11 = .ok (.istore 6, 2) := by decide +kernel
theorem dX2_total_13 : decode cX2_total 13 = .ok (.iload_n 2, 1) := by decide +kernel
theorem dX2_total_14 : decode cX2_total 14 = .ok (.iconst 0, 1) := by decide +kernel
theorem dX2_total_15 : decode cX2_total 15 = .ok (.invokestatic 98, 3) := by decide +kernel
theorem dX2_total_18 : decode cX2_total 18 = .ok (.istore 7, 2) := by decide +kernel
theorem dX2_total_20 : decode cX2_total 20 = .ok (.iload 7, 2) := by decide +kernel
theorem dX2_total_22 : decode cX2_total 22 = .ok (.iload 6, 2) := by decide +kernel
theorem dX2_total_24 : decode cX2_total 24 = .ok (.if_icmp .ge 28, 3) := by decide +kernel
theorem dX2_total_27 : decode cX2_total 27 = .ok (.iload 5, 2) := by decide +kernel
theorem dX2_total_29 : decode cX2_total 29 = .ok (.aload_n 0, 1) := by decide +kernel
theorem dX2_total_30 : decode cX2_total 30 = .ok (.aload_n 0, 1) := by decide +kernel
theorem dX2_total_31 : decode cX2_total 31 = .ok (.getfield 15, 3) := by decide +kernel
theorem dX2_total_34 : decode cX2_total 34 = .ok (.iload 7, 2) := by decide +kernel
theorem dX2_total_36 : decode cX2_total 36 = .ok (.iaload, 1) := by decide +kernel
theorem dX2_total_37 : decode cX2_total 37 = .ok (.iload_n 1, 1) := by decide +kernel
theorem dX2_total_38 : decode cX2_total 38 = .ok (.iload 4, 2) := by decide +kernel
theorem dX2_total_40 : decode cX2_total 40 = .ok (.invokevirtual 101, 3) := by decide +kernel
theorem dX2_total_43 : decode cX2_total 43 = .ok (.iadd, 1) := by decide +kernel
theorem dX2_total_44 : decode cX2_total 44 = .ok (.istore 5, 2) := by decide +kernel
theorem dX2_total_46 : decode cX2_total 46 = .ok (.iinc 7 1, 3) := by decide +kernel
theorem dX2_total_49 : decode cX2_total 49 = .ok (.goto (-29), 3) := by decide +kernel
theorem dX2_total_52 : decode cX2_total 52 = .ok (.iload 5, 2) := by decide +kernel
theorem dX2_total_54 : decode cX2_total 54 = .ok (.ireturn, 1) := by decide +kernel
theorem dX1_change_0 : decode cX1_change 0 = .ok (.iconst 0, 1) := by decide +kernel
theorem dX1_change_1 : decode cX1_change 1 = .ok (.istore_n 2, 1) := by decide +kernel
theorem dX1_change_2 : decode cX1_change 2 = .ok (.iconst 0, 1) := by decide +kernel
theorem dX1_change_3 : decode cX1_change 3 = .ok (.istore_n 3, 1) := by decide +kernel
theorem dX1_change_4 : decode cX1_change 4 = .ok (.iload_n 3, 1) := by decide +kernel
theorem dX1_change_5 : decode cX1_change 5 = .ok (.aload_n 0, 1) := by decide +kernel
theorem dX1_change_6 : decode cX1_change 6 = .ok (.getfield 18, 3) := by decide +kernel
theorem dX1_change_9 : decode cX1_change 9 = .ok (.if_icmp .ge 28, 3) := by decide +kernel
theorem dX1_change_12 : decode cX1_change 12 = .ok (.aload_n 0, 1) := by decide +kernel
theorem dX1_change_13 : decode cX1_change 13 = .ok (.getfield 9, 3) := by decide +kernel
theorem dX1_change_16 : decode cX1_change 16 = .ok (.iload_n 3, 1) := by decide +kernel
theorem dX1_change_17 : decode cX1_change 17 = .ok (.iaload, 1) := by decide +kernel
theorem dX1_change_18 : decode cX1_change 18 = .ok (.iload_n 1, 1) := by decide +kernel
theorem dX1_change_19 : decode cX1_change 19 = .ok (.if_icmp .ne 12, 3) := by decide +kernel
theorem dX1_change_22 : decode cX1_change 22 = .ok (.iload_n 2, 1) := by decide +kernel
theorem dX1_change_23 : decode cX1_change 23 = .ok (.aload_n 0, 1) := by decide +kernel
theorem dX1_change_24 : decode cX1_change 24 = .ok (.getfield 15, 3) := by decide +kernel
theorem dX1_change_27 : decode cX1_change 27 = .ok (.iload_n 3, 1) := by decide +kernel
theorem dX1_change_28 : decode cX1_change 28 = .ok (.iaload, 1) := by decide +kernel
theorem dX1_change_29 : decode cX1_change 29 = .ok (.iadd, 1) := by decide +kernel
theorem dX1_change_30 : decode cX1_change 30 = .ok (.istore_n 2, 1) := by decide +kernel
theorem dX1_change_31 : decode cX1_change 31 = .ok (.iinc 3 1, 3) := by decide +kernel
theorem dX1_change_34 : decode cX1_change 34 = .ok (.goto (-30), 3) := by decide +kernel
theorem dX1_change_37 : decode cX1_change 37 = .ok (.iload_n 2, 1) := by decide +kernel
theorem dX1_change_38 : decode cX1_change 38 = .ok (.ireturn, 1) := by decide +kernel
theorem dX5_isPoor_0 : decode cX5_isPoor 0 = .ok (.iconst 0, 1) := by decide +kernel
theorem dX5_isPoor_1 : decode cX5_isPoor 1 = .ok (.istore_n 1, 1) := by decide +kernel
theorem dX5_isPoor_2 : decode cX5_isPoor 2 = .ok (.iload_n 1, 1) := by decide +kernel
theorem dX5_isPoor_3 : decode cX5_isPoor 3 = .ok (.aload_n 0, 1) := by decide +kernel
theorem dX5_isPoor_4 : decode cX5_isPoor 4 = .ok (.getfield 16, 3) := by decide +kernel
theorem dX5_isPoor_7 : decode cX5_isPoor 7 = .ok (.invokevirtual 157, 3) := by decide +kernel
theorem dX5_isPoor_10 : decode cX5_isPoor 10 = .ok (.if_icmp .ge 58, 3) := by decide +kernel
theorem dX5_isPoor_13 : decode cX5_isPoor 13 = .ok (.aload_n 0, 1) := by decide +kernel
theorem dX5_isPoor_14 : decode cX5_isPoor 14 = .ok (.getfield 16, 3) := by decide +kernel
theorem dX5_isPoor_17 : decode cX5_isPoor 17 = .ok (.iload_n 1, 1) := by decide +kernel
theorem dX5_isPoor_18 : decode cX5_isPoor 18 = .ok (.invokevirtual 158, 3) := by decide +kernel
theorem dX5_isPoor_21 : decode cX5_isPoor 21 = .ok (.istore_n 2, 1) := by decide +kernel
theorem dX5_isPoor_22 : decode cX5_isPoor 22 = .ok (.aload_n 0, 1) := by decide +kernel
theorem dX5_isPoor_23 : decode cX5_isPoor 23 = .ok (.getfield 23, 3) := by decide +kernel
theorem dX5_isPoor_26 : decode cX5_isPoor 26 = .ok (.iload_n 2, 1) := by decide +kernel
theorem dX5_isPoor_27 : decode cX5_isPoor 27 = .ok (.iconst 0, 1) := by decide +kernel
theorem dX5_isPoor_28 : decode cX5_isPoor 28 = .ok (.aload_n 0, 1) := by decide +kernel
theorem dX5_isPoor_29 : decode cX5_isPoor 29 = .ok (.getfield 23, 3) := by decide +kernel
theorem dX5_isPoor_32 : decode cX5_isPoor 32 = .ok (.invokevirtual 99, 3) := by decide +kernel
theorem dX5_isPoor_35 : decode cX5_isPoor 35 = .ok (.iconst 1, 1) := by decide +kernel
theorem dX5_isPoor_36 : decode cX5_isPoor 36 = .ok (.invokevirtual 105, 3) := by decide +kernel
theorem dX5_isPoor_39 : decode cX5_isPoor 39 = .ok (.aload_n 0, 1) := by decide +kernel
theorem dX5_isPoor_40 : decode cX5_isPoor 40 = .ok (.getfield 16, 3) := by decide +kernel
theorem dX5_isPoor_43 : decode cX5_isPoor 43 = .ok (.iload_n 2, 1) := by decide +kernel
theorem dX5_isPoor_44 : decode cX5_isPoor 44 = .ok (.invokevirtual 161, 3) := by decide +kernel
theorem dX5_isPoor_47 : decode cX5_isPoor 47 = .ok (.iadd, 1) := by decide +kernel
theorem dX5_isPoor_48 : decode cX5_isPoor 48 = .ok (.istore_n 3, 1) := by decide +kernel
theorem dX5_isPoor_49 : decode cX5_isPoor 49 = .ok (.iload_n 3, 1) := by decide +kernel
theorem dX5_isPoor_50 : decode cX5_isPoor 50 = .ok (.aload_n 0, 1) := by decide +kernel
theorem dX5_isPoor_51 : decode cX5_isPoor 51 = .ok (.getfield 9, 3) := by decide +kernel
theorem dX5_isPoor_54 : decode cX5_isPoor 54 = .ok (.iload_n 2, 1) := by decide +kernel
theorem dX5_isPoor_55 : decode cX5_isPoor 55 = .ok (.iaload, 1) := by decide +kernel
theorem dX5_isPoor_56 : decode cX5_isPoor 56 = .ok (.ineg, 1) := by decide +kernel
theorem dX5_isPoor_57 : decode cX5_isPoor 57 = .ok (.if_icmp .ge 5, 3) := by decide +kernel
theorem dX5_isPoor_60 : decode cX5_isPoor 60 = .ok (.iconst 1, 1) := by decide +kernel
theorem dX5_isPoor_61 : decode cX5_isPoor 61 = .ok (.ireturn, 1) := by decide +kernel
theorem dX5_isPoor_62 : decode cX5_isPoor 62 = .ok (.iinc 1 1, 3) := by decide +kernel
theorem dX5_isPoor_65 : decode cX5_isPoor 65 = .ok (.goto (-63), 3) := by decide +kernel
theorem dX5_isPoor_68 : decode cX5_isPoor 68 = .ok (.iconst 0, 1) := by decide +kernel
theorem dX5_isPoor_69 : decode cX5_isPoor 69 = .ok (.ireturn, 1) := by decide +kernel
theorem dX5_entryCells_0 : decode cX5_entryCells 0 = .ok (.iconst 3, 1) := by decide +kernel
theorem dX5_entryCells_1 : decode cX5_entryCells 1 = .ok (.iconst 2, 1) := by decide +kernel
theorem dX5_entryCells_2 : decode cX5_entryCells 2 = .ok (.iload_n 0, 1) := by decide +kernel
theorem dX5_entryCells_3 : decode cX5_entryCells 3 = .ok (.imul, 1) := by decide +kernel
theorem dX5_entryCells_4 : decode cX5_entryCells 4 = .ok (.iadd, 1) := by decide +kernel
theorem dX5_entryCells_5 : decode cX5_entryCells 5 = .ok (.ireturn, 1) := by decide +kernel
theorem dX1_amountAt_0 : decode cX1_amountAt 0 = .ok (.iload_n 1, 1) := by decide +kernel
theorem dX1_amountAt_1 : decode cX1_amountAt 1 = .ok (.ifCond .lt 20, 3) := by decide +kernel
theorem dX1_amountAt_4 : decode cX1_amountAt 4 = .ok (.iload_n 1, 1) := by decide +kernel
theorem dX1_amountAt_5 : decode cX1_amountAt 5 = .ok (.aload_n 0, 1) := by decide +kernel
theorem dX1_amountAt_6 : decode cX1_amountAt 6 = .ok (.getfield 18, 3) := by decide +kernel
theorem dX1_amountAt_9 : decode cX1_amountAt 9 = .ok (.if_icmp .ge 12, 3) := by decide +kernel
theorem dX1_amountAt_12 : decode cX1_amountAt 12 = .ok (.aload_n 0, 1) := by decide +kernel
theorem dX1_amountAt_13 : decode cX1_amountAt 13 = .ok (.getfield 15, 3) := by decide +kernel
theorem dX1_amountAt_16 : decode cX1_amountAt 16 = .ok (.iload_n 1, 1) := by decide +kernel
theorem dX1_amountAt_17 : decode cX1_amountAt 17 = .ok (.iaload, 1) := by decide +kernel
theorem dX1_amountAt_18 : decode cX1_amountAt 18 = .ok (.goto 4, 3) := by decide +kernel
theorem dX1_amountAt_21 : decode cX1_amountAt 21 = .ok (.iconst 0, 1) := by decide +kernel
theorem dX1_amountAt_22 : decode cX1_amountAt 22 = .ok (.ireturn, 1) := by decide +kernel
theorem dX2_sealCell_0 : decode cX2_sealCell 0 = .ok (.iload_n 1, 1) := by decide +kernel
theorem dX2_sealCell_1 : decode cX2_sealCell 1 = .ok (.aload_n 0, 1) := by decide +kernel
theorem dX2_sealCell_2 : decode cX2_sealCell 2 = .ok (.getfield 9, 3) := by decide +kernel
theorem dX2_sealCell_5 : decode cX2_sealCell 5 = .ok (.iload_n 1, 1) := by decide +kernel
theorem dX2_sealCell_6 : decode cX2_sealCell 6 = .ok (.iaload, 1) := by decide +kernel
theorem dX2_sealCell_7 : decode cX2_sealCell 7 = .ok (.invokestatic 50, 3) := by decide +kernel
theorem dX2_sealCell_10 : decode cX2_sealCell 10 = .ok (.iadd, 1) := by decide +kernel
theorem dX2_sealCell_11 : decode cX2_sealCell 11 = .ok (.iconst 1, 1) := by decide +kernel
theorem dX2_sealCell_12 : decode cX2_sealCell 12 = .ok (.isub, 1) := by decide +kernel
theorem dX2_sealCell_13 : decode cX2_sealCell 13 = .ok (.ireturn, 1) := by decide +kernel
theorem dX2_lastSeal_0 : decode cX2_lastSeal 0 = .ok (.aload_n 0, 1) := by decide +kernel
theorem dX2_lastSeal_1 : decode cX2_lastSeal 1 = .ok (.getfield 28, 3) := by decide +kernel
theorem dX2_lastSeal_4 : decode cX2_lastSeal 4 = .ok (.ifCond .le 17, 3) := by decide +kernel
theorem dX2_lastSeal_7 : decode cX2_lastSeal 7 = .ok (.aload_n 0, 1) := by decide +kernel
theorem dX2_lastSeal_8 : decode cX2_lastSeal 8 = .ok (.getfield 9, 3) := by decide +kernel
theorem dX2_lastSeal_11 : decode cX2_lastSeal 11 = .ok (.aload_n 0, 1) := by decide +kernel
theorem dX2_lastSeal_12 : decode cX2_lastSeal 12 = .ok (.getfield 28, 3) := by decide +kernel
theorem dX2_lastSeal_15 : decode cX2_lastSeal 15 = .ok (.iconst 1, 1) := by decide +kernel
theorem dX2_lastSeal_16 : decode cX2_lastSeal 16 = .ok (.isub, 1) := by decide +kernel
theorem dX2_lastSeal_17 : decode cX2_lastSeal 17 = .ok (.iaload, 1) := by decide +kernel
theorem dX2_lastSeal_18 : decode cX2_lastSeal 18 = .ok (.goto 4, 3) := by decide +kernel
theorem dX2_lastSeal_21 : decode cX2_lastSeal 21 = .ok (.iconst 0, 1) := by decide +kernel
theorem dX2_lastSeal_22 : decode cX2_lastSeal 22 = .ok (.ireturn, 1) := by decide +kernel
theorem dX5_mix_0 : decode cX5_mix 0 = .ok (.iload_n 0, 1) := by decide +kernel
theorem dX5_mix_1 : decode cX5_mix 1 = .ok (.ldc 172, 2) := by decide +kernel
theorem dX5_mix_3 : decode cX5_mix 3 = .ok (.imul, 1) := by decide +kernel
theorem dX5_mix_4 : decode cX5_mix 4 = .ok (.iload_n 1, 1) := by decide +kernel
theorem dX5_mix_5 : decode cX5_mix 5 = .ok (.iadd, 1) := by decide +kernel
theorem dX5_mix_6 : decode cX5_mix 6 = .ok (.istore_n 2, 1) := by decide +kernel
theorem dX5_mix_7 : decode cX5_mix 7 = .ok (.iload_n 2, 1) := by decide +kernel
theorem dX5_mix_8 : decode cX5_mix 8 = .ok (.iload_n 2, 1) := by decide +kernel
theorem dX5_mix_9 : decode cX5_mix 9 = .ok (.bipush 15, 2) := by decide +kernel
theorem dX5_mix_11 : decode cX5_mix 11 = .ok (.iushr, 1) := by decide +kernel
theorem dX5_mix_12 : decode cX5_mix 12 = .ok (.ixor, 1) := by decide +kernel
theorem dX5_mix_13 : decode cX5_mix 13 = .ok (.ldc 173, 2) := by decide +kernel
theorem dX5_mix_15 : decode cX5_mix 15 = .ok (.imul, 1) := by decide +kernel
theorem dX5_mix_16 : decode cX5_mix 16 = .ok (.istore_n 3, 1) := by decide +kernel
theorem dX5_mix_17 : decode cX5_mix 17 = .ok (.iload_n 3, 1) := by decide +kernel
theorem dX5_mix_18 : decode cX5_mix 18 = .ok (.iload_n 3, 1) := by decide +kernel
theorem dX5_mix_19 : decode cX5_mix 19 = .ok (.bipush 12, 2) := by decide +kernel
theorem dX5_mix_21 : decode cX5_mix 21 = .ok (.iushr, 1) := by decide +kernel
theorem dX5_mix_22 : decode cX5_mix 22 = .ok (.ixor, 1) := by decide +kernel
theorem dX5_mix_23 : decode cX5_mix 23 = .ok (.ireturn, 1) := by decide +kernel
theorem dX2_leafFrom_0 : decode cX2_leafFrom 0 = .ok (.iconst 0, 1) := by decide +kernel
theorem dX2_leafFrom_1 : decode cX2_leafFrom 1 = .ok (.aload_n 0, 1) := by decide +kernel
theorem dX2_leafFrom_2 : decode cX2_leafFrom 2 = .ok (.getfield 9, 3) := by decide +kernel
theorem dX2_leafFrom_5 : decode cX2_leafFrom 5 = .ok (.iload_n 1, 1) := by decide +kernel
theorem dX2_leafFrom_6 : decode cX2_leafFrom 6 = .ok (.iconst 1, 1) := by decide +kernel
theorem dX2_leafFrom_7 : decode cX2_leafFrom 7 = .ok (.iadd, 1) := by decide +kernel
theorem dX2_leafFrom_8 : decode cX2_leafFrom 8 = .ok (.iaload, 1) := by decide +kernel
theorem dX2_leafFrom_9 : decode cX2_leafFrom 9 = .ok (.invokestatic 75, 3) := by decide +kernel
theorem dX2_leafFrom_12 : decode cX2_leafFrom 12 = .ok (.istore_n 2, 1) := by decide +kernel
theorem dX2_leafFrom_13 : decode cX2_leafFrom 13 = .ok (.iconst 0, 1) := by decide +kernel
theorem dX2_leafFrom_14 : decode cX2_leafFrom 14 = .ok (.istore_n 3, 1) := by decide +kernel
theorem dX2_leafFrom_15 : decode cX2_leafFrom 15 = .ok (.iload_n 3, 1) := by decide +kernel
theorem dX2_leafFrom_16 : decode cX2_leafFrom 16 = .ok (.aload_n 0, 1) := by decide +kernel
theorem dX2_leafFrom_17 : decode cX2_leafFrom 17 = .ok (.getfield 9, 3) := by decide +kernel
theorem dX2_leafFrom_20 : decode cX2_leafFrom 20 = .ok (.iload_n 1, 1) := by decide +kernel
theorem dX2_leafFrom_21 : decode cX2_leafFrom 21 = .ok (.iaload, 1) := by decide +kernel
theorem dX2_leafFrom_22 : decode cX2_leafFrom 22 = .ok (.if_icmp .ge 38, 3) := by decide +kernel
theorem dX2_leafFrom_25 : decode cX2_leafFrom 25 = .ok (.iload_n 2, 1) := by decide +kernel
theorem dX2_leafFrom_26 : decode cX2_leafFrom 26 = .ok (.bipush 16, 2) := by decide +kernel
theorem dX2_leafFrom_28 : decode cX2_leafFrom 28 = .ok (.aload_n 0, 1) := by decide +kernel
theorem dX2_leafFrom_29 : decode cX2_leafFrom 29 = .ok (.getfield 9, 3) := by decide +kernel
theorem dX2_leafFrom_32 : decode cX2_leafFrom 32 = .ok (.iload_n 1, 1) := by decide +kernel
theorem dX2_leafFrom_33 : decode cX2_leafFrom 33 = .ok (.iload_n 3, 1) := by decide +kernel
theorem dX2_leafFrom_34 : decode cX2_leafFrom 34 = .ok (.invokestatic 60, 3) := by decide +kernel
theorem dX2_leafFrom_37 : decode cX2_leafFrom 37 = .ok (.iaload, 1) := by decide +kernel
theorem dX2_leafFrom_38 : decode cX2_leafFrom 38 = .ok (.imul, 1) := by decide +kernel
theorem dX2_leafFrom_39 : decode cX2_leafFrom 39 = .ok (.aload_n 0, 1) := by decide +kernel
theorem dX2_leafFrom_40 : decode cX2_leafFrom 40 = .ok (.getfield 9, 3) := by decide +kernel
theorem dX2_leafFrom_43 : decode cX2_leafFrom 43 = .ok (.iload_n 1, 1) := by decide +kernel
theorem dX2_leafFrom_44 : decode cX2_leafFrom 44 = .ok (.iload_n 3, 1) := by decide +kernel
theorem dX2_leafFrom_45 : decode cX2_leafFrom 45 = .ok (.invokestatic 53, 3) := by decide +kernel
theorem dX2_leafFrom_48 : decode cX2_leafFrom 48 = .ok (.iaload, 1) := by decide +kernel
theorem dX2_leafFrom_49 : decode cX2_leafFrom 49 = .ok (.iadd, 1) := by decide +kernel
theorem dX2_leafFrom_50 : decode cX2_leafFrom 50 = .ok (.invokestatic 75, 3) := by decide +kernel
theorem dX2_leafFrom_53 : decode cX2_leafFrom 53 = .ok (.istore_n 2, 1) := by decide +kernel
theorem dX2_leafFrom_54 : decode cX2_leafFrom 54 = .ok (.iinc 3 1, 3) := by decide +kernel
theorem dX2_leafFrom_57 : decode cX2_leafFrom 57 = .ok (.goto (-42), 3) := by decide +kernel
theorem dX2_leafFrom_60 : decode cX2_leafFrom 60 = .ok (.iload_n 2, 1) := by decide +kernel
theorem dX2_leafFrom_61 : decode cX2_leafFrom 61 = .ok (.ireturn, 1) := by decide +kernel
theorem dX2_acceptNext_0 : decode cX2_acceptNext 0 = .ok (.aload_n 0, 1) := by decide +kernel
theorem dX2_acceptNext_1 : decode cX2_acceptNext 1 = .ok (.getfield 15, 3) := by decide +kernel
theorem dX2_acceptNext_4 : decode cX2_acceptNext 4 = .ok (.aload_n 0, 1) := by decide +kernel
theorem dX2_acceptNext_5 : decode cX2_acceptNext 5 = .ok (.getfield 21, 3) := by decide +kernel
theorem dX2_acceptNext_8 : decode cX2_acceptNext 8 = .ok (.aload_n 0, 1) := by decide +kernel
theorem dX2_acceptNext_9 : decode cX2_acceptNext 9 = .ok (.getfield 28, 3) := by decide +kernel
theorem dX2_acceptNext_12 : decode cX2_acceptNext 12 = .ok (.iastore, 1) := by decide +kernel
theorem dX2_acceptNext_13 : decode cX2_acceptNext 13 = .ok (.aload_n 0, 1) := by decide +kernel
theorem dX2_acceptNext_14 : decode cX2_acceptNext 14 = .ok (.getfield 18, 3) := by decide +kernel
theorem dX2_acceptNext_17 : decode cX2_acceptNext 17 = .ok (.aload_n 0, 1) := by decide +kernel
theorem dX2_acceptNext_18 : decode cX2_acceptNext 18 = .ok (.getfield 21, 3) := by decide +kernel
theorem dX2_acceptNext_21 : decode cX2_acceptNext 21 = .ok (.aload_n 0, 1) := by decide +kernel
theorem dX2_acceptNext_22 : decode cX2_acceptNext 22 = .ok (.aload_n 0, 1) := by decide +kernel
theorem dX2_acceptNext_23 : decode cX2_acceptNext 23 = .ok (.getfield 28, 3) := by decide +kernel
theorem dX2_acceptNext_26 : decode cX2_acceptNext 26 = .ok (.invokevirtual 72, 3) := by decide +kernel
theorem dX2_acceptNext_29 : decode cX2_acceptNext 29 = .ok (.iastore, 1) := by decide +kernel
theorem dX2_acceptNext_30 : decode cX2_acceptNext 30 = .ok (.aload_n 0, 1) := by decide +kernel
theorem dX2_acceptNext_31 : decode cX2_acceptNext 31 = .ok (.dup, 1) := by decide +kernel
theorem dX2_acceptNext_32 : decode cX2_acceptNext 32 = .ok (.getfield 21, 3) := by decide +kernel
theorem dX2_acceptNext_35 : decode cX2_acceptNext 35 = .ok (.iconst 1, 1) := by decide +kernel
theorem dX2_acceptNext_36 : decode cX2_acceptNext 36 = .ok (.iadd, 1) := by decide +kernel
theorem dX2_acceptNext_37 : decode cX2_acceptNext 37 = .ok (.putfield 21, 3) := by decide +kernel
theorem dX2_acceptNext_40 : decode cX2_acceptNext 40 = .ok (.aload_n 0, 1) := by decide +kernel
theorem dX2_acceptNext_41 : decode cX2_acceptNext 41 = .ok (.dup, 1) := by decide +kernel
theorem dX2_acceptNext_42 : decode cX2_acceptNext 42 = .ok (.getfield 28, 3) := by decide +kernel
theorem dX2_acceptNext_45 : decode cX2_acceptNext 45 = .ok (.aload_n 0, 1) := by decide +kernel
theorem dX2_acceptNext_46 : decode cX2_acceptNext 46 = .ok (.getfield 9, 3) := by decide +kernel
theorem dX2_acceptNext_49 : decode cX2_acceptNext 49 = .ok (.aload_n 0, 1) := by decide +kernel
theorem dX2_acceptNext_50 : decode cX2_acceptNext 50 = .ok (.getfield 28, 3) := by decide +kernel
theorem dX2_acceptNext_53 : decode cX2_acceptNext 53 = .ok (.iaload, 1) := by decide +kernel
theorem dX2_acceptNext_54 : decode cX2_acceptNext 54 = .ok (.invokestatic 50, 3) := by decide +kernel
theorem dX2_acceptNext_57 : decode cX2_acceptNext 57 = .ok (.iadd, 1) := by decide +kernel
theorem dX2_acceptNext_58 : decode cX2_acceptNext 58 = .ok (.putfield 28, 3) := by decide +kernel
theorem dX2_acceptNext_61 : decode cX2_acceptNext 61 = .ok (.return_, 1) := by decide +kernel
theorem dX2_append_0 : decode cX2_append 0 = .ok (.aload_n 2, 1) := by decide +kernel
theorem dX2_append_1 : decode cX2_append 1 = .ok (.invokevirtual 44, 3) := by decide +kernel
theorem dX2_append_4 : decode cX2_append 4 = .ok (.istore_n 3, 1) := by decide +kernel
theorem dX2_append_5 : decode cX2_append 5 = .ok (.aload_n 0, 1) := by decide +kernel
theorem dX2_append_6 : decode cX2_append 6 = .ok (.getfield 21, 3) := by decide +kernel
theorem dX2_append_9 : decode cX2_append 9 = .ok (.bipush 73, 2) := by decide +kernel
theorem dX2_append_11 : decode cX2_append 11 = .ok (.if_icmp .ge 18, 3) := by decide +kernel
theorem dX2_append_14 : decode cX2_append 14 = .ok (.aload_n 0, 1) := by decide +kernel
theorem dX2_append_15 : decode cX2_append 15 = .ok (.getfield 28, 3) := by decide +kernel
theorem dX2_append_18 : decode cX2_append 18 = .ok (.iload_n 3, 1) := by decide +kernel
theorem dX2_append_19 : decode cX2_append 19 = .ok (.invokestatic 50, 3) := by decide +kernel
theorem dX2_append_22 : decode cX2_append 22 = .ok (.iadd, 1) := by decide +kernel
theorem dX2_append_23 : decode cX2_append 23 = .ok (.sipush 512, 3) := by decide +kernel
theorem dX2_append_26 : decode cX2_append 26 = .ok (.if_icmp .le 5, 3) := by decide +kernel
theorem dX2_append_29 : decode cX2_append 29 = .ok (.iconst 0, 1) := by decide +kernel
theorem dX2_append_30 : decode cX2_append 30 = .ok (.ireturn, 1) := by decide +kernel
theorem dX2_append_31 : decode cX2_append 31 = .ok (.aload_n 0, 1) := by decide +kernel
theorem dX2_append_32 : decode cX2_append 32 = .ok (.getfield 9, 3) := by decide +kernel
theorem dX2_append_35 : decode cX2_append 35 = .ok (.aload_n 0, 1) := by decide +kernel
theorem dX2_append_36 : decode cX2_append 36 = .ok (.getfield 28, 3) := by decide +kernel
theorem dX2_append_39 : decode cX2_append 39 = .ok (.iload_n 3, 1) := by decide +kernel
theorem dX2_append_40 : decode cX2_append 40 = .ok (.iastore, 1) := by decide +kernel
theorem dX2_append_41 : decode cX2_append 41 = .ok (.aload_n 0, 1) := by decide +kernel
theorem dX2_append_42 : decode cX2_append 42 = .ok (.getfield 9, 3) := by decide +kernel
theorem dX2_append_45 : decode cX2_append 45 = .ok (.aload_n 0, 1) := by decide +kernel
theorem dX2_append_46 : decode cX2_append 46 = .ok (.getfield 28, 3) := by decide +kernel
theorem dX2_append_49 : decode cX2_append 49 = .ok (.iconst 1, 1) := by decide +kernel
theorem dX2_append_50 : decode cX2_append 50 = .ok (.iadd, 1) := by decide +kernel
theorem dX2_append_51 : decode cX2_append 51 = .ok (.iload_n 1, 1) := by decide +kernel
theorem dX2_append_52 : decode cX2_append 52 = .ok (.iastore, 1) := by decide +kernel
theorem dX2_append_53 : decode cX2_append 53 = .ok (.iconst 0, 1) := by decide +kernel
theorem dX2_append_54 : decode cX2_append 54 = .ok (.istore 4, 2) := by decide +kernel
theorem dX2_append_56 : decode cX2_append 56 = .ok (.iload 4, 2) := by decide +kernel
theorem dX2_append_58 : decode cX2_append 58 = .ok (.iload_n 3, 1) := by decide +kernel
theorem dX2_append_59 : decode cX2_append 59 = .ok (.if_icmp .ge 49, 3) := by decide +kernel
theorem dX2_append_62 : decode cX2_append 62 = .ok (.aload_n 0, 1) := by decide +kernel
theorem dX2_append_63 : decode cX2_append 63 = .ok (.getfield 9, 3) := by decide +kernel
theorem dX2_append_66 : decode cX2_append 66 = .ok (.aload_n 0, 1) := by decide +kernel
theorem dX2_append_67 : decode cX2_append 67 = .ok (.getfield 28, 3) := by decide +kernel
theorem dX2_append_70 : decode cX2_append 70 = .ok (.iload 4, 2) := by decide +kernel
theorem dX2_append_72 : decode cX2_append 72 = .ok (.invokestatic 53, 3) := by decide +kernel
theorem dX2_append_75 : decode cX2_append 75 = .ok (.aload_n 2, 1) := by decide +kernel
theorem dX2_append_76 : decode cX2_append 76 = .ok (.iload 4, 2) := by decide +kernel
theorem dX2_append_78 : decode cX2_append 78 = .ok (.invokevirtual 57, 3) := by decide +kernel
theorem dX2_append_81 : decode cX2_append 81 = .ok (.iastore, 1) := by decide +kernel
theorem dX2_append_82 : decode cX2_append 82 = .ok (.aload_n 0, 1) := by decide +kernel
theorem dX2_append_83 : decode cX2_append 83 = .ok (.getfield 9, 3) := by decide +kernel
theorem dX2_append_86 : decode cX2_append 86 = .ok (.aload_n 0, 1) := by decide +kernel
theorem dX2_append_87 : decode cX2_append 87 = .ok (.getfield 28, 3) := by decide +kernel
theorem dX2_append_90 : decode cX2_append 90 = .ok (.iload 4, 2) := by decide +kernel
theorem dX2_append_92 : decode cX2_append 92 = .ok (.invokestatic 60, 3) := by decide +kernel
theorem dX2_append_95 : decode cX2_append 95 = .ok (.aload_n 2, 1) := by decide +kernel
theorem dX2_append_96 : decode cX2_append 96 = .ok (.iload 4, 2) := by decide +kernel
theorem dX2_append_98 : decode cX2_append 98 = .ok (.invokevirtual 63, 3) := by decide +kernel
theorem dX2_append_101 : decode cX2_append 101 = .ok (.iastore, 1) := by decide +kernel
theorem dX2_append_102 : decode cX2_append 102 = .ok (.iinc 4 1, 3) := by decide +kernel
theorem dX2_append_105 : decode cX2_append 105 = .ok (.goto (-49), 3) := by decide +kernel
theorem dX2_append_108 : decode cX2_append 108 = .ok (.aload_n 0, 1) := by decide +kernel
theorem dX2_append_109 : decode cX2_append 109 = .ok (.getfield 9, 3) := by decide +kernel
theorem dX2_append_112 : decode cX2_append 112 = .ok (.aload_n 0, 1) := by decide +kernel
theorem dX2_append_113 : decode cX2_append 113 = .ok (.aload_n 0, 1) := by decide +kernel
theorem dX2_append_114 : decode cX2_append 114 = .ok (.getfield 28, 3) := by decide +kernel
theorem dX2_append_117 : decode cX2_append 117 = .ok (.invokevirtual 66, 3) := by decide +kernel
theorem dX2_append_120 : decode cX2_append 120 = .ok (.aload_n 0, 1) := by decide +kernel
theorem dX2_append_121 : decode cX2_append 121 = .ok (.invokevirtual 69, 3) := by decide +kernel
theorem dX2_append_124 : decode cX2_append 124 = .ok (.aload_n 0, 1) := by decide +kernel
theorem dX2_append_125 : decode cX2_append 125 = .ok (.aload_n 0, 1) := by decide +kernel
theorem dX2_append_126 : decode cX2_append 126 = .ok (.getfield 28, 3) := by decide +kernel
theorem dX2_append_129 : decode cX2_append 129 = .ok (.invokevirtual 72, 3) := by decide +kernel
theorem dX2_append_132 : decode cX2_append 132 = .ok (.invokestatic 75, 3) := by decide +kernel
theorem dX2_append_135 : decode cX2_append 135 = .ok (.iastore, 1) := by decide +kernel
theorem dX2_append_136 : decode cX2_append 136 = .ok (.aload_n 0, 1) := by decide +kernel
theorem dX2_append_137 : decode cX2_append 137 = .ok (.invokevirtual 78, 3) := by decide +kernel
theorem dX2_append_140 : decode cX2_append 140 = .ok (.iconst 1, 1) := by decide +kernel
theorem dX2_append_141 : decode cX2_append 141 = .ok (.ireturn, 1) := by decide +kernel
theorem dX5_commitNew_0 : decode cX5_commitNew 0 = .ok (.aload_n 0, 1) := by decide +kernel
theorem dX5_commitNew_1 : decode cX5_commitNew 1 = .ok (.invokevirtual 150, 3) := by decide +kernel
theorem dX5_commitNew_4 : decode cX5_commitNew 4 = .ok (.ifCond .eq 6, 3) := by decide +kernel
theorem dX5_commitNew_7 : decode cX5_commitNew 7 = .ok (.bipush (-5), 2) := by decide +kernel
theorem dX5_commitNew_9 : decode cX5_commitNew 9 = .ok (.ireturn, 1) := by decide +kernel
theorem dX5_commitNew_10 : decode cX5_commitNew 10 = .ok (.aload_n 0, 1) := by decide +kernel
theorem dX5_commitNew_11 : decode cX5_commitNew 11 = .ok (.getfield 23, 3) := by decide +kernel
theorem dX5_commitNew_14 : decode cX5_commitNew 14 = .ok (.iload_n 1, 1) := by decide +kernel
theorem dX5_commitNew_15 : decode cX5_commitNew 15 = .ok (.aload_n 0, 1) := by decide +kernel
theorem dX5_commitNew_16 : decode cX5_commitNew 16 = .ok (.getfield 16, 3) := by decide +kernel
theorem dX5_commitNew_19 : decode cX5_commitNew 19 = .ok (.invokevirtual 153, 3) := by decide +kernel
theorem dX5_commitNew_22 : decode cX5_commitNew 22 = .ok (.ifCond .ne 6, 3) := by decide +kernel
theorem dX5_commitNew_25 : decode cX5_commitNew 25 = .ok (.bipush (-6), 2) := by decide +kernel
theorem dX5_commitNew_27 : decode cX5_commitNew 27 = .ok (.ireturn, 1) := by decide +kernel
theorem dX5_commitNew_28 : decode cX5_commitNew 28 = .ok (.aload_n 0, 1) := by decide +kernel
theorem dX5_commitNew_29 : decode cX5_commitNew 29 = .ok (.getfield 16, 3) := by decide +kernel
theorem dX5_commitNew_32 : decode cX5_commitNew 32 = .ok (.invokevirtual 57, 3) := by decide +kernel
theorem dX5_commitNew_35 : decode cX5_commitNew 35 = .ok (.aload_n 0, 1) := by decide +kernel
theorem dX5_commitNew_36 : decode cX5_commitNew 36 = .ok (.getfield 23, 3) := by decide +kernel
theorem dX5_commitNew_39 : decode cX5_commitNew 39 = .ok (.invokevirtual 99, 3) := by decide +kernel
theorem dX5_commitNew_42 : decode cX5_commitNew 42 = .ok (.iconst 1, 1) := by decide +kernel
theorem dX5_commitNew_43 : decode cX5_commitNew 43 = .ok (.isub, 1) := by decide +kernel
theorem dX5_commitNew_44 : decode cX5_commitNew 44 = .ok (.ireturn, 1) := by decide +kernel
theorem dX2_hasLegsOf_0 : decode cX2_hasLegsOf 0 = .ok (.iload_n 2, 1) := by decide +kernel
theorem dX2_hasLegsOf_1 : decode cX2_hasLegsOf 1 = .ok (.ifCond .lt 29, 3) := by decide +kernel
theorem dX2_hasLegsOf_4 : decode cX2_hasLegsOf 4 = .ok (.iload_n 2, 1) := by decide +kernel
theorem dX2_hasLegsOf_5 : decode cX2_hasLegsOf 5 = .ok (.aload_n 0, 1) := by decide +kernel
theorem dX2_hasLegsOf_6 : decode cX2_hasLegsOf 6 = .ok (.getfield 21, 3) := by decide +kernel
theorem dX2_hasLegsOf_9 : decode cX2_hasLegsOf 9 = .ok (.if_icmp .ge 21, 3) := by decide +kernel
theorem dX2_hasLegsOf_12 : decode cX2_hasLegsOf 12 = .ok (.aload_n 0, 1) := by decide +kernel
theorem dX2_hasLegsOf_13 : decode cX2_hasLegsOf 13 = .ok (.getfield 9, 3) := by decide +kernel
theorem dX2_hasLegsOf_16 : decode cX2_hasLegsOf 16 = .ok (.aload_n 0, 1) := by decide +kernel
theorem dX2_hasLegsOf_17 : decode cX2_hasLegsOf 17 = .ok (.getfield 15, 3) := by decide +kernel
theorem dX2_hasLegsOf_20 : decode cX2_hasLegsOf 20 = .ok (.iload_n 2, 1) := by decide +kernel
theorem dX2_hasLegsOf_21 : decode cX2_hasLegsOf 21 = .ok (.iaload, 1) := by decide +kernel
theorem dX2_hasLegsOf_22 : decode cX2_hasLegsOf 22 = .ok (.iaload, 1) := by decide +kernel
theorem dX2_hasLegsOf_23 : decode cX2_hasLegsOf 23 = .ok (.aload_n 1, 1) := by decide +kernel
theorem dX2_hasLegsOf_24 : decode cX2_hasLegsOf 24 = .ok (.invokevirtual 44, 3) := by decide +kernel
theorem dX2_hasLegsOf_27 : decode cX2_hasLegsOf 27 = .ok (.if_icmp .eq 5, 3) := by decide +kernel
theorem dX2_hasLegsOf_30 : decode cX2_hasLegsOf 30 = .ok (.iconst 0, 1) := by decide +kernel
theorem dX2_hasLegsOf_31 : decode cX2_hasLegsOf 31 = .ok (.ireturn, 1) := by decide +kernel
theorem dX2_hasLegsOf_32 : decode cX2_hasLegsOf 32 = .ok (.aload_n 0, 1) := by decide +kernel
theorem dX2_hasLegsOf_33 : decode cX2_hasLegsOf 33 = .ok (.getfield 15, 3) := by decide +kernel
theorem dX2_hasLegsOf_36 : decode cX2_hasLegsOf 36 = .ok (.iload_n 2, 1) := by decide +kernel
theorem dX2_hasLegsOf_37 : decode cX2_hasLegsOf 37 = .ok (.iaload, 1) := by decide +kernel
theorem dX2_hasLegsOf_38 : decode cX2_hasLegsOf 38 = .ok (.istore_n 3, 1) := by decide +kernel
theorem dX2_hasLegsOf_39 : decode cX2_hasLegsOf 39 = .ok (.iconst 0, 1) := by decide +kernel
theorem dX2_hasLegsOf_40 : decode cX2_hasLegsOf 40 = .ok (.istore 4, 2) := by decide +kernel
theorem dX2_hasLegsOf_42 : decode cX2_hasLegsOf 42 = .ok (.iload 4, 2) := by decide +kernel
theorem dX2_hasLegsOf_44 : decode cX2_hasLegsOf 44 = .ok (.aload_n 1, 1) := by decide +kernel
theorem dX2_hasLegsOf_45 : decode cX2_hasLegsOf 45 = .ok (.invokevirtual 44, 3) := by decide +kernel
theorem dX2_hasLegsOf_48 : decode cX2_hasLegsOf 48 = .ok (.if_icmp .ge 51, 3) := by decide +kernel
theorem dX2_hasLegsOf_51 : decode cX2_hasLegsOf 51 = .ok (.aload_n 0, 1) := by decide +kernel
theorem dX2_hasLegsOf_52 : decode cX2_hasLegsOf 52 = .ok (.getfield 9, 3) := by decide +kernel
theorem dX2_hasLegsOf_55 : decode cX2_hasLegsOf 55 = .ok (.iload_n 3, 1) := by decide +kernel
theorem dX2_hasLegsOf_56 : decode cX2_hasLegsOf 56 = .ok (.iload 4, 2) := by decide +kernel
theorem dX2_hasLegsOf_58 : decode cX2_hasLegsOf 58 = .ok (.invokestatic 53, 3) := by decide +kernel
theorem dX2_hasLegsOf_61 : decode cX2_hasLegsOf 61 = .ok (.iaload, 1) := by decide +kernel
theorem dX2_hasLegsOf_62 : decode cX2_hasLegsOf 62 = .ok (.aload_n 1, 1) := by decide +kernel
theorem dX2_hasLegsOf_63 : decode cX2_hasLegsOf 63 = .ok (.iload 4, 2) := by decide +kernel
theorem dX2_hasLegsOf_65 : decode cX2_hasLegsOf 65 = .ok (.invokevirtual 57, 3) := by decide +kernel
theorem dX2_hasLegsOf_68 : decode cX2_hasLegsOf 68 = .ok (.if_icmp .ne 23, 3) := by decide +kernel
theorem dX2_hasLegsOf_71 : decode cX2_hasLegsOf 71 = .ok (.aload_n 0, 1) := by decide +kernel
theorem dX2_hasLegsOf_72 : decode cX2_hasLegsOf 72 = .ok (.getfield 9, 3) := by decide +kernel
theorem dX2_hasLegsOf_75 : decode cX2_hasLegsOf 75 = .ok (.iload_n 3, 1) := by decide +kernel
theorem dX2_hasLegsOf_76 : decode cX2_hasLegsOf 76 = .ok (.iload 4, 2) := by decide +kernel
theorem dX2_hasLegsOf_78 : decode cX2_hasLegsOf 78 = .ok (.invokestatic 60, 3) := by decide +kernel
theorem dX2_hasLegsOf_81 : decode cX2_hasLegsOf 81 = .ok (.iaload, 1) := by decide +kernel
theorem dX2_hasLegsOf_82 : decode cX2_hasLegsOf 82 = .ok (.aload_n 1, 1) := by decide +kernel
theorem dX2_hasLegsOf_83 : decode cX2_hasLegsOf 83 = .ok (.iload 4, 2) := by decide +kernel
theorem dX2_hasLegsOf_85 : decode cX2_hasLegsOf 85 = .ok (.invokevirtual 63, 3) := by decide +kernel
theorem dX2_hasLegsOf_88 : decode cX2_hasLegsOf 88 = .ok (.if_icmp .eq 5, 3) := by decide +kernel
theorem dX2_hasLegsOf_91 : decode cX2_hasLegsOf 91 = .ok (.iconst 0, 1) := by decide +kernel
theorem dX2_hasLegsOf_92 : decode cX2_hasLegsOf 92 = .ok (.ireturn, 1) := by decide +kernel
theorem dX2_hasLegsOf_93 : decode cX2_hasLegsOf 93 = .ok (.iinc 4 1, 3) := by decide +kernel
theorem dX2_hasLegsOf_96 : decode cX2_hasLegsOf 96 = .ok (.goto (-54), 3) := by decide +kernel
theorem dX2_hasLegsOf_99 : decode cX2_hasLegsOf 99 = .ok (.iconst 1, 1) := by decide +kernel
theorem dX2_hasLegsOf_100 : decode cX2_hasLegsOf 100 = .ok (.ireturn, 1) := by decide +kernel
theorem dX5_commit_0 : decode cX5_commit 0 = .ok (.aload_n 0, 1) := by decide +kernel
theorem dX5_commit_1 : decode cX5_commit 1 = .ok (.getfield 41, 3) := by decide +kernel
theorem dX5_commit_4 : decode cX5_commit 4 = .ok (.ifCond .ne 6, 3) := by decide +kernel
theorem dX5_commit_7 : decode cX5_commit 7 = .ok (.bipush (-2), 2) := by decide +kernel
theorem dX5_commit_9 : decode cX5_commit 9 = .ok (.ireturn, 1) := by decide +kernel
theorem dX5_commit_10 : decode cX5_commit 10 = .ok (.aload_n 0, 1) := by decide +kernel
theorem dX5_commit_11 : decode cX5_commit 11 = .ok (.getfield 16, 3) := by decide +kernel
theorem dX5_commit_14 : decode cX5_commit 14 = .ok (.invokevirtual 60, 3) := by decide +kernel
theorem dX5_commit_17 : decode cX5_commit 17 = .ok (.ifCond .ne 6, 3) := by decide +kernel
theorem dX5_commit_20 : decode cX5_commit 20 = .ok (.bipush (-3), 2) := by decide +kernel
theorem dX5_commit_22 : decode cX5_commit 22 = .ok (.ireturn, 1) := by decide +kernel
theorem dX5_commit_23 : decode cX5_commit 23 = .ok (.aload_n 0, 1) := by decide +kernel
theorem dX5_commit_24 : decode cX5_commit 24 = .ok (.getfield 23, 3) := by decide +kernel
theorem dX5_commit_27 : decode cX5_commit 27 = .ok (.iload_n 1, 1) := by decide +kernel
theorem dX5_commit_28 : decode cX5_commit 28 = .ok (.invokevirtual 64, 3) := by decide +kernel
theorem dX5_commit_31 : decode cX5_commit 31 = .ok (.istore_n 2, 1) := by decide +kernel
theorem dX5_commit_32 : decode cX5_commit 32 = .ok (.iload_n 2, 1) := by decide +kernel
theorem dX5_commit_33 : decode cX5_commit 33 = .ok (.iconst (-1), 1) := by decide +kernel
theorem dX5_commit_34 : decode cX5_commit 34 = .ok (.if_icmp .ne 9, 3) := by decide +kernel
theorem dX5_commit_37 : decode cX5_commit 37 = .ok (.aload_n 0, 1) := by decide +kernel
theorem dX5_commit_38 : decode cX5_commit 38 = .ok (.iload_n 1, 1) := by decide +kernel
theorem dX5_commit_39 : decode cX5_commit 39 = .ok (.invokevirtual 68, 3) := by decide +kernel
theorem dX5_commit_42 : decode cX5_commit 42 = .ok (.ireturn, 1) := by decide +kernel
theorem dX5_commit_43 : decode cX5_commit 43 = .ok (.aload_n 0, 1) := by decide +kernel
theorem dX5_commit_44 : decode cX5_commit 44 = .ok (.getfield 23, 3) := by decide +kernel
theorem dX5_commit_47 : decode cX5_commit 47 = .ok (.aload_n 0, 1) := by decide +kernel
theorem dX5_commit_48 : decode cX5_commit 48 = .ok (.getfield 16, 3) := by decide +kernel
theorem dX5_commit_51 : decode cX5_commit 51 = .ok (.iload_n 2, 1) := by decide +kernel
theorem dX5_commit_52 : decode cX5_commit 52 = .ok (.invokevirtual 71, 3) := by decide +kernel
theorem dX5_commit_55 : decode cX5_commit 55 = .ok (.ifCond .ne 6, 3) := by decide +kernel
theorem dX5_commit_58 : decode cX5_commit 58 = .ok (.bipush (-4), 2) := by decide +kernel
theorem dX5_commit_60 : decode cX5_commit 60 = .ok (.ireturn, 1) := by decide +kernel
theorem dX5_commit_61 : decode cX5_commit 61 = .ok (.aload_n 0, 1) := by decide +kernel
theorem dX5_commit_62 : decode cX5_commit 62 = .ok (.getfield 16, 3) := by decide +kernel
theorem dX5_commit_65 : decode cX5_commit 65 = .ok (.invokevirtual 57, 3) := by decide +kernel
theorem dX5_commit_68 : decode cX5_commit 68 = .ok (.iload_n 2, 1) := by decide +kernel
theorem dX5_commit_69 : decode cX5_commit 69 = .ok (.ireturn, 1) := by decide +kernel
theorem dX2_blockOf_0 : decode cX2_blockOf 0 = .ok (.iload_n 0, 1) := by decide +kernel
theorem dX2_blockOf_1 : decode cX2_blockOf 1 = .ok (.bipush 8, 2) := by decide +kernel
theorem dX2_blockOf_3 : decode cX2_blockOf 3 = .ok (.idiv, 1) := by decide +kernel
theorem dX2_blockOf_4 : decode cX2_blockOf 4 = .ok (.bipush 63, 2) := by decide +kernel
theorem dX2_blockOf_6 : decode cX2_blockOf 6 = .ok (.invokestatic 93, 3) := by decide +kernel
theorem dX2_blockOf_9 : decode cX2_blockOf 9 = .ok (.ireturn, 1) := by decide +kernel
theorem dX2_syncedBlock_0 : decode cX2_syncedBlock 0 = .ok (.aload_n 0, 1) := by decide +kernel
theorem dX2_syncedBlock_1 : decode cX2_syncedBlock 1 = .ok (.getfield 35, 3) := by decide +kernel
theorem dX2_syncedBlock_4 : decode cX2_syncedBlock 4 = .ok (.invokestatic 31, 3) := by decide +kernel
theorem dX2_syncedBlock_7 : decode cX2_syncedBlock 7 = .ok (.ireturn, 1) := by decide +kernel
theorem dX2_endBlock_0 : decode cX2_endBlock 0 = .ok (.aload_n 0, 1) := by decide +kernel
theorem dX2_endBlock_1 : decode cX2_endBlock 1 = .ok (.getfield 28, 3) := by decide +kernel
theorem dX2_endBlock_4 : decode cX2_endBlock 4 = .ok (.invokestatic 31, 3) := by decide +kernel
theorem dX2_endBlock_7 : decode cX2_endBlock 7 = .ok (.ireturn, 1) := by decide +kernel
theorem dX2_cellAt_0 : decode cX2_cellAt 0 = .ok (.iload_n 1, 1) := by decide +kernel
theorem dX2_cellAt_1 : decode cX2_cellAt 1 = .ok (.ifCond .lt 19, 3) := by decide +kernel
theorem dX2_cellAt_4 : decode cX2_cellAt 4 = .ok (.iload_n 1, 1) := by decide +kernel
theorem dX2_cellAt_5 : decode cX2_cellAt 5 = .ok (.sipush 512, 3) := by decide +kernel
theorem dX2_cellAt_8 : decode cX2_cellAt 8 = .ok (.if_icmp .ge 12, 3) := by decide +kernel
theorem dX2_cellAt_11 : decode cX2_cellAt 11 = .ok (.aload_n 0, 1) := by decide +kernel
theorem dX2_cellAt_12 : decode cX2_cellAt 12 = .ok (.getfield 9, 3) := by decide +kernel
theorem dX2_cellAt_15 : decode cX2_cellAt 15 = .ok (.iload_n 1, 1) := by decide +kernel
theorem dX2_cellAt_16 : decode cX2_cellAt 16 = .ok (.iaload, 1) := by decide +kernel
theorem dX2_cellAt_17 : decode cX2_cellAt 17 = .ok (.goto 4, 3) := by decide +kernel
theorem dX2_cellAt_20 : decode cX2_cellAt 20 = .ok (.iconst 0, 1) := by decide +kernel
theorem dX2_cellAt_21 : decode cX2_cellAt 21 = .ok (.ireturn, 1) := by decide +kernel
theorem dX0_write_0 : decode cX0_write 0 = .ok (.aload_n 0, 1) := by decide +kernel
theorem dX0_write_1 : decode cX0_write 1 = .ok (.getfield 15, 3) := by decide +kernel
theorem dX0_write_4 : decode cX0_write 4 = .ok (.ifCond .le 22, 3) := by decide +kernel
theorem dX0_write_7 : decode cX0_write 7 = .ok (.aload_n 0, 1) := by decide +kernel
theorem dX0_write_8 : decode cX0_write 8 = .ok (.dup, 1) := by decide +kernel
theorem dX0_write_9 : decode cX0_write 9 = .ok (.getfield 15, 3) := by decide +kernel
theorem dX0_write_12 : decode cX0_write 12 = .ok (.iconst 1, 1) := by decide +kernel
theorem dX0_write_13 : decode cX0_write 13 = .ok (.isub, 1) := by decide +kernel
theorem dX0_write_14 : decode cX0_write 14 = .ok (.putfield 15, 3) := by decide +kernel
theorem dX0_write_17 : decode cX0_write 17 = .ok (.aload_n 0, 1) := by decide +kernel
theorem dX0_write_18 : decode cX0_write 18 = .ok (.getfield 15, 3) := by decide +kernel
theorem dX0_write_21 : decode cX0_write 21 = .ok (.ifCond .ne 5, 3) := by decide +kernel
theorem dX0_write_24 : decode cX0_write 24 = .ok (.iconst 0, 1) := by decide +kernel
theorem dX0_write_25 : decode cX0_write 25 = .ok (.ireturn, 1) := by decide +kernel
theorem dX0_write_26 : decode cX0_write 26 = .ok (.iload_n 2, 1) := by decide +kernel
theorem dX0_write_27 : decode cX0_write 27 = .ok (.bipush 8, 2) := by decide +kernel
theorem dX0_write_29 : decode cX0_write 29 = .ok (.imul, 1) := by decide +kernel
theorem dX0_write_30 : decode cX0_write 30 = .ok (.istore_n 3, 1) := by decide +kernel
theorem dX0_write_31 : decode cX0_write 31 = .ok (.iload_n 3, 1) := by decide +kernel
theorem dX0_write_32 : decode cX0_write 32 = .ok (.istore 4, 2) := by decide +kernel
theorem dX0_write_34 : decode cX0_write 34 = .ok (.iload 4, 2) := by decide +kernel
theorem dX0_write_36 : decode cX0_write 36 = .ok (.iload_n 3, 1) := by decide +kernel
theorem dX0_write_37 : decode cX0_write 37 = .ok (.bipush 8, 2) := by decide +kernel
theorem dX0_write_39 : decode cX0_write 39 = .ok (.iadd, 1) := by decide +kernel
theorem dX0_write_40 : decode cX0_write 40 = .ok (.if_icmp .ge 22, 3) := by decide +kernel
theorem dX0_write_43 : decode cX0_write 43 = .ok (.aload_n 0, 1) := by decide +kernel
theorem dX0_write_44 : decode cX0_write 44 = .ok (.getfield 9, 3) := by decide +kernel
theorem dX0_write_47 : decode cX0_write 47 = .ok (.iload 4, 2) := by decide +kernel
theorem dX0_write_49 : decode cX0_write 49 = .ok (.aload_n 1, 1) := by decide +kernel
theorem dX0_write_50 : decode cX0_write 50 = .ok (.iload 4, 2) := by decide +kernel
theorem dX0_write_52 : decode cX0_write 52 = .ok (.invokevirtual 22, 3) := by decide +kernel
theorem dX0_write_55 : decode cX0_write 55 = .ok (.iastore, 1) := by decide +kernel
theorem dX0_write_56 : decode cX0_write 56 = .ok (.iinc 4 1, 3) := by decide +kernel
theorem dX0_write_59 : decode cX0_write 59 = .ok (.goto (-25), 3) := by decide +kernel
theorem dX0_write_62 : decode cX0_write 62 = .ok (.aload_n 0, 1) := by decide +kernel
theorem dX0_write_63 : decode cX0_write 63 = .ok (.dup, 1) := by decide +kernel
theorem dX0_write_64 : decode cX0_write 64 = .ok (.getfield 19, 3) := by decide +kernel
theorem dX0_write_67 : decode cX0_write 67 = .ok (.iconst 1, 1) := by decide +kernel
theorem dX0_write_68 : decode cX0_write 68 = .ok (.iadd, 1) := by decide +kernel
theorem dX0_write_69 : decode cX0_write 69 = .ok (.putfield 19, 3) := by decide +kernel
theorem dX0_write_72 : decode cX0_write 72 = .ok (.iconst 1, 1) := by decide +kernel
theorem dX0_write_73 : decode cX0_write 73 = .ok (.ireturn, 1) := by decide +kernel
theorem dX2_markSynced_0 : decode cX2_markSynced 0 = .ok (.aload_n 0, 1) := by decide +kernel
theorem dX2_markSynced_1 : decode cX2_markSynced 1 = .ok (.aload_n 0, 1) := by decide +kernel
theorem dX2_markSynced_2 : decode cX2_markSynced 2 = .ok (.getfield 21, 3) := by decide +kernel
theorem dX2_markSynced_5 : decode cX2_markSynced 5 = .ok (.putfield 25, 3) := by decide +kernel
theorem dX2_markSynced_8 : decode cX2_markSynced 8 = .ok (.aload_n 0, 1) := by decide +kernel
theorem dX2_markSynced_9 : decode cX2_markSynced 9 = .ok (.aload_n 0, 1) := by decide +kernel
theorem dX2_markSynced_10 : decode cX2_markSynced 10 = .ok (.getfield 28, 3) := by decide +kernel
theorem dX2_markSynced_13 : decode cX2_markSynced 13 = .ok (.putfield 35, 3) := by decide +kernel
theorem dX2_markSynced_16 : decode cX2_markSynced 16 = .ok (.return_, 1) := by decide +kernel
theorem dX2_clearBehindEnd_0 : decode cX2_clearBehindEnd 0 = .ok (.aload_n 0, 1) := by decide +kernel
theorem dX2_clearBehindEnd_1 : decode cX2_clearBehindEnd 1 = .ok (.getfield 28, 3) := by decide +kernel
theorem dX2_clearBehindEnd_4 : decode cX2_clearBehindEnd 4 = .ok (.istore_n 1, 1) := by decide +kernel
theorem dX2_clearBehindEnd_5 : decode cX2_clearBehindEnd 5 = .ok (.iload_n 1, 1) := by decide +kernel
theorem dX2_clearBehindEnd_6 : decode cX2_clearBehindEnd 6 = .ok (.sipush 512, 3) := by decide +kernel
theorem dX2_clearBehindEnd_9 : decode cX2_clearBehindEnd 9 = .ok (.if_icmp .ge 16, 3) := by decide +kernel
theorem dX2_clearBehindEnd_12 : decode cX2_clearBehindEnd 12 = .ok (.aload_n 0, 1) := by decide +kernel
theorem dX2_clearBehindEnd_13 : decode cX2_clearBehindEnd 13 = .ok (.getfield 9, 3) := by decide +kernel
theorem dX2_clearBehindEnd_16 : decode cX2_clearBehindEnd 16 = .ok (.iload_n 1, 1) := by decide +kernel
theorem dX2_clearBehindEnd_17 : decode cX2_clearBehindEnd 17 = .ok (.iconst 0, 1) := by decide +kernel
theorem dX2_clearBehindEnd_18 : decode cX2_clearBehindEnd 18 = .ok (.iastore, 1) := by decide +kernel
theorem dX2_clearBehindEnd_19 : decode cX2_clearBehindEnd 19 = .ok (.iinc 1 1, 3) := by decide +kernel
theorem dX2_clearBehindEnd_22 : decode cX2_clearBehindEnd 22 = .ok (.goto (-17), 3) := by decide +kernel
theorem dX2_clearBehindEnd_25 : decode cX2_clearBehindEnd 25 = .ok (.return_, 1) := by decide +kernel
theorem dX2_clear_0 : decode cX2_clear 0 = .ok (.aload_n 0, 1) := by decide +kernel
theorem dX2_clear_1 : decode cX2_clear 1 = .ok (.iconst 0, 1) := by decide +kernel
theorem dX2_clear_2 : decode cX2_clear 2 = .ok (.putfield 21, 3) := by decide +kernel
theorem dX2_clear_5 : decode cX2_clear 5 = .ok (.aload_n 0, 1) := by decide +kernel
theorem dX2_clear_6 : decode cX2_clear 6 = .ok (.iconst 0, 1) := by decide +kernel
theorem dX2_clear_7 : decode cX2_clear 7 = .ok (.putfield 28, 3) := by decide +kernel
theorem dX2_clear_10 : decode cX2_clear 10 = .ok (.aload_n 0, 1) := by decide +kernel
theorem dX2_clear_11 : decode cX2_clear 11 = .ok (.invokevirtual 38, 3) := by decide +kernel
theorem dX2_clear_14 : decode cX2_clear 14 = .ok (.aload_n 0, 1) := by decide +kernel
theorem dX2_clear_15 : decode cX2_clear 15 = .ok (.invokevirtual 41, 3) := by decide +kernel
theorem dX2_clear_18 : decode cX2_clear 18 = .ok (.return_, 1) := by decide +kernel
theorem dX5_losePower_0 : decode cX5_losePower 0 = .ok (.aload_n 0, 1) := by decide +kernel
theorem dX5_losePower_1 : decode cX5_losePower 1 = .ok (.iconst 0, 1) := by decide +kernel
theorem dX5_losePower_2 : decode cX5_losePower 2 = .ok (.putfield 41, 3) := by decide +kernel
theorem dX5_losePower_5 : decode cX5_losePower 5 = .ok (.aload_n 0, 1) := by decide +kernel
theorem dX5_losePower_6 : decode cX5_losePower 6 = .ok (.getfield 23, 3) := by decide +kernel
theorem dX5_losePower_9 : decode cX5_losePower 9 = .ok (.invokevirtual 171, 3) := by decide +kernel
theorem dX5_losePower_12 : decode cX5_losePower 12 = .ok (.aload_n 0, 1) := by decide +kernel
theorem dX5_losePower_13 : decode cX5_losePower 13 = .ok (.getfield 16, 3) := by decide +kernel
theorem dX5_losePower_16 : decode cX5_losePower 16 = .ok (.invokevirtual 57, 3) := by decide +kernel
theorem dX5_losePower_19 : decode cX5_losePower 19 = .ok (.return_, 1) := by decide +kernel
theorem dX5_writeBlock_0 : decode cX5_writeBlock 0 = .ok (.aload_n 0, 1) := by decide +kernel
theorem dX5_writeBlock_1 : decode cX5_writeBlock 1 = .ok (.getfield 30, 3) := by decide +kernel
theorem dX5_writeBlock_4 : decode cX5_writeBlock 4 = .ok (.aload_n 0, 1) := by decide +kernel
theorem dX5_writeBlock_5 : decode cX5_writeBlock 5 = .ok (.getfield 23, 3) := by decide +kernel
theorem dX5_writeBlock_8 : decode cX5_writeBlock 8 = .ok (.iload_n 1, 1) := by decide +kernel
theorem dX5_writeBlock_9 : decode cX5_writeBlock 9 = .ok (.invokevirtual 164, 3) := by decide +kernel
theorem dX5_writeBlock_12 : decode cX5_writeBlock 12 = .ok (.ifCond .eq 5, 3) := by decide +kernel
theorem dX5_writeBlock_15 : decode cX5_writeBlock 15 = .ok (.iconst 1, 1) := by decide +kernel
theorem dX5_writeBlock_16 : decode cX5_writeBlock 16 = .ok (.ireturn, 1) := by decide +kernel
theorem dX5_writeBlock_17 : decode cX5_writeBlock 17 = .ok (.aload_n 0, 1) := by decide +kernel
theorem dX5_writeBlock_18 : decode cX5_writeBlock 18 = .ok (.invokevirtual 168, 3) := by decide +kernel
theorem dX5_writeBlock_21 : decode cX5_writeBlock 21 = .ok (.iconst 0, 1) := by decide +kernel
theorem dX5_writeBlock_22 : decode cX5_writeBlock 22 = .ok (.ireturn, 1) := by decide +kernel
theorem dX5_sync_0 : decode cX5_sync 0 = .ok (.aload_n 0, 1) := by decide +kernel
theorem dX5_sync_1 : decode cX5_sync 1 = .ok (.getfield 41, 3) := by decide +kernel
theorem dX5_sync_4 : decode cX5_sync 4 = .ok (.ifCond .ne 6, 3) := by decide +kernel
theorem dX5_sync_7 : decode cX5_sync 7 = .ok (.bipush (-2), 2) := by decide +kernel
theorem dX5_sync_9 : decode cX5_sync 9 = .ok (.ireturn, 1) := by decide +kernel
theorem dX5_sync_10 : decode cX5_sync 10 = .ok (.aload_n 0, 1) := by decide +kernel
theorem dX5_sync_11 : decode cX5_sync 11 = .ok (.getfield 23, 3) := by decide +kernel
theorem dX5_sync_14 : decode cX5_sync 14 = .ok (.invokevirtual 75, 3) := by decide +kernel
theorem dX5_sync_17 : decode cX5_sync 17 = .ok (.istore_n 1, 1) := by decide +kernel
theorem dX5_sync_18 : decode cX5_sync 18 = .ok (.aload_n 0, 1) := by decide +kernel
theorem dX5_sync_19 : decode cX5_sync 19 = .ok (.getfield 23, 3) := by decide +kernel
theorem dX5_sync_22 : decode cX5_sync 22 = .ok (.invokevirtual 79, 3) := by decide +kernel
theorem dX5_sync_25 : decode cX5_sync 25 = .ok (.istore_n 2, 1) := by decide +kernel
theorem dX5_sync_26 : decode cX5_sync 26 = .ok (.iload_n 1, 1) := by decide +kernel
theorem dX5_sync_27 : decode cX5_sync 27 = .ok (.istore_n 3, 1) := by decide +kernel
theorem dX5_sync_28 : decode cX5_sync 28 = .ok (.iload_n 3, 1) := by decide +kernel
theorem dX5_sync_29 : decode cX5_sync 29 = .ok (.iload_n 2, 1) := by decide +kernel
theorem dX5_sync_30 : decode cX5_sync 30 = .ok (.if_icmp .gt 20, 3) := by decide +kernel
theorem dX5_sync_33 : decode cX5_sync 33 = .ok (.aload_n 0, 1) := by decide +kernel
theorem dX5_sync_34 : decode cX5_sync 34 = .ok (.iload_n 3, 1) := by decide +kernel
theorem dX5_sync_35 : decode cX5_sync 35 = .ok (.invokevirtual 82, 3) := by decide +kernel
theorem dX5_sync_38 : decode cX5_sync 38 = .ok (.ifCond .ne 6, 3) := by decide +kernel
theorem dX5_sync_41 : decode cX5_sync 41 = .ok (.bipush (-2), 2) := by decide +kernel
theorem dX5_sync_43 : decode cX5_sync 43 = .ok (.ireturn, 1) := by decide +kernel
theorem dX5_sync_44 : decode cX5_sync 44 = .ok (.iinc 3 1, 3) := by decide +kernel
theorem dX5_sync_47 : decode cX5_sync 47 = .ok (.goto (-19), 3) := by decide +kernel
theorem dX5_sync_50 : decode cX5_sync 50 = .ok (.aload_n 0, 1) := by decide +kernel
theorem dX5_sync_51 : decode cX5_sync 51 = .ok (.getfield 23, 3) := by decide +kernel
theorem dX5_sync_54 : decode cX5_sync 54 = .ok (.invokevirtual 85, 3) := by decide +kernel
theorem dX5_sync_57 : decode cX5_sync 57 = .ok (.iload_n 2, 1) := by decide +kernel
theorem dX5_sync_58 : decode cX5_sync 58 = .ok (.iload_n 1, 1) := by decide +kernel
theorem dX5_sync_59 : decode cX5_sync 59 = .ok (.isub, 1) := by decide +kernel
theorem dX5_sync_60 : decode cX5_sync 60 = .ok (.iconst 1, 1) := by decide +kernel
theorem dX5_sync_61 : decode cX5_sync 61 = .ok (.iadd, 1) := by decide +kernel
theorem dX5_sync_62 : decode cX5_sync 62 = .ok (.ireturn, 1) := by decide +kernel
theorem dX0_failAt_0 : decode cX0_failAt 0 = .ok (.aload_n 0, 1) := by decide +kernel
theorem dX0_failAt_1 : decode cX0_failAt 1 = .ok (.iload_n 1, 1) := by decide +kernel
theorem dX0_failAt_2 : decode cX0_failAt 2 = .ok (.putfield 15, 3) := by decide +kernel
theorem dX0_failAt_5 : decode cX0_failAt 5 = .ok (.return_, 1) := by decide +kernel
theorem dX5_fail_0 : decode cX5_fail 0 = .ok (.iload_n 1, 1) := by decide +kernel
theorem dX5_fail_1 : decode cX5_fail 1 = .ok (.ifCond .lt 9, 3) := by decide +kernel
theorem dX5_fail_4 : decode cX5_fail 4 = .ok (.iload_n 1, 1) := by decide +kernel
theorem dX5_fail_5 : decode cX5_fail 5 = .ok (.bipush 40, 2) := by decide +kernel
theorem dX5_fail_7 : decode cX5_fail 7 = .ok (.if_icmp .le 5, 3) := by decide +kernel
theorem dX5_fail_10 : decode cX5_fail 10 = .ok (.iconst 0, 1) := by decide +kernel
theorem dX5_fail_11 : decode cX5_fail 11 = .ok (.ireturn, 1) := by decide +kernel
theorem dX5_fail_12 : decode cX5_fail 12 = .ok (.aload_n 0, 1) := by decide +kernel
theorem dX5_fail_13 : decode cX5_fail 13 = .ok (.getfield 30, 3) := by decide +kernel
theorem dX5_fail_16 : decode cX5_fail 16 = .ok (.iload_n 1, 1) := by decide +kernel
theorem dX5_fail_17 : decode cX5_fail 17 = .ok (.invokevirtual 88, 3) := by decide +kernel
theorem dX5_fail_20 : decode cX5_fail 20 = .ok (.iconst 1, 1) := by decide +kernel
theorem dX5_fail_21 : decode cX5_fail 21 = .ok (.ireturn, 1) := by decide +kernel
theorem dX0_cellAt_0 : decode cX0_cellAt 0 = .ok (.iload_n 1, 1) := by decide +kernel
theorem dX0_cellAt_1 : decode cX0_cellAt 1 = .ok (.ifCond .lt 19, 3) := by decide +kernel
theorem dX0_cellAt_4 : decode cX0_cellAt 4 = .ok (.iload_n 1, 1) := by decide +kernel
theorem dX0_cellAt_5 : decode cX0_cellAt 5 = .ok (.sipush 512, 3) := by decide +kernel
theorem dX0_cellAt_8 : decode cX0_cellAt 8 = .ok (.if_icmp .ge 12, 3) := by decide +kernel
theorem dX0_cellAt_11 : decode cX0_cellAt 11 = .ok (.aload_n 0, 1) := by decide +kernel
theorem dX0_cellAt_12 : decode cX0_cellAt 12 = .ok (.getfield 9, 3) := by decide +kernel
theorem dX0_cellAt_15 : decode cX0_cellAt 15 = .ok (.iload_n 1, 1) := by decide +kernel
theorem dX0_cellAt_16 : decode cX0_cellAt 16 = .ok (.iaload, 1) := by decide +kernel
theorem dX0_cellAt_17 : decode cX0_cellAt 17 = .ok (.goto 4, 3) := by decide +kernel
theorem dX0_cellAt_20 : decode cX0_cellAt 20 = .ok (.iconst 0, 1) := by decide +kernel
theorem dX0_cellAt_21 : decode cX0_cellAt 21 = .ok (.ireturn, 1) := by decide +kernel
theorem dX2_nextFits_0 : decode cX2_nextFits 0 = .ok (.aload_n 0, 1) := by decide +kernel
theorem dX2_nextFits_1 : decode cX2_nextFits 1 = .ok (.getfield 28, 3) := by decide +kernel
theorem dX2_nextFits_4 : decode cX2_nextFits 4 = .ok (.sipush 512, 3) := by decide +kernel
theorem dX2_nextFits_7 : decode cX2_nextFits 7 = .ok (.if_icmp .ge 56, 3) := by decide +kernel
theorem dX2_nextFits_10 : decode cX2_nextFits 10 = .ok (.aload_n 0, 1) := by decide +kernel
theorem dX2_nextFits_11 : decode cX2_nextFits 11 = .ok (.getfield 9, 3) := by decide +kernel
theorem dX2_nextFits_14 : decode cX2_nextFits 14 = .ok (.aload_n 0, 1) := by decide +kernel
theorem dX2_nextFits_15 : decode cX2_nextFits 15 = .ok (.getfield 28, 3) := by decide +kernel
theorem dX2_nextFits_18 : decode cX2_nextFits 18 = .ok (.iaload, 1) := by decide +kernel
theorem dX2_nextFits_19 : decode cX2_nextFits 19 = .ok (.iconst 2, 1) := by decide +kernel
theorem dX2_nextFits_20 : decode cX2_nextFits 20 = .ok (.if_icmp .lt 43, 3) := by decide +kernel
theorem dX2_nextFits_23 : decode cX2_nextFits 23 = .ok (.aload_n 0, 1) := by decide +kernel
theorem dX2_nextFits_24 : decode cX2_nextFits 24 = .ok (.getfield 9, 3) := by decide +kernel
theorem dX2_nextFits_27 : decode cX2_nextFits 27 = .ok (.aload_n 0, 1) := by decide +kernel
theorem dX2_nextFits_28 : decode cX2_nextFits 28 = .ok (.getfield 28, 3) := by decide +kernel
theorem dX2_nextFits_31 : decode cX2_nextFits 31 = .ok (.iaload, 1) := by decide +kernel
theorem dX2_nextFits_32 : decode cX2_nextFits 32 = .ok (.iconst 4, 1) := by decide +kernel
theorem dX2_nextFits_33 : decode cX2_nextFits 33 = .ok (.if_icmp .gt 30, 3) := by decide +kernel
theorem dX2_nextFits_36 : decode cX2_nextFits 36 = .ok (.aload_n 0, 1) := by decide +kernel
theorem dX2_nextFits_37 : decode cX2_nextFits 37 = .ok (.getfield 28, 3) := by decide +kernel
theorem dX2_nextFits_40 : decode cX2_nextFits 40 = .ok (.aload_n 0, 1) := by decide +kernel
theorem dX2_nextFits_41 : decode cX2_nextFits 41 = .ok (.getfield 9, 3) := by decide +kernel
theorem dX2_nextFits_44 : decode cX2_nextFits 44 = .ok (.aload_n 0, 1) := by decide +kernel
theorem dX2_nextFits_45 : decode cX2_nextFits 45 = .ok (.getfield 28, 3) := by decide +kernel
theorem dX2_nextFits_48 : decode cX2_nextFits 48 = .ok (.iaload, 1) := by decide +kernel
theorem dX2_nextFits_49 : decode cX2_nextFits 49 = .ok (.invokestatic 50, 3) := by decide +kernel
theorem dX2_nextFits_52 : decode cX2_nextFits 52 = .ok (.iadd, 1) := by decide +kernel
theorem dX2_nextFits_53 : decode cX2_nextFits 53 = .ok (.sipush 512, 3) := by decide +kernel
theorem dX2_nextFits_56 : decode cX2_nextFits 56 = .ok (.if_icmp .gt 7, 3) := by decide +kernel
theorem dX2_nextFits_59 : decode cX2_nextFits 59 = .ok (.iconst 1, 1) := by decide +kernel
theorem dX2_nextFits_60 : decode cX2_nextFits 60 = .ok (.goto 4, 3) := by decide +kernel
theorem dX2_nextFits_63 : decode cX2_nextFits 63 = .ok (.iconst 0, 1) := by decide +kernel
theorem dX2_nextFits_64 : decode cX2_nextFits 64 = .ok (.ireturn, 1) := by decide +kernel
theorem dX2_nextLegsAreSound_0 : decode cX2_nextLegsAreSound 0 = .ok (.iconst 0, 1) := by decide +kernel
theorem dX2_nextLegsAreSound_1 : decode cX2_nextLegsAreSound 1 = .ok (.istore_n 1, 1) := by decide +kernel
theorem dX2_nextLegsAreSound_2 : decode cX2_nextLegsAreSound 2 = .ok (.iconst 0, 1) := by decide +kernel
theorem dX2_nextLegsAreSound_3 : decode cX2_nextLegsAreSound 3 = .ok (.istore_n 2, 1) := by decide +kernel
theorem dX2_nextLegsAreSound_4 : decode cX2_nextLegsAreSound 4 = .ok (.iload_n 2, 1) := by decide +kernel
theorem dX2_nextLegsAreSound_5 : decode cX2_nextLegsAreSound 5 = .ok (.aload_n 0, 1) := by decide +kernel
theorem dX2_nextLegsAreSound_6 : decode cX2_nextLegsAreSound 6 = .ok (.getfield 9, 3) := by decide +kernel
theorem dX2_nextLegsAreSound_9 : decode cX2_nextLegsAreSound 9 = .ok (.aload_n 0, 1) := by decide +kernel
theorem dX2_nextLegsAreSound_10 : decode cX2_nextLegsAreSound 10 = .ok (.getfield 28, 3) := by decide +kernel
theorem dX2_nextLegsAreSound_13 : decode cX2_nextLegsAreSound 13 = .ok (.iaload, 1) := by decide +kernel
theorem dX2_nextLegsAreSound_14 : decode cX2_nextLegsAreSound 14 = .ok (.if_icmp .ge 55, 3) := by decide +kernel
theorem dX2_nextLegsAreSound_17 : decode cX2_nextLegsAreSound 17 = .ok (.aload_n 0, 1) := by decide +kernel
theorem dX2_nextLegsAreSound_18 : decode cX2_nextLegsAreSound 18 = .ok (.getfield 9, 3) := by decide +kernel
theorem dX2_nextLegsAreSound_21 : decode cX2_nextLegsAreSound 21 = .ok (.aload_n 0, 1) := by decide +kernel
theorem dX2_nextLegsAreSound_22 : decode cX2_nextLegsAreSound 22 = .ok (.getfield 28, 3) := by decide +kernel
theorem dX2_nextLegsAreSound_25 : decode cX2_nextLegsAreSound 25 = .ok (.iload_n 2, 1) := by decide +kernel
theorem dX2_nextLegsAreSound_26 : decode cX2_nextLegsAreSound 26 = .ok (.invokestatic 60, 3) := by decide +kernel
theorem dX2_nextLegsAreSound_29 : decode cX2_nextLegsAreSound 29 = .ok (.iaload, 1) := by decide +kernel
theorem dX2_nextLegsAreSound_30 : decode cX2_nextLegsAreSound 30 = .ok (.istore_n 3, 1) := by decide +kernel
theorem dX2_nextLegsAreSound_31 : decode cX2_nextLegsAreSound 31 = .ok (.aload_n 0, 1) := by decide +kernel
theorem dX2_nextLegsAreSound_32 : decode cX2_nextLegsAreSound 32 = .ok (.getfield 9, 3) := by decide +kernel
theorem dX2_nextLegsAreSound_35 : decode cX2_nextLegsAreSound 35 = .ok (.aload_n 0, 1) := by decide +kernel
theorem dX2_nextLegsAreSound_36 : decode cX2_nextLegsAreSound 36 = .ok (.getfield 28, 3) := by decide +kernel
theorem dX2_nextLegsAreSound_39 : decode cX2_nextLegsAreSound 39 = .ok (.iload_n 2, 1) := by decide +kernel
theorem dX2_nextLegsAreSound_40 : decode cX2_nextLegsAreSound 40 = .ok (.invokestatic 53, 3) := by decide +kernel
theorem dX2_nextLegsAreSound_43 : decode cX2_nextLegsAreSound 43 = .ok (.iaload, 1) := by decide +kernel
theorem dX2_nextLegsAreSound_44 : decode cX2_nextLegsAreSound 44 = .ok (.invokestatic 111, 3) := by decide +kernel
theorem dX2_nextLegsAreSound_47 : decode cX2_nextLegsAreSound 47 = .ok (.ifCond .eq 10, 3) := by decide +kernel
theorem dX2_nextLegsAreSound_50 : decode cX2_nextLegsAreSound 50 = .ok (.iload_n 3, 1) := by decide +kernel
theorem dX2_nextLegsAreSound_51 : decode cX2_nextLegsAreSound 51 = .ok (.invokestatic 115, 3) := by decide +kernel
theorem dX2_nextLegsAreSound_54 : decode cX2_nextLegsAreSound 54 = .ok (.ifCond .ne 5, 3) := by decide +kernel
theorem dX2_nextLegsAreSound_57 : decode cX2_nextLegsAreSound 57 = .ok (.iconst 0, 1) := by decide +kernel
theorem dX2_nextLegsAreSound_58 : decode cX2_nextLegsAreSound 58 = .ok (.ireturn, 1) := by decide +kernel
theorem dX2_nextLegsAreSound_59 : decode cX2_nextLegsAreSound 59 = .ok (.iload_n 1, 1) := by decide +kernel
theorem dX2_nextLegsAreSound_60 : decode cX2_nextLegsAreSound 60 = .ok (.iload_n 3, 1) := by decide +kernel
theorem dX2_nextLegsAreSound_61 : decode cX2_nextLegsAreSound 61 = .ok (.iadd, 1) := by decide +kernel
theorem dX2_nextLegsAreSound_62 : decode cX2_nextLegsAreSound 62 = .ok (.istore_n 1, 1) := by decide +kernel
theorem dX2_nextLegsAreSound_63 : decode cX2_nextLegsAreSound 63 = .ok (.iinc 2 1, 3) := by decide +kernel
theorem dX2_nextLegsAreSound_66 : decode cX2_nextLegsAreSound 66 = .ok (.goto (-62), 3) := by decide +kernel
theorem dX2_nextLegsAreSound_69 : decode cX2_nextLegsAreSound 69 = .ok (.iload_n 1, 1) := by decide +kernel
theorem dX2_nextLegsAreSound_70 : decode cX2_nextLegsAreSound 70 = .ok (.ifCond .ne 7, 3) := by decide +kernel
theorem dX2_nextLegsAreSound_73 : decode cX2_nextLegsAreSound 73 = .ok (.iconst 1, 1) := by decide +kernel
theorem dX2_nextLegsAreSound_74 : decode cX2_nextLegsAreSound 74 = .ok (.goto 4, 3) := by decide +kernel
theorem dX2_nextLegsAreSound_77 : decode cX2_nextLegsAreSound 77 = .ok (.iconst 0, 1) := by decide +kernel
theorem dX2_nextLegsAreSound_78 : decode cX2_nextLegsAreSound 78 = .ok (.ireturn, 1) := by decide +kernel
theorem dX2_nextIsSound_0 : decode cX2_nextIsSound 0 = .ok (.aload_n 0, 1) := by decide +kernel
theorem dX2_nextIsSound_1 : decode cX2_nextIsSound 1 = .ok (.invokevirtual 105, 3) := by decide +kernel
theorem dX2_nextIsSound_4 : decode cX2_nextIsSound 4 = .ok (.ifCond .eq 45, 3) := by decide +kernel
theorem dX2_nextIsSound_7 : decode cX2_nextIsSound 7 = .ok (.aload_n 0, 1) := by decide +kernel
theorem dX2_nextIsSound_8 : decode cX2_nextIsSound 8 = .ok (.invokevirtual 108, 3) := by decide +kernel
theorem dX2_nextIsSound_11 : decode cX2_nextIsSound 11 = .ok (.ifCond .eq 38, 3) := by decide +kernel
theorem dX2_nextIsSound_14 : decode cX2_nextIsSound 14 = .ok (.aload_n 0, 1) := by decide +kernel
theorem dX2_nextIsSound_15 : decode cX2_nextIsSound 15 = .ok (.getfield 9, 3) := by decide +kernel
theorem dX2_nextIsSound_18 : decode cX2_nextIsSound 18 = .ok (.aload_n 0, 1) := by decide +kernel
theorem dX2_nextIsSound_19 : decode cX2_nextIsSound 19 = .ok (.aload_n 0, 1) := by decide +kernel
theorem dX2_nextIsSound_20 : decode cX2_nextIsSound 20 = .ok (.getfield 28, 3) := by decide +kernel
theorem dX2_nextIsSound_23 : decode cX2_nextIsSound 23 = .ok (.invokevirtual 66, 3) := by decide +kernel
theorem dX2_nextIsSound_26 : decode cX2_nextIsSound 26 = .ok (.iaload, 1) := by decide +kernel
theorem dX2_nextIsSound_27 : decode cX2_nextIsSound 27 = .ok (.aload_n 0, 1) := by decide +kernel
theorem dX2_nextIsSound_28 : decode cX2_nextIsSound 28 = .ok (.invokevirtual 69, 3) := by decide +kernel
theorem dX2_nextIsSound_31 : decode cX2_nextIsSound 31 = .ok (.aload_n 0, 1) := by decide +kernel
theorem dX2_nextIsSound_32 : decode cX2_nextIsSound 32 = .ok (.aload_n 0, 1) := by decide +kernel
theorem dX2_nextIsSound_33 : decode cX2_nextIsSound 33 = .ok (.getfield 28, 3) := by decide +kernel
theorem dX2_nextIsSound_36 : decode cX2_nextIsSound 36 = .ok (.invokevirtual 72, 3) := by decide +kernel
theorem dX2_nextIsSound_39 : decode cX2_nextIsSound 39 = .ok (.invokestatic 75, 3) := by decide +kernel
theorem dX2_nextIsSound_42 : decode cX2_nextIsSound 42 = .ok (.if_icmp .ne 7, 3) := by decide +kernel
theorem dX2_nextIsSound_45 : decode cX2_nextIsSound 45 = .ok (.iconst 1, 1) := by decide +kernel
theorem dX2_nextIsSound_46 : decode cX2_nextIsSound 46 = .ok (.goto 4, 3) := by decide +kernel
theorem dX2_nextIsSound_49 : decode cX2_nextIsSound 49 = .ok (.iconst 0, 1) := by decide +kernel
theorem dX2_nextIsSound_50 : decode cX2_nextIsSound 50 = .ok (.ireturn, 1) := by decide +kernel
theorem dX2_load_0 : decode cX2_load 0 = .ok (.aload_n 0, 1) := by decide +kernel
theorem dX2_load_1 : decode cX2_load 1 = .ok (.invokevirtual 81, 3) := by decide +kernel
theorem dX2_load_4 : decode cX2_load 4 = .ok (.iconst 0, 1) := by decide +kernel
theorem dX2_load_5 : decode cX2_load 5 = .ok (.istore_n 2, 1) := by decide +kernel
theorem dX2_load_6 : decode cX2_load 6 = .ok (.iload_n 2, 1) := by decide +kernel
theorem dX2_load_7 : decode cX2_load 7 = .ok (.sipush 512, 3) := by decide +kernel
theorem dX2_load_10 : decode cX2_load 10 = .ok (.if_icmp .ge 20, 3) := by decide +kernel
theorem dX2_load_13 : decode cX2_load 13 = .ok (.aload_n 0, 1) := by decide +kernel
theorem dX2_load_14 : decode cX2_load 14 = .ok (.getfield 9, 3) := by decide +kernel
theorem dX2_load_17 : decode cX2_load 17 = .ok (.iload_n 2, 1) := by decide +kernel
theorem dX2_load_18 : decode cX2_load 18 = .ok (.aload_n 1, 1) := by decide +kernel
theorem dX2_load_19 : decode cX2_load 19 = .ok (.iload_n 2, 1) := by decide +kernel
theorem dX2_load_20 : decode cX2_load 20 = .ok (.invokevirtual 84, 3) := by decide +kernel
theorem dX2_load_23 : decode cX2_load 23 = .ok (.iastore, 1) := by decide +kernel
theorem dX2_load_24 : decode cX2_load 24 = .ok (.iinc 2 1, 3) := by decide +kernel
theorem dX2_load_27 : decode cX2_load 27 = .ok (.goto (-21), 3) := by decide +kernel
theorem dX2_load_30 : decode cX2_load 30 = .ok (.iconst 0, 1) := by decide +kernel
theorem dX2_load_31 : decode cX2_load 31 = .ok (.istore_n 2, 1) := by decide +kernel
theorem dX2_load_32 : decode cX2_load 32 = .ok (.iload_n 2, 1) := by decide +kernel
theorem dX2_load_33 : decode cX2_load 33 = .ok (.bipush 73, 2) := by decide +kernel
theorem dX2_load_35 : decode cX2_load 35 = .ok (.if_icmp .ge 20, 3) := by decide +kernel
theorem dX2_load_38 : decode cX2_load 38 = .ok (.aload_n 0, 1) := by decide +kernel
theorem dX2_load_39 : decode cX2_load 39 = .ok (.invokevirtual 89, 3) := by decide +kernel
theorem dX2_load_42 : decode cX2_load 42 = .ok (.ifCond .eq 13, 3) := by decide +kernel
theorem dX2_load_45 : decode cX2_load 45 = .ok (.aload_n 0, 1) := by decide +kernel
theorem dX2_load_46 : decode cX2_load 46 = .ok (.invokevirtual 78, 3) := by decide +kernel
theorem dX2_load_49 : decode cX2_load 49 = .ok (.iinc 2 1, 3) := by decide +kernel
theorem dX2_load_52 : decode cX2_load 52 = .ok (.goto (-20), 3) := by decide +kernel
theorem dX2_load_55 : decode cX2_load 55 = .ok (.aload_n 0, 1) := by decide +kernel
theorem dX2_load_56 : decode cX2_load 56 = .ok (.invokevirtual 38, 3) := by decide +kernel
theorem dX2_load_59 : decode cX2_load 59 = .ok (.aload_n 0, 1) := by decide +kernel
theorem dX2_load_60 : decode cX2_load 60 = .ok (.invokevirtual 41, 3) := by decide +kernel
theorem dX2_load_63 : decode cX2_load 63 = .ok (.return_, 1) := by decide +kernel
theorem dX2_endsInBlock_0 : decode cX2_endsInBlock 0 = .ok (.aload_n 0, 1) := by decide +kernel
theorem dX2_endsInBlock_1 : decode cX2_endsInBlock 1 = .ok (.getfield 28, 3) := by decide +kernel
theorem dX2_endsInBlock_4 : decode cX2_endsInBlock 4 = .ok (.sipush 512, 3) := by decide +kernel
theorem dX2_endsInBlock_7 : decode cX2_endsInBlock 7 = .ok (.if_icmp .ge 7, 3) := by decide +kernel
theorem dX2_endsInBlock_10 : decode cX2_endsInBlock 10 = .ok (.iconst 1, 1) := by decide +kernel
theorem dX2_endsInBlock_11 : decode cX2_endsInBlock 11 = .ok (.goto 4, 3) := by decide +kernel
theorem dX2_endsInBlock_14 : decode cX2_endsInBlock 14 = .ok (.iconst 0, 1) := by decide +kernel
theorem dX2_endsInBlock_15 : decode cX2_endsInBlock 15 = .ok (.ireturn, 1) := by decide +kernel
theorem dX5_recover_0 : decode cX5_recover 0 = .ok (.aload_n 0, 1) := by decide +kernel
theorem dX5_recover_1 : decode cX5_recover 1 = .ok (.getfield 41, 3) := by decide +kernel
theorem dX5_recover_4 : decode cX5_recover 4 = .ok (.ifCond .eq 5, 3) := by decide +kernel
theorem dX5_recover_7 : decode cX5_recover 7 = .ok (.iconst (-1), 1) := by decide +kernel
theorem dX5_recover_8 : decode cX5_recover 8 = .ok (.ireturn, 1) := by decide +kernel
theorem dX5_recover_9 : decode cX5_recover 9 = .ok (.aload_n 0, 1) := by decide +kernel
theorem dX5_recover_10 : decode cX5_recover 10 = .ok (.getfield 23, 3) := by decide +kernel
theorem dX5_recover_13 : decode cX5_recover 13 = .ok (.aload_n 0, 1) := by decide +kernel
theorem dX5_recover_14 : decode cX5_recover 14 = .ok (.getfield 30, 3) := by decide +kernel
theorem dX5_recover_17 : decode cX5_recover 17 = .ok (.invokevirtual 92, 3) := by decide +kernel
theorem dX5_recover_20 : decode cX5_recover 20 = .ok (.aload_n 0, 1) := by decide +kernel
theorem dX5_recover_21 : decode cX5_recover 21 = .ok (.iconst 1, 1) := by decide +kernel
theorem dX5_recover_22 : decode cX5_recover 22 = .ok (.putfield 41, 3) := by decide +kernel
theorem dX5_recover_25 : decode cX5_recover 25 = .ok (.aload_n 0, 1) := by decide +kernel
theorem dX5_recover_26 : decode cX5_recover 26 = .ok (.getfield 23, 3) := by decide +kernel
theorem dX5_recover_29 : decode cX5_recover 29 = .ok (.invokevirtual 96, 3) := by decide +kernel
theorem dX5_recover_32 : decode cX5_recover 32 = .ok (.ifCond .eq 20, 3) := by decide +kernel
theorem dX5_recover_35 : decode cX5_recover 35 = .ok (.aload_n 0, 1) := by decide +kernel
theorem dX5_recover_36 : decode cX5_recover 36 = .ok (.aload_n 0, 1) := by decide +kernel
theorem dX5_recover_37 : decode cX5_recover 37 = .ok (.getfield 23, 3) := by decide +kernel
theorem dX5_recover_40 : decode cX5_recover 40 = .ok (.invokevirtual 79, 3) := by decide +kernel
theorem dX5_recover_43 : decode cX5_recover 43 = .ok (.invokevirtual 82, 3) := by decide +kernel
theorem dX5_recover_46 : decode cX5_recover 46 = .ok (.ifCond .ne 6, 3) := by decide +kernel
theorem dX5_recover_49 : decode cX5_recover 49 = .ok (.bipush (-2), 2) := by decide +kernel
theorem dX5_recover_51 : decode cX5_recover 51 = .ok (.ireturn, 1) := by decide +kernel
theorem dX5_recover_52 : decode cX5_recover 52 = .ok (.aload_n 0, 1) := by decide +kernel
theorem dX5_recover_53 : decode cX5_recover 53 = .ok (.getfield 23, 3) := by decide +kernel
theorem dX5_recover_56 : decode cX5_recover 56 = .ok (.invokevirtual 99, 3) := by decide +kernel
theorem dX5_recover_59 : decode cX5_recover 59 = .ok (.ireturn, 1) := by decide +kernel
theorem dX5_on_0 : decode cX5_on 0 = .ok (.aload_n 0, 1) := by decide +kernel
theorem dX5_on_1 : decode cX5_on 1 = .ok (.getfield 41, 3) := by decide +kernel
theorem dX5_on_4 : decode cX5_on 4 = .ok (.ireturn, 1) := by decide +kernel
theorem dX5_entries_0 : decode cX5_entries 0 = .ok (.aload_n 0, 1) := by decide +kernel
theorem dX5_entries_1 : decode cX5_entries 1 = .ok (.getfield 23, 3) := by decide +kernel
theorem dX5_entries_4 : decode cX5_entries 4 = .ok (.invokevirtual 99, 3) := by decide +kernel
theorem dX5_entries_7 : decode cX5_entries 7 = .ok (.ireturn, 1) := by decide +kernel
theorem dX2_syncedSize_0 : decode cX2_syncedSize 0 = .ok (.aload_n 0, 1) := by decide +kernel
theorem dX2_syncedSize_1 : decode cX2_syncedSize 1 = .ok (.getfield 25, 3) := by decide +kernel
theorem dX2_syncedSize_4 : decode cX2_syncedSize 4 = .ok (.ireturn, 1) := by decide +kernel
theorem dX5_synced_0 : decode cX5_synced 0 = .ok (.aload_n 0, 1) := by decide +kernel
theorem dX5_synced_1 : decode cX5_synced 1 = .ok (.getfield 23, 3) := by decide +kernel
theorem dX5_synced_4 : decode cX5_synced 4 = .ok (.invokevirtual 102, 3) := by decide +kernel
theorem dX5_synced_7 : decode cX5_synced 7 = .ok (.ireturn, 1) := by decide +kernel
theorem dX5_balance_0 : decode cX5_balance 0 = .ok (.iload_n 1, 1) := by decide +kernel
theorem dX5_balance_1 : decode cX5_balance 1 = .ok (.invokestatic 45, 3) := by decide +kernel
theorem dX5_balance_4 : decode cX5_balance 4 = .ok (.ifCond .eq 18, 3) := by decide +kernel
theorem dX5_balance_7 : decode cX5_balance 7 = .ok (.iload_n 2, 1) := by decide +kernel
theorem dX5_balance_8 : decode cX5_balance 8 = .ok (.ifCond .lt 14, 3) := by decide +kernel
theorem dX5_balance_11 : decode cX5_balance 11 = .ok (.iload_n 2, 1) := by decide +kernel
theorem dX5_balance_12 : decode cX5_balance 12 = .ok (.aload_n 0, 1) := by decide +kernel
theorem dX5_balance_13 : decode cX5_balance 13 = .ok (.getfield 23, 3) := by decide +kernel
theorem dX5_balance_16 : decode cX5_balance 16 = .ok (.invokevirtual 99, 3) := by decide +kernel
theorem dX5_balance_19 : decode cX5_balance 19 = .ok (.if_icmp .le 5, 3) := by decide +kernel
theorem dX5_balance_22 : decode cX5_balance 22 = .ok (.iconst 0, 1) := by decide +kernel
theorem dX5_balance_23 : decode cX5_balance 23 = .ok (.ireturn, 1) := by decide +kernel
theorem dX5_balance_24 : decode cX5_balance 24 = .ok (.aload_n 0, 1) := by decide +kernel
theorem dX5_balance_25 : decode cX5_balance 25 = .ok (.getfield 23, 3) := by decide +kernel
theorem dX5_balance_28 : decode cX5_balance 28 = .ok (.iload_n 1, 1) := by decide +kernel
theorem dX5_balance_29 : decode cX5_balance 29 = .ok (.iconst 0, 1) := by decide +kernel
theorem dX5_balance_30 : decode cX5_balance 30 = .ok (.iload_n 2, 1) := by decide +kernel
theorem dX5_balance_31 : decode cX5_balance 31 = .ok (.iconst 1, 1) := by decide +kernel
theorem dX5_balance_32 : decode cX5_balance 32 = .ok (.invokevirtual 105, 3) := by decide +kernel
theorem dX5_balance_35 : decode cX5_balance 35 = .ok (.ireturn, 1) := by decide +kernel
theorem dX5_statement_0 : decode cX5_statement 0 = .ok (.iload_n 1, 1) := by decide +kernel
theorem dX5_statement_1 : decode cX5_statement 1 = .ok (.invokestatic 45, 3) := by decide +kernel
theorem dX5_statement_4 : decode cX5_statement 4 = .ok (.ifCond .eq 18, 3) := by decide +kernel
theorem dX5_statement_7 : decode cX5_statement 7 = .ok (.aload_n 0, 1) := by decide +kernel
theorem dX5_statement_8 : decode cX5_statement 8 = .ok (.getfield 23, 3) := by decide +kernel
theorem dX5_statement_11 : decode cX5_statement 11 = .ok (.iload_n 1, 1) := by decide +kernel
theorem dX5_statement_12 : decode cX5_statement 12 = .ok (.iload_n 2, 1) := by decide +kernel
theorem dX5_statement_13 : decode cX5_statement 13 = .ok (.iload_n 3, 1) := by decide +kernel
theorem dX5_statement_14 : decode cX5_statement 14 = .ok (.iload 4, 2) := by decide +kernel
theorem dX5_statement_16 : decode cX5_statement 16 = .ok (.invokevirtual 105, 3) := by decide +kernel
theorem dX5_statement_19 : decode cX5_statement 19 = .ok (.goto 4, 3) := by decide +kernel
theorem dX5_statement_22 : decode cX5_statement 22 = .ok (.iconst 0, 1) := by decide +kernel
theorem dX5_statement_23 : decode cX5_statement 23 = .ok (.ireturn, 1) := by decide +kernel
theorem dX5_find_0 : decode cX5_find 0 = .ok (.aload_n 0, 1) := by decide +kernel
theorem dX5_find_1 : decode cX5_find 1 = .ok (.getfield 23, 3) := by decide +kernel
theorem dX5_find_4 : decode cX5_find 4 = .ok (.iload_n 1, 1) := by decide +kernel
theorem dX5_find_5 : decode cX5_find 5 = .ok (.invokevirtual 64, 3) := by decide +kernel
theorem dX5_find_8 : decode cX5_find 8 = .ok (.ireturn, 1) := by decide +kernel
theorem dX2_leafOf_0 : decode cX2_leafOf 0 = .ok (.iload_n 1, 1) := by decide +kernel
theorem dX2_leafOf_1 : decode cX2_leafOf 1 = .ok (.ifCond .lt 20, 3) := by decide +kernel
theorem dX2_leafOf_4 : decode cX2_leafOf 4 = .ok (.iload_n 1, 1) := by decide +kernel
theorem dX2_leafOf_5 : decode cX2_leafOf 5 = .ok (.aload_n 0, 1) := by decide +kernel
theorem dX2_leafOf_6 : decode cX2_leafOf 6 = .ok (.getfield 21, 3) := by decide +kernel
theorem dX2_leafOf_9 : decode cX2_leafOf 9 = .ok (.if_icmp .ge 12, 3) := by decide +kernel
theorem dX2_leafOf_12 : decode cX2_leafOf 12 = .ok (.aload_n 0, 1) := by decide +kernel
theorem dX2_leafOf_13 : decode cX2_leafOf 13 = .ok (.getfield 18, 3) := by decide +kernel
theorem dX2_leafOf_16 : decode cX2_leafOf 16 = .ok (.iload_n 1, 1) := by decide +kernel
theorem dX2_leafOf_17 : decode cX2_leafOf 17 = .ok (.iaload, 1) := by decide +kernel
theorem dX2_leafOf_18 : decode cX2_leafOf 18 = .ok (.goto 4, 3) := by decide +kernel
theorem dX2_leafOf_21 : decode cX2_leafOf 21 = .ok (.iconst 0, 1) := by decide +kernel
theorem dX2_leafOf_22 : decode cX2_leafOf 22 = .ok (.ireturn, 1) := by decide +kernel
theorem dX5_leaf_0 : decode cX5_leaf 0 = .ok (.aload_n 0, 1) := by decide +kernel
theorem dX5_leaf_1 : decode cX5_leaf 1 = .ok (.getfield 23, 3) := by decide +kernel
theorem dX5_leaf_4 : decode cX5_leaf 4 = .ok (.iload_n 1, 1) := by decide +kernel
theorem dX5_leaf_5 : decode cX5_leaf 5 = .ok (.invokevirtual 109, 3) := by decide +kernel
theorem dX5_leaf_8 : decode cX5_leaf 8 = .ok (.ireturn, 1) := by decide +kernel
theorem dX5_split_0 : decode cX5_split 0 = .ok (.iconst 1, 1) := by decide +kernel
theorem dX5_split_1 : decode cX5_split 1 = .ok (.istore_n 1, 1) := by decide +kernel
theorem dX5_split_2 : decode cX5_split 2 = .ok (.iconst 0, 1) := by decide +kernel
theorem dX5_split_3 : decode cX5_split 3 = .ok (.istore_n 2, 1) := by decide +kernel
theorem dX5_split_4 : decode cX5_split 4 = .ok (.iload_n 2, 1) := by decide +kernel
theorem dX5_split_5 : decode cX5_split 5 = .ok (.bipush 10, 2) := by decide +kernel
theorem dX5_split_7 : decode cX5_split 7 = .ok (.if_icmp .ge 20, 3) := by decide +kernel
theorem dX5_split_10 : decode cX5_split 10 = .ok (.iconst 2, 1) := by decide +kernel
theorem dX5_split_11 : decode cX5_split 11 = .ok (.iload_n 1, 1) := by decide +kernel
theorem dX5_split_12 : decode cX5_split 12 = .ok (.imul, 1) := by decide +kernel
theorem dX5_split_13 : decode cX5_split 13 = .ok (.iload_n 0, 1) := by decide +kernel
theorem dX5_split_14 : decode cX5_split 14 = .ok (.if_icmp .ge 13, 3) := by decide +kernel
theorem dX5_split_17 : decode cX5_split 17 = .ok (.iconst 2, 1) := by decide +kernel
theorem dX5_split_18 : decode cX5_split 18 = .ok (.iload_n 1, 1) := by decide +kernel
theorem dX5_split_19 : decode cX5_split 19 = .ok (.imul, 1) := by decide +kernel
theorem dX5_split_20 : decode cX5_split 20 = .ok (.istore_n 1, 1) := by decide +kernel
theorem dX5_split_21 : decode cX5_split 21 = .ok (.iinc 2 1, 3) := by decide +kernel
theorem dX5_split_24 : decode cX5_split 24 = .ok (.goto (-20), 3) := by decide +kernel
theorem dX5_split_27 : decode cX5_split 27 = .ok (.iload_n 1, 1) := by decide +kernel
theorem dX5_split_28 : decode cX5_split 28 = .ok (.ireturn, 1) := by decide +kernel
theorem dX5_node_0 : decode cX5_node 0 = .ok (.iconst 1, 1) := by decide +kernel
theorem dX5_node_1 : decode cX5_node 1 = .ok (.iload_n 0, 1) := by decide +kernel
theorem dX5_node_2 : decode cX5_node 2 = .ok (.invokestatic 174, 3) := by decide +kernel
theorem dX5_node_5 : decode cX5_node 5 = .ok (.iload_n 1, 1) := by decide +kernel
theorem dX5_node_6 : decode cX5_node 6 = .ok (.invokestatic 174, 3) := by decide +kernel
theorem dX5_node_9 : decode cX5_node 9 = .ok (.ireturn, 1) := by decide +kernel
theorem dX4_hash_0 : decode cX4_hash 0 = .ok (.iload_n 2, 1) := by decide +kernel
theorem dX4_hash_1 : decode cX4_hash 1 = .ok (.iconst 1, 1) := by decide +kernel
theorem dX4_hash_2 : decode cX4_hash 2 = .ok (.if_icmp .le 7, 3) := by decide +kernel
theorem dX4_hash_5 : decode cX4_hash 5 = .ok (.iload_n 3, 1) := by decide +kernel
theorem dX4_hash_6 : decode cX4_hash 6 = .ok (.ifCond .gt 9, 3) := by decide +kernel
theorem dX4_hash_9 : decode cX4_hash 9 = .ok (.aload_n 0, 1) := by decide +kernel
theorem dX4_hash_10 : decode cX4_hash 10 = .ok (.iload_n 1, 1) := by decide +kernel
theorem dX4_hash_11 : decode cX4_hash 11 = .ok (.invokevirtual 27, 3) := by decide +kernel
theorem dX4_hash_14 : decode cX4_hash 14 = .ok (.ireturn, 1) := by decide +kernel
theorem dX4_hash_15 : decode cX4_hash 15 = .ok (.iload_n 2, 1) := by decide +kernel
theorem dX4_hash_16 : decode cX4_hash 16 = .ok (.invokestatic 33, 3) := by decide +kernel
theorem dX4_hash_19 : decode cX4_hash 19 = .ok (.istore 4, 2) := by decide +kernel
theorem dX4_hash_21 : decode cX4_hash 21 = .ok (.aload_n 0, 1) := by decide +kernel
theorem dX4_hash_22 : decode cX4_hash 22 = .ok (.iload_n 1, 1) := by decide +kernel
theorem dX4_hash_23 : decode cX4_hash 23 = .ok (.iload 4, 2) := by decide +kernel
theorem dX4_hash_25 : decode cX4_hash 25 = .ok (.iload_n 3, 1) := by decide +kernel
theorem dX4_hash_26 : decode cX4_hash 26 = .ok (.iconst 1, 1) := by decide +kernel
theorem dX4_hash_27 : decode cX4_hash 27 = .ok (.isub, 1) := by decide +kernel
theorem dX4_hash_28 : decode cX4_hash 28 = .ok (.invokestatic 13, 3) := by decide +kernel
theorem dX4_hash_31 : decode cX4_hash 31 = .ok (.aload_n 0, 1) := by decide +kernel
theorem dX4_hash_32 : decode cX4_hash 32 = .ok (.iload_n 1, 1) := by decide +kernel
theorem dX4_hash_33 : decode cX4_hash 33 = .ok (.iload 4, 2) := by decide +kernel
theorem dX4_hash_35 : decode cX4_hash 35 = .ok (.iadd, 1) := by decide +kernel
theorem dX4_hash_36 : decode cX4_hash 36 = .ok (.iload_n 2, 1) := by decide +kernel
theorem dX4_hash_37 : decode cX4_hash 37 = .ok (.iload 4, 2) := by decide +kernel
theorem dX4_hash_39 : decode cX4_hash 39 = .ok (.isub, 1) := by decide +kernel
theorem dX4_hash_40 : decode cX4_hash 40 = .ok (.iload_n 3, 1) := by decide +kernel
theorem dX4_hash_41 : decode cX4_hash 41 = .ok (.iconst 1, 1) := by decide +kernel
theorem dX4_hash_42 : decode cX4_hash 42 = .ok (.isub, 1) := by decide +kernel
theorem dX4_hash_43 : decode cX4_hash 43 = .ok (.invokestatic 13, 3) := by decide +kernel
theorem dX4_hash_46 : decode cX4_hash 46 = .ok (.invokestatic 36, 3) := by decide +kernel
theorem dX4_hash_49 : decode cX4_hash 49 = .ok (.ireturn, 1) := by decide +kernel
theorem dX4_headOf_0 : decode cX4_headOf 0 = .ok (.iload_n 1, 1) := by decide +kernel
theorem dX4_headOf_1 : decode cX4_headOf 1 = .ok (.ifCond .ne 11, 3) := by decide +kernel
theorem dX4_headOf_4 : decode cX4_headOf 4 = .ok (.iconst 2, 1) := by decide +kernel
theorem dX4_headOf_5 : decode cX4_headOf 5 = .ok (.iconst 0, 1) := by decide +kernel
theorem dX4_headOf_6 : decode cX4_headOf 6 = .ok (.invokestatic 9, 3) := by decide +kernel
theorem dX4_headOf_9 : decode cX4_headOf 9 = .ok (.goto 11, 3) := by decide +kernel
theorem dX4_headOf_12 : decode cX4_headOf 12 = .ok (.aload_n 0, 1) := by decide +kernel
theorem dX4_headOf_13 : decode cX4_headOf 13 = .ok (.iconst 0, 1) := by decide +kernel
theorem dX4_headOf_14 : decode cX4_headOf 14 = .ok (.iload_n 1, 1) := by decide +kernel
theorem dX4_headOf_15 : decode cX4_headOf 15 = .ok (.bipush 10, 2) := by decide +kernel
theorem dX4_headOf_17 : decode cX4_headOf 17 = .ok (.invokestatic 13, 3) := by decide +kernel
theorem dX4_headOf_20 : decode cX4_headOf 20 = .ok (.ireturn, 1) := by decide +kernel
theorem dX5_head_0 : decode cX5_head 0 = .ok (.iload_n 1, 1) := by decide +kernel
theorem dX5_head_1 : decode cX5_head 1 = .ok (.ifCond .lt 14, 3) := by decide +kernel
theorem dX5_head_4 : decode cX5_head 4 = .ok (.iload_n 1, 1) := by decide +kernel
theorem dX5_head_5 : decode cX5_head 5 = .ok (.aload_n 0, 1) := by decide +kernel
theorem dX5_head_6 : decode cX5_head 6 = .ok (.getfield 23, 3) := by decide +kernel
theorem dX5_head_9 : decode cX5_head 9 = .ok (.invokevirtual 102, 3) := by decide +kernel
theorem dX5_head_12 : decode cX5_head 12 = .ok (.if_icmp .le 7, 3) := by decide +kernel
theorem dX5_head_15 : decode cX5_head 15 = .ok (.iconst 0, 1) := by decide +kernel
theorem dX5_head_16 : decode cX5_head 16 = .ok (.goto 11, 3) := by decide +kernel
theorem dX5_head_19 : decode cX5_head 19 = .ok (.aload_n 0, 1) := by decide +kernel
theorem dX5_head_20 : decode cX5_head 20 = .ok (.getfield 23, 3) := by decide +kernel
theorem dX5_head_23 : decode cX5_head 23 = .ok (.iload_n 1, 1) := by decide +kernel
theorem dX5_head_24 : decode cX5_head 24 = .ok (.invokestatic 112, 3) := by decide +kernel
theorem dX5_head_27 : decode cX5_head 27 = .ok (.ireturn, 1) := by decide +kernel
theorem dX3_clear_0 : decode cX3_clear 0 = .ok (.aload_n 0, 1) := by decide +kernel
theorem dX3_clear_1 : decode cX3_clear 1 = .ok (.iconst 0, 1) := by decide +kernel
theorem dX3_clear_2 : decode cX3_clear 2 = .ok (.putfield 15, 3) := by decide +kernel
theorem dX3_clear_5 : decode cX3_clear 5 = .ok (.return_, 1) := by decide +kernel
theorem dX3_add_0 : decode cX3_add 0 = .ok (.aload_n 0, 1) := by decide +kernel
theorem dX3_add_1 : decode cX3_add 1 = .ok (.getfield 15, 3) := by decide +kernel
theorem dX3_add_4 : decode cX3_add 4 = .ok (.bipush 16, 2) := by decide +kernel
theorem dX3_add_6 : decode cX3_add 6 = .ok (.if_icmp .lt 5, 3) := by decide +kernel
theorem dX3_add_9 : decode cX3_add 9 = .ok (.iconst 0, 1) := by decide +kernel
theorem dX3_add_10 : decode cX3_add 10 = .ok (.ireturn, 1) := by decide +kernel
theorem dX3_add_11 : decode cX3_add 11 = .ok (.aload_n 0, 1) := by decide +kernel
theorem dX3_add_12 : decode cX3_add 12 = .ok (.getfield 9, 3) := by decide +kernel
theorem dX3_add_15 : decode cX3_add 15 = .ok (.aload_n 0, 1) := by decide +kernel
theorem dX3_add_16 : decode cX3_add 16 = .ok (.getfield 15, 3) := by decide +kernel
theorem dX3_add_19 : decode cX3_add 19 = .ok (.iload_n 1, 1) := by decide +kernel
theorem dX3_add_20 : decode cX3_add 20 = .ok (.iastore, 1) := by decide +kernel
theorem dX3_add_21 : decode cX3_add 21 = .ok (.aload_n 0, 1) := by decide +kernel
theorem dX3_add_22 : decode cX3_add 22 = .ok (.dup, 1) := by decide +kernel
theorem dX3_add_23 : decode cX3_add 23 = .ok (.getfield 15, 3) := by decide +kernel
theorem dX3_add_26 : decode cX3_add 26 = .ok (.iconst 1, 1) := by decide +kernel
theorem dX3_add_27 : decode cX3_add 27 = .ok (.iadd, 1) := by decide +kernel
theorem dX3_add_28 : decode cX3_add 28 = .ok (.putfield 15, 3) := by decide +kernel
theorem dX3_add_31 : decode cX3_add 31 = .ok (.iconst 1, 1) := by decide +kernel
theorem dX3_add_32 : decode cX3_add 32 = .ok (.ireturn, 1) := by decide +kernel
theorem dX4_inclusion_0 : decode cX4_inclusion 0 = .ok (.iload 4, 2) := by decide +kernel
theorem dX4_inclusion_2 : decode cX4_inclusion 2 = .ok (.iconst 1, 1) := by decide +kernel
theorem dX4_inclusion_3 : decode cX4_inclusion 3 = .ok (.if_icmp .le 8, 3) := by decide +kernel
theorem dX4_inclusion_6 : decode cX4_inclusion 6 = .ok (.iload 5, 2) := by decide +kernel
theorem dX4_inclusion_8 : decode cX4_inclusion 8 = .ok (.ifCond .gt 4, 3) := by decide +kernel
theorem dX4_inclusion_11 : decode cX4_inclusion 11 = .ok (.return_, 1) := by decide +kernel
theorem dX4_inclusion_12 : decode cX4_inclusion 12 = .ok (.iload 4, 2) := by decide +kernel
theorem dX4_inclusion_14 : decode cX4_inclusion 14 = .ok (.invokestatic 33, 3) := by decide +kernel
theorem dX4_inclusion_17 : decode cX4_inclusion 17 = .ok (.istore 6, 2) := by decide +kernel
theorem dX4_inclusion_19 : decode cX4_inclusion 19 = .ok (.iload_n 2, 1) := by decide +kernel
theorem dX4_inclusion_20 : decode cX4_inclusion 20 = .ok (.iload 6, 2) := by decide +kernel
theorem dX4_inclusion_22 : decode cX4_inclusion 22 = .ok (.if_icmp .ge 41, 3) := by decide +kernel
theorem dX4_inclusion_25 : decode cX4_inclusion 25 = .ok (.aload_n 0, 1) := by decide +kernel
theorem dX4_inclusion_26 : decode cX4_inclusion 26 = .ok (.aload_n 1, 1) := by decide +kernel
theorem dX4_inclusion_27 : decode cX4_inclusion 27 = .ok (.iload_n 2, 1) := by decide +kernel
theorem dX4_inclusion_28 : decode cX4_inclusion 28 = .ok (.iload_n 3, 1) := by decide +kernel
theorem dX4_inclusion_29 : decode cX4_inclusion 29 = .ok (.iload 6, 2) := by decide +kernel
theorem dX4_inclusion_31 : decode cX4_inclusion 31 = .ok (.iload 5, 2) := by decide +kernel
theorem dX4_inclusion_33 : decode cX4_inclusion 33 = .ok (.iconst 1, 1) := by decide +kernel
theorem dX4_inclusion_34 : decode cX4_inclusion 34 = .ok (.isub, 1) := by decide +kernel
theorem dX4_inclusion_35 : decode cX4_inclusion 35 = .ok (.invokestatic 19, 3) := by decide +kernel
theorem dX4_inclusion_38 : decode cX4_inclusion 38 = .ok (.aload_n 1, 1) := by decide +kernel
theorem dX4_inclusion_39 : decode cX4_inclusion 39 = .ok (.aload_n 0, 1) := by decide +kernel
theorem dX4_inclusion_40 : decode cX4_inclusion 40 = .ok (.iload_n 3, 1) := by decide +kernel
theorem dX4_inclusion_41 : decode cX4_inclusion 41 = .ok (.iload 6, 2) := by decide +kernel
theorem dX4_inclusion_43 : decode cX4_inclusion 43 = .ok (.iadd, 1) := by decide +kernel
theorem dX4_inclusion_44 : decode cX4_inclusion 44 = .ok (.iload 4, 2) := by decide +kernel
theorem dX4_inclusion_46 : decode cX4_inclusion 46 = .ok (.iload 6, 2) := by decide +kernel
theorem dX4_inclusion_48 : decode cX4_inclusion 48 = .ok (.isub, 1) := by decide +kernel
theorem dX4_inclusion_49 : decode cX4_inclusion 49 = .ok (.iload 5, 2) := by decide +kernel
theorem dX4_inclusion_51 : decode cX4_inclusion 51 = .ok (.iconst 1, 1) := by decide +kernel
theorem dX4_inclusion_52 : decode cX4_inclusion 52 = .ok (.isub, 1) := by decide +kernel
theorem dX4_inclusion_53 : decode cX4_inclusion 53 = .ok (.invokestatic 13, 3) := by decide +kernel
theorem dX4_inclusion_56 : decode cX4_inclusion 56 = .ok (.invokevirtual 39, 3) := by decide +kernel
theorem dX4_inclusion_59 : decode cX4_inclusion 59 = .ok (.pop, 1) := by decide +kernel
theorem dX4_inclusion_60 : decode cX4_inclusion 60 = .ok (.goto 41, 3) := by decide +kernel
theorem dX4_inclusion_63 : decode cX4_inclusion 63 = .ok (.aload_n 0, 1) := by decide +kernel
theorem dX4_inclusion_64 : decode cX4_inclusion 64 = .ok (.aload_n 1, 1) := by decide +kernel
theorem dX4_inclusion_65 : decode cX4_inclusion 65 = .ok (.iload_n 2, 1) := by decide +kernel
theorem dX4_inclusion_66 : decode cX4_inclusion 66 = .ok (.iload 6, 2) := by decide +kernel
theorem dX4_inclusion_68 : decode cX4_inclusion 68 = .ok (.isub, 1) := by decide +kernel
theorem dX4_inclusion_69 : decode cX4_inclusion 69 = .ok (.iload_n 3, 1) := by decide +kernel
theorem dX4_inclusion_70 : decode cX4_inclusion 70 = .ok (.iload 6, 2) := by decide +kernel
theorem dX4_inclusion_72 : decode cX4_inclusion 72 = .ok (.iadd, 1) := by decide +kernel
theorem dX4_inclusion_73 : decode cX4_inclusion 73 = .ok (.iload 4, 2) := by decide +kernel
theorem dX4_inclusion_75 : decode cX4_inclusion 75 = .ok (.iload 6, 2) := by decide +kernel
theorem dX4_inclusion_77 : decode cX4_inclusion 77 = .ok (.isub, 1) := by decide +kernel
theorem dX4_inclusion_78 : decode cX4_inclusion 78 = .ok (.iload 5, 2) := by decide +kernel
theorem dX4_inclusion_80 : decode cX4_inclusion 80 = .ok (.iconst 1, 1) := by decide +kernel
theorem dX4_inclusion_81 : decode cX4_inclusion 81 = .ok (.isub, 1) := by decide +kernel
theorem dX4_inclusion_82 : decode cX4_inclusion 82 = .ok (.invokestatic 19, 3) := by decide +kernel
theorem dX4_inclusion_85 : decode cX4_inclusion 85 = .ok (.aload_n 1, 1) := by decide +kernel
theorem dX4_inclusion_86 : decode cX4_inclusion 86 = .ok (.aload_n 0, 1) := by decide +kernel
theorem dX4_inclusion_87 : decode cX4_inclusion 87 = .ok (.iload_n 3, 1) := by decide +kernel
theorem dX4_inclusion_88 : decode cX4_inclusion 88 = .ok (.iload 6, 2) := by decide +kernel
theorem dX4_inclusion_90 : decode cX4_inclusion 90 = .ok (.iload 5, 2) := by decide +kernel
theorem dX4_inclusion_92 : decode cX4_inclusion 92 = .ok (.iconst 1, 1) := by decide +kernel
theorem dX4_inclusion_93 : decode cX4_inclusion 93 = .ok (.isub, 1) := by decide +kernel
theorem dX4_inclusion_94 : decode cX4_inclusion 94 = .ok (.invokestatic 13, 3) := by decide +kernel
theorem dX4_inclusion_97 : decode cX4_inclusion 97 = .ok (.invokevirtual 39, 3) := by decide +kernel
theorem dX4_inclusion_100 : decode cX4_inclusion 100 = .ok (.pop, 1) := by decide +kernel
theorem dX4_inclusion_101 : decode cX4_inclusion 101 = .ok (.return_, 1) := by decide +kernel
theorem dX4_addInclusion_0 : decode cX4_addInclusion 0 = .ok (.aload_n 0, 1) := by decide +kernel
theorem dX4_addInclusion_1 : decode cX4_addInclusion 1 = .ok (.aload_n 1, 1) := by decide +kernel
theorem dX4_addInclusion_2 : decode cX4_addInclusion 2 = .ok (.iload_n 2, 1) := by decide +kernel
theorem dX4_addInclusion_3 : decode cX4_addInclusion 3 = .ok (.iconst 0, 1) := by decide +kernel
theorem dX4_addInclusion_4 : decode cX4_addInclusion 4 = .ok (.iload_n 3, 1) := by decide +kernel
theorem dX4_addInclusion_5 : decode cX4_addInclusion 5 = .ok (.bipush 10, 2) := by decide +kernel
theorem dX4_addInclusion_7 : decode cX4_addInclusion 7 = .ok (.invokestatic 19, 3) := by decide +kernel
theorem dX4_addInclusion_10 : decode cX4_addInclusion 10 = .ok (.return_, 1) := by decide +kernel
theorem dX3_length_0 : decode cX3_length 0 = .ok (.aload_n 0, 1) := by decide +kernel
theorem dX3_length_1 : decode cX3_length 1 = .ok (.getfield 15, 3) := by decide +kernel
theorem dX3_length_4 : decode cX3_length 4 = .ok (.ireturn, 1) := by decide +kernel
theorem dX5_prove_0 : decode cX5_prove 0 = .ok (.iload_n 2, 1) := by decide +kernel
theorem dX5_prove_1 : decode cX5_prove 1 = .ok (.aload_n 0, 1) := by decide +kernel
theorem dX5_prove_2 : decode cX5_prove 2 = .ok (.getfield 23, 3) := by decide +kernel
theorem dX5_prove_5 : decode cX5_prove 5 = .ok (.invokevirtual 102, 3) := by decide +kernel
theorem dX5_prove_8 : decode cX5_prove 8 = .ok (.if_icmp .gt 12, 3) := by decide +kernel
theorem dX5_prove_11 : decode cX5_prove 11 = .ok (.iload_n 1, 1) := by decide +kernel
theorem dX5_prove_12 : decode cX5_prove 12 = .ok (.ifCond .lt 8, 3) := by decide +kernel
theorem dX5_prove_15 : decode cX5_prove 15 = .ok (.iload_n 1, 1) := by decide +kernel
theorem dX5_prove_16 : decode cX5_prove 16 = .ok (.iload_n 2, 1) := by decide +kernel
theorem dX5_prove_17 : decode cX5_prove 17 = .ok (.if_icmp .lt 5, 3) := by decide +kernel
theorem dX5_prove_20 : decode cX5_prove 20 = .ok (.iconst (-1), 1) := by decide +kernel
theorem dX5_prove_21 : decode cX5_prove 21 = .ok (.ireturn, 1) := by decide +kernel
theorem dX5_prove_22 : decode cX5_prove 22 = .ok (.aload_n 0, 1) := by decide +kernel
theorem dX5_prove_23 : decode cX5_prove 23 = .ok (.getfield 37, 3) := by decide +kernel
theorem dX5_prove_26 : decode cX5_prove 26 = .ok (.invokevirtual 118, 3) := by decide +kernel
theorem dX5_prove_29 : decode cX5_prove 29 = .ok (.aload_n 0, 1) := by decide +kernel
theorem dX5_prove_30 : decode cX5_prove 30 = .ok (.getfield 23, 3) := by decide +kernel
theorem dX5_prove_33 : decode cX5_prove 33 = .ok (.aload_n 0, 1) := by decide +kernel
theorem dX5_prove_34 : decode cX5_prove 34 = .ok (.getfield 37, 3) := by decide +kernel
theorem dX5_prove_37 : decode cX5_prove 37 = .ok (.iload_n 1, 1) := by decide +kernel
theorem dX5_prove_38 : decode cX5_prove 38 = .ok (.iload_n 2, 1) := by decide +kernel
theorem dX5_prove_39 : decode cX5_prove 39 = .ok (.invokestatic 119, 3) := by decide +kernel
theorem dX5_prove_42 : decode cX5_prove 42 = .ok (.aload_n 0, 1) := by decide +kernel
theorem dX5_prove_43 : decode cX5_prove 43 = .ok (.getfield 37, 3) := by decide +kernel
theorem dX5_prove_46 : decode cX5_prove 46 = .ok (.invokevirtual 123, 3) := by decide +kernel
theorem dX5_prove_49 : decode cX5_prove 49 = .ok (.ireturn, 1) := by decide +kernel
theorem dX4_consistency_0 : decode cX4_consistency 0 = .ok (.iload_n 2, 1) := by decide +kernel
theorem dX4_consistency_1 : decode cX4_consistency 1 = .ok (.iload 4, 2) := by decide +kernel
theorem dX4_consistency_3 : decode cX4_consistency 3 = .ok (.if_icmp .eq 8, 3) := by decide +kernel
theorem dX4_consistency_6 : decode cX4_consistency 6 = .ok (.iload 6, 2) := by decide +kernel
theorem dX4_consistency_8 : decode cX4_consistency 8 = .ok (.ifCond .gt 23, 3) := by decide +kernel
theorem dX4_consistency_11 : decode cX4_consistency 11 = .ok (.iload 5, 2) := by decide +kernel
theorem dX4_consistency_13 : decode cX4_consistency 13 = .ok (.ifCond .ne 17, 3) := by decide +kernel
theorem dX4_consistency_16 : decode cX4_consistency 16 = .ok (.aload_n 1, 1) := by decide +kernel
theorem dX4_consistency_17 : decode cX4_consistency 17 = .ok (.aload_n 0, 1) := by decide +kernel
theorem dX4_consistency_18 : decode cX4_consistency 18 = .ok (.iload_n 3, 1) := by decide +kernel
theorem dX4_consistency_19 : decode cX4_consistency 19 = .ok (.iload 4, 2) := by decide +kernel
theorem dX4_consistency_21 : decode cX4_consistency 21 = .ok (.iload 6, 2) := by decide +kernel
theorem dX4_consistency_23 : decode cX4_consistency 23 = .ok (.invokestatic 13, 3) := by decide +kernel
theorem dX4_consistency_26 : decode cX4_consistency 26 = .ok (.invokevirtual 39, 3) := by decide +kernel
theorem dX4_consistency_29 : decode cX4_consistency 29 = .ok (.pop, 1) := by decide +kernel
theorem dX4_consistency_30 : decode cX4_consistency 30 = .ok (.return_, 1) := by decide +kernel
theorem dX4_consistency_31 : decode cX4_consistency 31 = .ok (.iload 4, 2) := by decide +kernel
theorem dX4_consistency_33 : decode cX4_consistency 33 = .ok (.invokestatic 33, 3) := by decide +kernel
theorem dX4_consistency_36 : decode cX4_consistency 36 = .ok (.istore 7, 2) := by decide +kernel
theorem dX4_consistency_38 : decode cX4_consistency 38 = .ok (.iload_n 2, 1) := by decide +kernel
theorem dX4_consistency_39 : decode cX4_consistency 39 = .ok (.iload 7, 2) := by decide +kernel
theorem dX4_consistency_41 : decode cX4_consistency 41 = .ok (.if_icmp .gt 43, 3) := by decide +kernel
theorem dX4_consistency_44 : decode cX4_consistency 44 = .ok (.aload_n 0, 1) := by decide +kernel
theorem dX4_consistency_45 : decode cX4_consistency 45 = .ok (.aload_n 1, 1) := by decide +kernel
theorem dX4_consistency_46 : decode cX4_consistency 46 = .ok (.iload_n 2, 1) := by decide +kernel
theorem dX4_consistency_47 : decode cX4_consistency 47 = .ok (.iload_n 3, 1) := by decide +kernel
theorem dX4_consistency_48 : decode cX4_consistency 48 = .ok (.iload 7, 2) := by decide +kernel
theorem dX4_consistency_50 : decode cX4_consistency 50 = .ok (.iload 5, 2) := by decide +kernel
theorem dX4_consistency_52 : decode cX4_consistency 52 = .ok (.iload 6, 2) := by decide +kernel
theorem dX4_consistency_54 : decode cX4_consistency 54 = .ok (.iconst 1, 1) := by decide +kernel
theorem dX4_consistency_55 : decode cX4_consistency 55 = .ok (.isub, 1) := by decide +kernel
theorem dX4_consistency_56 : decode cX4_consistency 56 = .ok (.invokestatic 23, 3) := by decide +kernel
theorem dX4_consistency_59 : decode cX4_consistency 59 = .ok (.aload_n 1, 1) := by decide +kernel
theorem dX4_consistency_60 : decode cX4_consistency 60 = .ok (.aload_n 0, 1) := by decide +kernel
theorem dX4_consistency_61 : decode cX4_consistency 61 = .ok (.iload_n 3, 1) := by decide +kernel
theorem dX4_consistency_62 : decode cX4_consistency 62 = .ok (.iload 7, 2) := by decide +kernel
theorem dX4_consistency_64 : decode cX4_consistency 64 = .ok (.iadd, 1) := by decide +kernel
theorem dX4_consistency_65 : decode cX4_consistency 65 = .ok (.iload 4, 2) := by decide +kernel
theorem dX4_consistency_67 : decode cX4_consistency 67 = .ok (.iload 7, 2) := by decide +kernel
theorem dX4_consistency_69 : decode cX4_consistency 69 = .ok (.isub, 1) := by decide +kernel
theorem dX4_consistency_70 : decode cX4_consistency 70 = .ok (.iload 6, 2) := by decide +kernel
theorem dX4_consistency_72 : decode cX4_consistency 72 = .ok (.iconst 1, 1) := by decide +kernel
theorem dX4_consistency_73 : decode cX4_consistency 73 = .ok (.isub, 1) := by decide +kernel
theorem dX4_consistency_74 : decode cX4_consistency 74 = .ok (.invokestatic 13, 3) := by decide +kernel
theorem dX4_consistency_77 : decode cX4_consistency 77 = .ok (.invokevirtual 39, 3) := by decide +kernel
theorem dX4_consistency_80 : decode cX4_consistency 80 = .ok (.pop, 1) := by decide +kernel
theorem dX4_consistency_81 : decode cX4_consistency 81 = .ok (.goto 42, 3) := by decide +kernel
theorem dX4_consistency_84 : decode cX4_consistency 84 = .ok (.aload_n 0, 1) := by decide +kernel
theorem dX4_consistency_85 : decode cX4_consistency 85 = .ok (.aload_n 1, 1) := by decide +kernel
theorem dX4_consistency_86 : decode cX4_consistency 86 = .ok (.iload_n 2, 1) := by decide +kernel
theorem dX4_consistency_87 : decode cX4_consistency 87 = .ok (.iload 7, 2) := by decide +kernel
theorem dX4_consistency_89 : decode cX4_consistency 89 = .ok (.isub, 1) := by decide +kernel
theorem dX4_consistency_90 : decode cX4_consistency 90 = .ok (.iload_n 3, 1) := by decide +kernel
theorem dX4_consistency_91 : decode cX4_consistency 91 = .ok (.iload 7, 2) := by decide +kernel
theorem dX4_consistency_93 : decode cX4_consistency 93 = .ok (.iadd, 1) := by decide +kernel
theorem dX4_consistency_94 : decode cX4_consistency 94 = .ok (.iload 4, 2) := by decide +kernel
theorem dX4_consistency_96 : decode cX4_consistency 96 = .ok (.iload 7, 2) := by decide +kernel
theorem dX4_consistency_98 : decode cX4_consistency 98 = .ok (.isub, 1) := by decide +kernel
theorem dX4_consistency_99 : decode cX4_consistency 99 = .ok (.iconst 0, 1) := by decide +kernel
theorem dX4_consistency_100 : decode cX4_consistency 100 = .ok (.iload 6, 2) := by decide +kernel
theorem dX4_consistency_102 : decode cX4_consistency 102 = .ok (.iconst 1, 1) := by decide +kernel
theorem dX4_consistency_103 : decode cX4_consistency 103 = .ok (.isub, 1) := by decide +kernel
theorem dX4_consistency_104 : decode cX4_consistency 104 = .ok (.invokestatic 23, 3) := by decide +kernel
theorem dX4_consistency_107 : decode cX4_consistency 107 = .ok (.aload_n 1, 1) := by decide +kernel
theorem dX4_consistency_108 : decode cX4_consistency 108 = .ok (.aload_n 0, 1) := by decide +kernel
theorem dX4_consistency_109 : decode cX4_consistency 109 = .ok (.iload_n 3, 1) := by decide +kernel
theorem dX4_consistency_110 : decode cX4_consistency 110 = .ok (.iload 7, 2) := by decide +kernel
theorem dX4_consistency_112 : decode cX4_consistency 112 = .ok (.iload 6, 2) := by decide +kernel
theorem dX4_consistency_114 : decode cX4_consistency 114 = .ok (.iconst 1, 1) := by decide +kernel
theorem dX4_consistency_115 : decode cX4_consistency 115 = .ok (.isub, 1) := by decide +kernel
theorem dX4_consistency_116 : decode cX4_consistency 116 = .ok (.invokestatic 13, 3) := by decide +kernel
theorem dX4_consistency_119 : decode cX4_consistency 119 = .ok (.invokevirtual 39, 3) := by decide +kernel
theorem dX4_consistency_122 : decode cX4_consistency 122 = .ok (.pop, 1) := by decide +kernel
theorem dX4_consistency_123 : decode cX4_consistency 123 = .ok (.return_, 1) := by decide +kernel
theorem dX4_addConsistency_0 : decode cX4_addConsistency 0 = .ok (.aload_n 0, 1) := by decide +kernel
theorem dX4_addConsistency_1 : decode cX4_addConsistency 1 = .ok (.aload_n 1, 1) := by decide +kernel
theorem dX4_addConsistency_2 : decode cX4_addConsistency 2 = .ok (.iload_n 2, 1) := by decide +kernel
theorem dX4_addConsistency_3 : decode cX4_addConsistency 3 = .ok (.iconst 0, 1) := by decide +kernel
theorem dX4_addConsistency_4 : decode cX4_addConsistency 4 = .ok (.iload_n 3, 1) := by decide +kernel
theorem dX4_addConsistency_5 : decode cX4_addConsistency 5 = .ok (.iconst 1, 1) := by decide +kernel
theorem dX4_addConsistency_6 : decode cX4_addConsistency 6 = .ok (.bipush 10, 2) := by decide +kernel
theorem dX4_addConsistency_8 : decode cX4_addConsistency 8 = .ok (.invokestatic 23, 3) := by decide +kernel
theorem dX4_addConsistency_11 : decode cX4_addConsistency 11 = .ok (.return_, 1) := by decide +kernel
theorem dX5_extend_0 : decode cX5_extend 0 = .ok (.iload_n 2, 1) := by decide +kernel
theorem dX5_extend_1 : decode cX5_extend 1 = .ok (.aload_n 0, 1) := by decide +kernel
theorem dX5_extend_2 : decode cX5_extend 2 = .ok (.getfield 23, 3) := by decide +kernel
theorem dX5_extend_5 : decode cX5_extend 5 = .ok (.invokevirtual 102, 3) := by decide +kernel
theorem dX5_extend_8 : decode cX5_extend 8 = .ok (.if_icmp .gt 13, 3) := by decide +kernel
theorem dX5_extend_11 : decode cX5_extend 11 = .ok (.iload_n 1, 1) := by decide +kernel
theorem dX5_extend_12 : decode cX5_extend 12 = .ok (.iconst 1, 1) := by decide +kernel
theorem dX5_extend_13 : decode cX5_extend 13 = .ok (.if_icmp .lt 8, 3) := by decide +kernel
theorem dX5_extend_16 : decode cX5_extend 16 = .ok (.iload_n 1, 1) := by decide +kernel
theorem dX5_extend_17 : decode cX5_extend 17 = .ok (.iload_n 2, 1) := by decide +kernel
theorem dX5_extend_18 : decode cX5_extend 18 = .ok (.if_icmp .le 5, 3) := by decide +kernel
theorem dX5_extend_21 : decode cX5_extend 21 = .ok (.iconst (-1), 1) := by decide +kernel
theorem dX5_extend_22 : decode cX5_extend 22 = .ok (.ireturn, 1) := by decide +kernel
theorem dX5_extend_23 : decode cX5_extend 23 = .ok (.aload_n 0, 1) := by decide +kernel
theorem dX5_extend_24 : decode cX5_extend 24 = .ok (.getfield 37, 3) := by decide +kernel
theorem dX5_extend_27 : decode cX5_extend 27 = .ok (.invokevirtual 118, 3) := by decide +kernel
theorem dX5_extend_30 : decode cX5_extend 30 = .ok (.aload_n 0, 1) := by decide +kernel
theorem dX5_extend_31 : decode cX5_extend 31 = .ok (.getfield 23, 3) := by decide +kernel
theorem dX5_extend_34 : decode cX5_extend 34 = .ok (.aload_n 0, 1) := by decide +kernel
theorem dX5_extend_35 : decode cX5_extend 35 = .ok (.getfield 37, 3) := by decide +kernel
theorem dX5_extend_38 : decode cX5_extend 38 = .ok (.iload_n 1, 1) := by decide +kernel
theorem dX5_extend_39 : decode cX5_extend 39 = .ok (.iload_n 2, 1) := by decide +kernel
theorem dX5_extend_40 : decode cX5_extend 40 = .ok (.invokestatic 126, 3) := by decide +kernel
theorem dX5_extend_43 : decode cX5_extend 43 = .ok (.aload_n 0, 1) := by decide +kernel
theorem dX5_extend_44 : decode cX5_extend 44 = .ok (.getfield 37, 3) := by decide +kernel
theorem dX5_extend_47 : decode cX5_extend 47 = .ok (.invokevirtual 123, 3) := by decide +kernel
theorem dX5_extend_50 : decode cX5_extend 50 = .ok (.ireturn, 1) := by decide +kernel
theorem dX5_put_0 : decode cX5_put 0 = .ok (.aload_n 0, 1) := by decide +kernel
theorem dX5_put_1 : decode cX5_put 1 = .ok (.getfield 37, 3) := by decide +kernel
theorem dX5_put_4 : decode cX5_put 4 = .ok (.iload_n 1, 1) := by decide +kernel
theorem dX5_put_5 : decode cX5_put 5 = .ok (.invokevirtual 129, 3) := by decide +kernel
theorem dX5_put_8 : decode cX5_put 8 = .ok (.ireturn, 1) := by decide +kernel
theorem dX3_removeLast_0 : decode cX3_removeLast 0 = .ok (.aload_n 0, 1) := by decide +kernel
theorem dX3_removeLast_1 : decode cX3_removeLast 1 = .ok (.getfield 15, 3) := by decide +kernel
theorem dX3_removeLast_4 : decode cX3_removeLast 4 = .ok (.ifCond .gt 5, 3) := by decide +kernel
theorem dX3_removeLast_7 : decode cX3_removeLast 7 = .ok (.iconst 0, 1) := by decide +kernel
theorem dX3_removeLast_8 : decode cX3_removeLast 8 = .ok (.ireturn, 1) := by decide +kernel
theorem dX3_removeLast_9 : decode cX3_removeLast 9 = .ok (.aload_n 0, 1) := by decide +kernel
theorem dX3_removeLast_10 : decode cX3_removeLast 10 = .ok (.dup, 1) := by decide +kernel
theorem dX3_removeLast_11 : decode cX3_removeLast 11 = .ok (.getfield 15, 3) := by decide +kernel
theorem dX3_removeLast_14 : decode cX3_removeLast 14 = .ok (.iconst 1, 1) := by decide +kernel
theorem dX3_removeLast_15 : decode cX3_removeLast 15 = .ok (.isub, 1) := by decide +kernel
theorem dX3_removeLast_16 : decode cX3_removeLast 16 = .ok (.putfield 15, 3) := by decide +kernel
theorem dX3_removeLast_19 : decode cX3_removeLast 19 = .ok (.iconst 1, 1) := by decide +kernel
theorem dX3_removeLast_20 : decode cX3_removeLast 20 = .ok (.ireturn, 1) := by decide +kernel
theorem dX5_take_0 : decode cX5_take 0 = .ok (.aload_n 0, 1) := by decide +kernel
theorem dX5_take_1 : decode cX5_take 1 = .ok (.getfield 37, 3) := by decide +kernel
theorem dX5_take_4 : decode cX5_take 4 = .ok (.invokevirtual 131, 3) := by decide +kernel
theorem dX5_take_7 : decode cX5_take 7 = .ok (.ireturn, 1) := by decide +kernel
theorem dX3_intAt_0 : decode cX3_intAt 0 = .ok (.iload_n 1, 1) := by decide +kernel
theorem dX3_intAt_1 : decode cX3_intAt 1 = .ok (.ifCond .lt 20, 3) := by decide +kernel
theorem dX3_intAt_4 : decode cX3_intAt 4 = .ok (.iload_n 1, 1) := by decide +kernel
theorem dX3_intAt_5 : decode cX3_intAt 5 = .ok (.aload_n 0, 1) := by decide +kernel
theorem dX3_intAt_6 : decode cX3_intAt 6 = .ok (.getfield 15, 3) := by decide +kernel
theorem dX3_intAt_9 : decode cX3_intAt 9 = .ok (.if_icmp .ge 12, 3) := by decide +kernel
theorem dX3_intAt_12 : decode cX3_intAt 12 = .ok (.aload_n 0, 1) := by decide +kernel
theorem dX3_intAt_13 : decode cX3_intAt 13 = .ok (.getfield 9, 3) := by decide +kernel
theorem dX3_intAt_16 : decode cX3_intAt 16 = .ok (.iload_n 1, 1) := by decide +kernel
theorem dX3_intAt_17 : decode cX3_intAt 17 = .ok (.iaload, 1) := by decide +kernel
theorem dX3_intAt_18 : decode cX3_intAt 18 = .ok (.goto 4, 3) := by decide +kernel
theorem dX3_intAt_21 : decode cX3_intAt 21 = .ok (.iconst 0, 1) := by decide +kernel
theorem dX3_intAt_22 : decode cX3_intAt 22 = .ok (.ireturn, 1) := by decide +kernel
theorem dX5_pad_0 : decode cX5_pad 0 = .ok (.aload_n 0, 1) := by decide +kernel
theorem dX5_pad_1 : decode cX5_pad 1 = .ok (.getfield 37, 3) := by decide +kernel
theorem dX5_pad_4 : decode cX5_pad 4 = .ok (.iload_n 1, 1) := by decide +kernel
theorem dX5_pad_5 : decode cX5_pad 5 = .ok (.invokevirtual 134, 3) := by decide +kernel
theorem dX5_pad_8 : decode cX5_pad 8 = .ok (.ireturn, 1) := by decide +kernel
theorem dX3_inclusionLength_0 : decode cX3_inclusionLength 0 = .ok (.iconst 0, 1) := by decide +kernel
theorem dX3_inclusionLength_1 : decode cX3_inclusionLength 1 = .ok (.istore_n 2, 1) := by decide +kernel
theorem dX3_inclusionLength_2 : decode cX3_inclusionLength 2 = .ok (.iload_n 1, 1) := by decide +kernel
theorem dX3_inclusionLength_3 : decode cX3_inclusionLength 3 = .ok (.iconst 1, 1) := by decide +kernel
theorem dX3_inclusionLength_4 : decode cX3_inclusionLength 4 = .ok (.if_icmp .le 38, 3) := by decide +kernel
theorem dX3_inclusionLength_7 : decode cX3_inclusionLength 7 = .ok (.iload_n 2, 1) := by decide +kernel
theorem dX3_inclusionLength_8 : decode cX3_inclusionLength 8 = .ok (.bipush 16, 2) := by decide +kernel
theorem dX3_inclusionLength_10 : decode cX3_inclusionLength 10 = .ok (.if_icmp .ge 32, 3) := by decide +kernel
theorem dX3_inclusionLength_13 : decode cX3_inclusionLength 13 = .ok (.iload_n 1, 1) := by decide +kernel
theorem dX3_inclusionLength_14 : decode cX3_inclusionLength 14 = .ok (.invokestatic 44, 3) := by decide +kernel
theorem dX3_inclusionLength_17 : decode cX3_inclusionLength 17 = .ok (.istore_n 3, 1) := by decide +kernel
theorem dX3_inclusionLength_18 : decode cX3_inclusionLength 18 = .ok (.iload_n 0, 1) := by decide +kernel
theorem dX3_inclusionLength_19 : decode cX3_inclusionLength 19 = .ok (.iload_n 3, 1) := by decide +kernel
theorem dX3_inclusionLength_20 : decode cX3_inclusionLength 20 = .ok (.if_icmp .ge 8, 3) := by decide +kernel
theorem dX3_inclusionLength_23 : decode cX3_inclusionLength 23 = .ok (.iload_n 3, 1) := by decide +kernel
theorem dX3_inclusionLength_24 : decode cX3_inclusionLength 24 = .ok (.istore_n 1, 1) := by decide +kernel
theorem dX3_inclusionLength_25 : decode cX3_inclusionLength 25 = .ok (.goto 11, 3) := by decide +kernel
theorem dX3_inclusionLength_28 : decode cX3_inclusionLength 28 = .ok (.iload_n 0, 1) := by decide +kernel
theorem dX3_inclusionLength_29 : decode cX3_inclusionLength 29 = .ok (.iload_n 3, 1) := by decide +kernel
theorem dX3_inclusionLength_30 : decode cX3_inclusionLength 30 = .ok (.isub, 1) := by decide +kernel
theorem dX3_inclusionLength_31 : decode cX3_inclusionLength 31 = .ok (.istore_n 0, 1) := by decide +kernel
theorem dX3_inclusionLength_32 : decode cX3_inclusionLength 32 = .ok (.iload_n 1, 1) := by decide +kernel
theorem dX3_inclusionLength_33 : decode cX3_inclusionLength 33 = .ok (.iload_n 3, 1) := by decide +kernel
theorem dX3_inclusionLength_34 : decode cX3_inclusionLength 34 = .ok (.isub, 1) := by decide +kernel
theorem dX3_inclusionLength_35 : decode cX3_inclusionLength 35 = .ok (.istore_n 1, 1) := by decide +kernel
theorem dX3_inclusionLength_36 : decode cX3_inclusionLength 36 = .ok (.iinc 2 1, 3) := by decide +kernel
theorem dX3_inclusionLength_39 : decode cX3_inclusionLength 39 = .ok (.goto (-37), 3) := by decide +kernel
theorem dX3_inclusionLength_42 : decode cX3_inclusionLength 42 = .ok (.iload_n 2, 1) := by decide +kernel
theorem dX3_inclusionLength_43 : decode cX3_inclusionLength 43 = .ok (.ireturn, 1) := by decide +kernel
theorem dX3_shownAbove_0 : decode cX3_shownAbove 0 = .ok (.iload_n 3, 1) := by decide +kernel
theorem dX3_shownAbove_1 : decode cX3_shownAbove 1 = .ok (.iconst 1, 1) := by decide +kernel
theorem dX3_shownAbove_2 : decode cX3_shownAbove 2 = .ok (.if_icmp .le 8, 3) := by decide +kernel
theorem dX3_shownAbove_5 : decode cX3_shownAbove 5 = .ok (.iload 4, 2) := by decide +kernel
theorem dX3_shownAbove_7 : decode cX3_shownAbove 7 = .ok (.ifCond .gt 5, 3) := by decide +kernel
theorem dX3_shownAbove_10 : decode cX3_shownAbove 10 = .ok (.iload_n 1, 1) := by decide +kernel
theorem dX3_shownAbove_11 : decode cX3_shownAbove 11 = .ok (.ireturn, 1) := by decide +kernel
theorem dX3_shownAbove_12 : decode cX3_shownAbove 12 = .ok (.iload_n 3, 1) := by decide +kernel
theorem dX3_shownAbove_13 : decode cX3_shownAbove 13 = .ok (.invokestatic 44, 3) := by decide +kernel
theorem dX3_shownAbove_16 : decode cX3_shownAbove 16 = .ok (.istore 5, 2) := by decide +kernel
theorem dX3_shownAbove_18 : decode cX3_shownAbove 18 = .ok (.aload_n 0, 1) := by decide +kernel
theorem dX3_shownAbove_19 : decode cX3_shownAbove 19 = .ok (.iload 4, 2) := by decide +kernel
theorem dX3_shownAbove_21 : decode cX3_shownAbove 21 = .ok (.iconst 1, 1) := by decide +kernel
theorem dX3_shownAbove_22 : decode cX3_shownAbove 22 = .ok (.isub, 1) := by decide +kernel
theorem dX3_shownAbove_23 : decode cX3_shownAbove 23 = .ok (.invokevirtual 34, 3) := by decide +kernel
theorem dX3_shownAbove_26 : decode cX3_shownAbove 26 = .ok (.istore 6, 2) := by decide +kernel
theorem dX3_shownAbove_28 : decode cX3_shownAbove 28 = .ok (.iload_n 2, 1) := by decide +kernel
theorem dX3_shownAbove_29 : decode cX3_shownAbove 29 = .ok (.iload 5, 2) := by decide +kernel
theorem dX3_shownAbove_31 : decode cX3_shownAbove 31 = .ok (.if_icmp .ge 21, 3) := by decide +kernel
theorem dX3_shownAbove_34 : decode cX3_shownAbove 34 = .ok (.aload_n 0, 1) := by decide +kernel
theorem dX3_shownAbove_35 : decode cX3_shownAbove 35 = .ok (.iload_n 1, 1) := by decide +kernel
theorem dX3_shownAbove_36 : decode cX3_shownAbove 36 = .ok (.iload_n 2, 1) := by decide +kernel
theorem dX3_shownAbove_37 : decode cX3_shownAbove 37 = .ok (.iload 5, 2) := by decide +kernel
theorem dX3_shownAbove_39 : decode cX3_shownAbove 39 = .ok (.iload 4, 2) := by decide +kernel
theorem dX3_shownAbove_41 : decode cX3_shownAbove 41 = .ok (.iconst 1, 1) := by decide +kernel
theorem dX3_shownAbove_42 : decode cX3_shownAbove 42 = .ok (.isub, 1) := by decide +kernel
theorem dX3_shownAbove_43 : decode cX3_shownAbove 43 = .ok (.invokestatic 23, 3) := by decide +kernel
theorem dX3_shownAbove_46 : decode cX3_shownAbove 46 = .ok (.iload 6, 2) := by decide +kernel
theorem dX3_shownAbove_48 : decode cX3_shownAbove 48 = .ok (.invokestatic 47, 3) := by decide +kernel
theorem dX3_shownAbove_51 : decode cX3_shownAbove 51 = .ok (.ireturn, 1) := by decide +kernel
theorem dX3_shownAbove_52 : decode cX3_shownAbove 52 = .ok (.iload 6, 2) := by decide +kernel
theorem dX3_shownAbove_54 : decode cX3_shownAbove 54 = .ok (.aload_n 0, 1) := by decide +kernel
theorem dX3_shownAbove_55 : decode cX3_shownAbove 55 = .ok (.iload_n 1, 1) := by decide +kernel
theorem dX3_shownAbove_56 : decode cX3_shownAbove 56 = .ok (.iload_n 2, 1) := by decide +kernel
theorem dX3_shownAbove_57 : decode cX3_shownAbove 57 = .ok (.iload 5, 2) := by decide +kernel
theorem dX3_shownAbove_59 : decode cX3_shownAbove 59 = .ok (.isub, 1) := by decide +kernel
theorem dX3_shownAbove_60 : decode cX3_shownAbove 60 = .ok (.iload_n 3, 1) := by decide +kernel
theorem dX3_shownAbove_61 : decode cX3_shownAbove 61 = .ok (.iload 5, 2) := by decide +kernel
theorem dX3_shownAbove_63 : decode cX3_shownAbove 63 = .ok (.isub, 1) := by decide +kernel
theorem dX3_shownAbove_64 : decode cX3_shownAbove 64 = .ok (.iload 4, 2) := by decide +kernel
theorem dX3_shownAbove_66 : decode cX3_shownAbove 66 = .ok (.iconst 1, 1) := by decide +kernel
theorem dX3_shownAbove_67 : decode cX3_shownAbove 67 = .ok (.isub, 1) := by decide +kernel
theorem dX3_shownAbove_68 : decode cX3_shownAbove 68 = .ok (.invokestatic 23, 3) := by decide +kernel
theorem dX3_shownAbove_71 : decode cX3_shownAbove 71 = .ok (.invokestatic 47, 3) := by decide +kernel
theorem dX3_shownAbove_74 : decode cX3_shownAbove 74 = .ok (.ireturn, 1) := by decide +kernel
theorem dX3_showsInclusion_0 : decode cX3_showsInclusion 0 = .ok (.aload_n 0, 1) := by decide +kernel
theorem dX3_showsInclusion_1 : decode cX3_showsInclusion 1 = .ok (.getfield 15, 3) := by decide +kernel
theorem dX3_showsInclusion_4 : decode cX3_showsInclusion 4 = .ok (.iload_n 2, 1) := by decide +kernel
theorem dX3_showsInclusion_5 : decode cX3_showsInclusion 5 = .ok (.iload_n 3, 1) := by decide +kernel
theorem dX3_showsInclusion_6 : decode cX3_showsInclusion 6 = .ok (.invokestatic 19, 3) := by decide +kernel
theorem dX3_showsInclusion_9 : decode cX3_showsInclusion 9 = .ok (.if_icmp .ne 23, 3) := by decide +kernel
theorem dX3_showsInclusion_12 : decode cX3_showsInclusion 12 = .ok (.aload_n 0, 1) := by decide +kernel
theorem dX3_showsInclusion_13 : decode cX3_showsInclusion 13 = .ok (.iload_n 1, 1) := by decide +kernel
theorem dX3_showsInclusion_14 : decode cX3_showsInclusion 14 = .ok (.iload_n 2, 1) := by decide +kernel
theorem dX3_showsInclusion_15 : decode cX3_showsInclusion 15 = .ok (.iload_n 3, 1) := by decide +kernel
theorem dX3_showsInclusion_16 : decode cX3_showsInclusion 16 = .ok (.aload_n 0, 1) := by decide +kernel
theorem dX3_showsInclusion_17 : decode cX3_showsInclusion 17 = .ok (.getfield 15, 3) := by decide +kernel
theorem dX3_showsInclusion_20 : decode cX3_showsInclusion 20 = .ok (.invokestatic 23, 3) := by decide +kernel
theorem dX3_showsInclusion_23 : decode cX3_showsInclusion 23 = .ok (.iload 4, 2) := by decide +kernel
theorem dX3_showsInclusion_25 : decode cX3_showsInclusion 25 = .ok (.if_icmp .ne 7, 3) := by decide +kernel
theorem dX3_showsInclusion_28 : decode cX3_showsInclusion 28 = .ok (.iconst 1, 1) := by decide +kernel
theorem dX3_showsInclusion_29 : decode cX3_showsInclusion 29 = .ok (.goto 4, 3) := by decide +kernel
theorem dX3_showsInclusion_32 : decode cX3_showsInclusion 32 = .ok (.iconst 0, 1) := by decide +kernel
theorem dX3_showsInclusion_33 : decode cX3_showsInclusion 33 = .ok (.ireturn, 1) := by decide +kernel
theorem dX5_included_0 : decode cX5_included 0 = .ok (.iload_n 3, 1) := by decide +kernel
theorem dX5_included_1 : decode cX5_included 1 = .ok (.iconst 1, 1) := by decide +kernel
theorem dX5_included_2 : decode cX5_included 2 = .ok (.if_icmp .lt 38, 3) := by decide +kernel
theorem dX5_included_5 : decode cX5_included 5 = .ok (.iload_n 3, 1) := by decide +kernel
theorem dX5_included_6 : decode cX5_included 6 = .ok (.sipush 1000, 3) := by decide +kernel
theorem dX5_included_9 : decode cX5_included 9 = .ok (.if_icmp .gt 31, 3) := by decide +kernel
theorem dX5_included_12 : decode cX5_included 12 = .ok (.iload_n 2, 1) := by decide +kernel
theorem dX5_included_13 : decode cX5_included 13 = .ok (.ifCond .lt 27, 3) := by decide +kernel
theorem dX5_included_16 : decode cX5_included 16 = .ok (.iload_n 2, 1) := by decide +kernel
theorem dX5_included_17 : decode cX5_included 17 = .ok (.iload_n 3, 1) := by decide +kernel
theorem dX5_included_18 : decode cX5_included 18 = .ok (.if_icmp .ge 22, 3) := by decide +kernel
theorem dX5_included_21 : decode cX5_included 21 = .ok (.aload_n 0, 1) := by decide +kernel
theorem dX5_included_22 : decode cX5_included 22 = .ok (.getfield 37, 3) := by decide +kernel
theorem dX5_included_25 : decode cX5_included 25 = .ok (.iload_n 1, 1) := by decide +kernel
theorem dX5_included_26 : decode cX5_included 26 = .ok (.iload_n 2, 1) := by decide +kernel
theorem dX5_included_27 : decode cX5_included 27 = .ok (.iload_n 3, 1) := by decide +kernel
theorem dX5_included_28 : decode cX5_included 28 = .ok (.iload 4, 2) := by decide +kernel
theorem dX5_included_30 : decode cX5_included 30 = .ok (.invokevirtual 137, 3) := by decide +kernel
theorem dX5_included_33 : decode cX5_included 33 = .ok (.ifCond .eq 7, 3) := by decide +kernel
theorem dX5_included_36 : decode cX5_included 36 = .ok (.iconst 1, 1) := by decide +kernel
theorem dX5_included_37 : decode cX5_included 37 = .ok (.goto 4, 3) := by decide +kernel
theorem dX5_included_40 : decode cX5_included 40 = .ok (.iconst 0, 1) := by decide +kernel
theorem dX5_included_41 : decode cX5_included 41 = .ok (.ireturn, 1) := by decide +kernel
theorem dX3_consistencySteps_0 : decode cX3_consistencySteps 0 = .ok (.iconst 0, 1) := by decide +kernel
theorem dX3_consistencySteps_1 : decode cX3_consistencySteps 1 = .ok (.istore_n 2, 1) := by decide +kernel
theorem dX3_consistencySteps_2 : decode cX3_consistencySteps 2 = .ok (.iload_n 0, 1) := by decide +kernel
theorem dX3_consistencySteps_3 : decode cX3_consistencySteps 3 = .ok (.iload_n 1, 1) := by decide +kernel
theorem dX3_consistencySteps_4 : decode cX3_consistencySteps 4 = .ok (.if_icmp .eq 38, 3) := by decide +kernel
theorem dX3_consistencySteps_7 : decode cX3_consistencySteps 7 = .ok (.iload_n 2, 1) := by decide +kernel
theorem dX3_consistencySteps_8 : decode cX3_consistencySteps 8 = .ok (.bipush 16, 2) := by decide +kernel
theorem dX3_consistencySteps_10 : decode cX3_consistencySteps 10 = .ok (.if_icmp .ge 32, 3) := by decide +kernel
theorem dX3_consistencySteps_13 : decode cX3_consistencySteps 13 = .ok (.iload_n 1, 1) := by decide +kernel
theorem dX3_consistencySteps_14 : decode cX3_consistencySteps 14 = .ok (.invokestatic 44, 3) := by decide +kernel
theorem dX3_consistencySteps_17 : decode cX3_consistencySteps 17 = .ok (.istore_n 3, 1) := by decide +kernel
theorem dX3_consistencySteps_18 : decode cX3_consistencySteps 18 = .ok (.iload_n 0, 1) := by decide +kernel
theorem dX3_consistencySteps_19 : decode cX3_consistencySteps 19 = .ok (.iload_n 3, 1) := by decide +kernel
theorem dX3_consistencySteps_20 : decode cX3_consistencySteps 20 = .ok (.if_icmp .gt 8, 3) := by decide +kernel
theorem dX3_consistencySteps_23 : decode cX3_consistencySteps 23 = .ok (.iload_n 3, 1) := by decide +kernel
theorem dX3_consistencySteps_24 : decode cX3_consistencySteps 24 = .ok (.istore_n 1, 1) := by decide +kernel
theorem dX3_consistencySteps_25 : decode cX3_consistencySteps 25 = .ok (.goto 11, 3) := by decide +kernel
theorem dX3_consistencySteps_28 : decode cX3_consistencySteps 28 = .ok (.iload_n 0, 1) := by decide +kernel
theorem dX3_consistencySteps_29 : decode cX3_consistencySteps 29 = .ok (.iload_n 3, 1) := by decide +kernel
theorem dX3_consistencySteps_30 : decode cX3_consistencySteps 30 = .ok (.isub, 1) := by decide +kernel
theorem dX3_consistencySteps_31 : decode cX3_consistencySteps 31 = .ok (.istore_n 0, 1) := by decide +kernel
theorem dX3_consistencySteps_32 : decode cX3_consistencySteps 32 = .ok (.iload_n 1, 1) := by decide +kernel
theorem dX3_consistencySteps_33 : decode cX3_consistencySteps 33 = .ok (.iload_n 3, 1) := by decide +kernel
theorem dX3_consistencySteps_34 : decode cX3_consistencySteps 34 = .ok (.isub, 1) := by decide +kernel
theorem dX3_consistencySteps_35 : decode cX3_consistencySteps 35 = .ok (.istore_n 1, 1) := by decide +kernel
theorem dX3_consistencySteps_36 : decode cX3_consistencySteps 36 = .ok (.iinc 2 1, 3) := by decide +kernel
theorem dX3_consistencySteps_39 : decode cX3_consistencySteps 39 = .ok (.goto (-37), 3) := by decide +kernel
theorem dX3_consistencySteps_42 : decode cX3_consistencySteps 42 = .ok (.iload_n 2, 1) := by decide +kernel
theorem dX3_consistencySteps_43 : decode cX3_consistencySteps 43 = .ok (.ireturn, 1) := by decide +kernel
theorem dX3_isOwn_0 : decode cX3_isOwn 0 = .ok (.iconst 0, 1) := by decide +kernel
theorem dX3_isOwn_1 : decode cX3_isOwn 1 = .ok (.istore_n 2, 1) := by decide +kernel
theorem dX3_isOwn_2 : decode cX3_isOwn 2 = .ok (.iload_n 2, 1) := by decide +kernel
theorem dX3_isOwn_3 : decode cX3_isOwn 3 = .ok (.bipush 10, 2) := by decide +kernel
theorem dX3_isOwn_5 : decode cX3_isOwn 5 = .ok (.if_icmp .ge 26, 3) := by decide +kernel
theorem dX3_isOwn_8 : decode cX3_isOwn 8 = .ok (.iload_n 0, 1) := by decide +kernel
theorem dX3_isOwn_9 : decode cX3_isOwn 9 = .ok (.iload_n 1, 1) := by decide +kernel
theorem dX3_isOwn_10 : decode cX3_isOwn 10 = .ok (.if_icmp .eq 21, 3) := by decide +kernel
theorem dX3_isOwn_13 : decode cX3_isOwn 13 = .ok (.iload_n 1, 1) := by decide +kernel
theorem dX3_isOwn_14 : decode cX3_isOwn 14 = .ok (.invokestatic 44, 3) := by decide +kernel
theorem dX3_isOwn_17 : decode cX3_isOwn 17 = .ok (.istore_n 1, 1) := by decide +kernel
theorem dX3_isOwn_18 : decode cX3_isOwn 18 = .ok (.iload_n 0, 1) := by decide +kernel
theorem dX3_isOwn_19 : decode cX3_isOwn 19 = .ok (.iload_n 1, 1) := by decide +kernel
theorem dX3_isOwn_20 : decode cX3_isOwn 20 = .ok (.if_icmp .le 5, 3) := by decide +kernel
theorem dX3_isOwn_23 : decode cX3_isOwn 23 = .ok (.iconst 0, 1) := by decide +kernel
theorem dX3_isOwn_24 : decode cX3_isOwn 24 = .ok (.ireturn, 1) := by decide +kernel
theorem dX3_isOwn_25 : decode cX3_isOwn 25 = .ok (.iinc 2 1, 3) := by decide +kernel
theorem dX3_isOwn_28 : decode cX3_isOwn 28 = .ok (.goto (-26), 3) := by decide +kernel
theorem dX3_isOwn_31 : decode cX3_isOwn 31 = .ok (.iconst 1, 1) := by decide +kernel
theorem dX3_isOwn_32 : decode cX3_isOwn 32 = .ok (.ireturn, 1) := by decide +kernel
theorem dX3_shownOld_0 : decode cX3_shownOld 0 = .ok (.iload_n 2, 1) := by decide +kernel
theorem dX3_shownOld_1 : decode cX3_shownOld 1 = .ok (.iload_n 3, 1) := by decide +kernel
theorem dX3_shownOld_2 : decode cX3_shownOld 2 = .ok (.if_icmp .eq 8, 3) := by decide +kernel
theorem dX3_shownOld_5 : decode cX3_shownOld 5 = .ok (.iload 4, 2) := by decide +kernel
theorem dX3_shownOld_7 : decode cX3_shownOld 7 = .ok (.ifCond .gt 5, 3) := by decide +kernel
theorem dX3_shownOld_10 : decode cX3_shownOld 10 = .ok (.iload_n 1, 1) := by decide +kernel
theorem dX3_shownOld_11 : decode cX3_shownOld 11 = .ok (.ireturn, 1) := by decide +kernel
theorem dX3_shownOld_12 : decode cX3_shownOld 12 = .ok (.iload_n 3, 1) := by decide +kernel
theorem dX3_shownOld_13 : decode cX3_shownOld 13 = .ok (.invokestatic 44, 3) := by decide +kernel
theorem dX3_shownOld_16 : decode cX3_shownOld 16 = .ok (.istore 5, 2) := by decide +kernel
theorem dX3_shownOld_18 : decode cX3_shownOld 18 = .ok (.iload_n 2, 1) := by decide +kernel
theorem dX3_shownOld_19 : decode cX3_shownOld 19 = .ok (.iload 5, 2) := by decide +kernel
theorem dX3_shownOld_21 : decode cX3_shownOld 21 = .ok (.if_icmp .gt 16, 3) := by decide +kernel
theorem dX3_shownOld_24 : decode cX3_shownOld 24 = .ok (.aload_n 0, 1) := by decide +kernel
theorem dX3_shownOld_25 : decode cX3_shownOld 25 = .ok (.iload_n 1, 1) := by decide +kernel
theorem dX3_shownOld_26 : decode cX3_shownOld 26 = .ok (.iload_n 2, 1) := by decide +kernel
theorem dX3_shownOld_27 : decode cX3_shownOld 27 = .ok (.iload 5, 2) := by decide +kernel
theorem dX3_shownOld_29 : decode cX3_shownOld 29 = .ok (.iload 4, 2) := by decide +kernel
theorem dX3_shownOld_31 : decode cX3_shownOld 31 = .ok (.iconst 1, 1) := by decide +kernel
theorem dX3_shownOld_32 : decode cX3_shownOld 32 = .ok (.isub, 1) := by decide +kernel
theorem dX3_shownOld_33 : decode cX3_shownOld 33 = .ok (.invokestatic 38, 3) := by decide +kernel
theorem dX3_shownOld_36 : decode cX3_shownOld 36 = .ok (.ireturn, 1) := by decide +kernel
theorem dX3_shownOld_37 : decode cX3_shownOld 37 = .ok (.aload_n 0, 1) := by decide +kernel
theorem dX3_shownOld_38 : decode cX3_shownOld 38 = .ok (.iload 4, 2) := by decide +kernel
theorem dX3_shownOld_40 : decode cX3_shownOld 40 = .ok (.iconst 1, 1) := by decide +kernel
theorem dX3_shownOld_41 : decode cX3_shownOld 41 = .ok (.isub, 1) := by decide +kernel
theorem dX3_shownOld_42 : decode cX3_shownOld 42 = .ok (.invokevirtual 34, 3) := by decide +kernel
theorem dX3_shownOld_45 : decode cX3_shownOld 45 = .ok (.aload_n 0, 1) := by decide +kernel
theorem dX3_shownOld_46 : decode cX3_shownOld 46 = .ok (.iload_n 1, 1) := by decide +kernel
theorem dX3_shownOld_47 : decode cX3_shownOld 47 = .ok (.iload_n 2, 1) := by decide +kernel
theorem dX3_shownOld_48 : decode cX3_shownOld 48 = .ok (.iload 5, 2) := by decide +kernel
theorem dX3_shownOld_50 : decode cX3_shownOld 50 = .ok (.isub, 1) := by decide +kernel
theorem dX3_shownOld_51 : decode cX3_shownOld 51 = .ok (.iload_n 3, 1) := by decide +kernel
theorem dX3_shownOld_52 : decode cX3_shownOld 52 = .ok (.iload 5, 2) := by decide +kernel
theorem dX3_shownOld_54 : decode cX3_shownOld 54 = .ok (.isub, 1) := by decide +kernel
theorem dX3_shownOld_55 : decode cX3_shownOld 55 = .ok (.iload 4, 2) := by decide +kernel
theorem dX3_shownOld_57 : decode cX3_shownOld 57 = .ok (.iconst 1, 1) := by decide +kernel
theorem dX3_shownOld_58 : decode cX3_shownOld 58 = .ok (.isub, 1) := by decide +kernel
theorem dX3_shownOld_59 : decode cX3_shownOld 59 = .ok (.invokestatic 38, 3) := by decide +kernel
theorem dX3_shownOld_62 : decode cX3_shownOld 62 = .ok (.invokestatic 47, 3) := by decide +kernel
theorem dX3_shownOld_65 : decode cX3_shownOld 65 = .ok (.ireturn, 1) := by decide +kernel
theorem dX3_shownNew_0 : decode cX3_shownNew 0 = .ok (.iload_n 2, 1) := by decide +kernel
theorem dX3_shownNew_1 : decode cX3_shownNew 1 = .ok (.iload_n 3, 1) := by decide +kernel
theorem dX3_shownNew_2 : decode cX3_shownNew 2 = .ok (.if_icmp .eq 8, 3) := by decide +kernel
theorem dX3_shownNew_5 : decode cX3_shownNew 5 = .ok (.iload 4, 2) := by decide +kernel
theorem dX3_shownNew_7 : decode cX3_shownNew 7 = .ok (.ifCond .gt 5, 3) := by decide +kernel
theorem dX3_shownNew_10 : decode cX3_shownNew 10 = .ok (.iload_n 1, 1) := by decide +kernel
theorem dX3_shownNew_11 : decode cX3_shownNew 11 = .ok (.ireturn, 1) := by decide +kernel
theorem dX3_shownNew_12 : decode cX3_shownNew 12 = .ok (.iload_n 3, 1) := by decide +kernel
theorem dX3_shownNew_13 : decode cX3_shownNew 13 = .ok (.invokestatic 44, 3) := by decide +kernel
theorem dX3_shownNew_16 : decode cX3_shownNew 16 = .ok (.istore 5, 2) := by decide +kernel
theorem dX3_shownNew_18 : decode cX3_shownNew 18 = .ok (.aload_n 0, 1) := by decide +kernel
theorem dX3_shownNew_19 : decode cX3_shownNew 19 = .ok (.iload 4, 2) := by decide +kernel
theorem dX3_shownNew_21 : decode cX3_shownNew 21 = .ok (.iconst 1, 1) := by decide +kernel
theorem dX3_shownNew_22 : decode cX3_shownNew 22 = .ok (.isub, 1) := by decide +kernel
theorem dX3_shownNew_23 : decode cX3_shownNew 23 = .ok (.invokevirtual 34, 3) := by decide +kernel
theorem dX3_shownNew_26 : decode cX3_shownNew 26 = .ok (.istore 6, 2) := by decide +kernel
theorem dX3_shownNew_28 : decode cX3_shownNew 28 = .ok (.iload_n 2, 1) := by decide +kernel
theorem dX3_shownNew_29 : decode cX3_shownNew 29 = .ok (.iload 5, 2) := by decide +kernel
theorem dX3_shownNew_31 : decode cX3_shownNew 31 = .ok (.if_icmp .gt 21, 3) := by decide +kernel
theorem dX3_shownNew_34 : decode cX3_shownNew 34 = .ok (.aload_n 0, 1) := by decide +kernel
theorem dX3_shownNew_35 : decode cX3_shownNew 35 = .ok (.iload_n 1, 1) := by decide +kernel
theorem dX3_shownNew_36 : decode cX3_shownNew 36 = .ok (.iload_n 2, 1) := by decide +kernel
theorem dX3_shownNew_37 : decode cX3_shownNew 37 = .ok (.iload 5, 2) := by decide +kernel
theorem dX3_shownNew_39 : decode cX3_shownNew 39 = .ok (.iload 4, 2) := by decide +kernel
theorem dX3_shownNew_41 : decode cX3_shownNew 41 = .ok (.iconst 1, 1) := by decide +kernel
theorem dX3_shownNew_42 : decode cX3_shownNew 42 = .ok (.isub, 1) := by decide +kernel
theorem dX3_shownNew_43 : decode cX3_shownNew 43 = .ok (.invokestatic 41, 3) := by decide +kernel
theorem dX3_shownNew_46 : decode cX3_shownNew 46 = .ok (.iload 6, 2) := by decide +kernel
theorem dX3_shownNew_48 : decode cX3_shownNew 48 = .ok (.invokestatic 47, 3) := by decide +kernel
theorem dX3_shownNew_51 : decode cX3_shownNew 51 = .ok (.ireturn, 1) := by decide +kernel
theorem dX3_shownNew_52 : decode cX3_shownNew 52 = .ok (.iload 6, 2) := by decide +kernel
theorem dX3_shownNew_54 : decode cX3_shownNew 54 = .ok (.aload_n 0, 1) := by decide +kernel
theorem dX3_shownNew_55 : decode cX3_shownNew 55 = .ok (.iload_n 1, 1) := by decide +kernel
theorem dX3_shownNew_56 : decode cX3_shownNew 56 = .ok (.iload_n 2, 1) := by decide +kernel
theorem dX3_shownNew_57 : decode cX3_shownNew 57 = .ok (.iload 5, 2) := by decide +kernel
theorem dX3_shownNew_59 : decode cX3_shownNew 59 = .ok (.isub, 1) := by decide +kernel
theorem dX3_shownNew_60 : decode cX3_shownNew 60 = .ok (.iload_n 3, 1) := by decide +kernel
theorem dX3_shownNew_61 : decode cX3_shownNew 61 = .ok (.iload 5, 2) := by decide +kernel
theorem dX3_shownNew_63 : decode cX3_shownNew 63 = .ok (.isub, 1) := by decide +kernel
theorem dX3_shownNew_64 : decode cX3_shownNew 64 = .ok (.iload 4, 2) := by decide +kernel
theorem dX3_shownNew_66 : decode cX3_shownNew 66 = .ok (.iconst 1, 1) := by decide +kernel
theorem dX3_shownNew_67 : decode cX3_shownNew 67 = .ok (.isub, 1) := by decide +kernel
theorem dX3_shownNew_68 : decode cX3_shownNew 68 = .ok (.invokestatic 41, 3) := by decide +kernel
theorem dX3_shownNew_71 : decode cX3_shownNew 71 = .ok (.invokestatic 47, 3) := by decide +kernel
theorem dX3_shownNew_74 : decode cX3_shownNew 74 = .ok (.ireturn, 1) := by decide +kernel
theorem dX3_showsConsistency_0 : decode cX3_showsConsistency 0 = .ok (.iload_n 2, 1) := by decide +kernel
theorem dX3_showsConsistency_1 : decode cX3_showsConsistency 1 = .ok (.iload 4, 2) := by decide +kernel
theorem dX3_showsConsistency_3 : decode cX3_showsConsistency 3 = .ok (.invokestatic 27, 3) := by decide +kernel
theorem dX3_showsConsistency_6 : decode cX3_showsConsistency 6 = .ok (.istore 5, 2) := by decide +kernel
theorem dX3_showsConsistency_8 : decode cX3_showsConsistency 8 = .ok (.iload_n 2, 1) := by decide +kernel
theorem dX3_showsConsistency_9 : decode cX3_showsConsistency 9 = .ok (.iload 4, 2) := by decide +kernel
theorem dX3_showsConsistency_11 : decode cX3_showsConsistency 11 = .ok (.invokestatic 30, 3) := by decide +kernel
theorem dX3_showsConsistency_14 : decode cX3_showsConsistency 14 = .ok (.istore 6, 2) := by decide +kernel
theorem dX3_showsConsistency_16 : decode cX3_showsConsistency 16 = .ok (.aload_n 0, 1) := by decide +kernel
theorem dX3_showsConsistency_17 : decode cX3_showsConsistency 17 = .ok (.getfield 15, 3) := by decide +kernel
theorem dX3_showsConsistency_20 : decode cX3_showsConsistency 20 = .ok (.iload 6, 2) := by decide +kernel
theorem dX3_showsConsistency_22 : decode cX3_showsConsistency 22 = .ok (.ifCond .eq 8, 3) := by decide +kernel
theorem dX3_showsConsistency_25 : decode cX3_showsConsistency 25 = .ok (.iload 5, 2) := by decide +kernel
theorem dX3_showsConsistency_27 : decode cX3_showsConsistency 27 = .ok (.goto 7, 3) := by decide +kernel
theorem dX3_showsConsistency_30 : decode cX3_showsConsistency 30 = .ok (.iload 5, 2) := by decide +kernel
theorem dX3_showsConsistency_32 : decode cX3_showsConsistency 32 = .ok (.iconst 1, 1) := by decide +kernel
theorem dX3_showsConsistency_33 : decode cX3_showsConsistency 33 = .ok (.iadd, 1) := by decide +kernel
theorem dX3_showsConsistency_34 : decode cX3_showsConsistency 34 = .ok (.if_icmp .eq 5, 3) := by decide +kernel
theorem dX3_showsConsistency_37 : decode cX3_showsConsistency 37 = .ok (.iconst 0, 1) := by decide +kernel
theorem dX3_showsConsistency_38 : decode cX3_showsConsistency 38 = .ok (.ireturn, 1) := by decide +kernel
theorem dX3_showsConsistency_39 : decode cX3_showsConsistency 39 = .ok (.iload 6, 2) := by decide +kernel
theorem dX3_showsConsistency_41 : decode cX3_showsConsistency 41 = .ok (.ifCond .eq 7, 3) := by decide +kernel
theorem dX3_showsConsistency_44 : decode cX3_showsConsistency 44 = .ok (.iload_n 1, 1) := by decide +kernel
theorem dX3_showsConsistency_45 : decode cX3_showsConsistency 45 = .ok (.goto 8, 3) := by decide +kernel
theorem dX3_showsConsistency_48 : decode cX3_showsConsistency 48 = .ok (.aload_n 0, 1) := by decide +kernel
theorem dX3_showsConsistency_49 : decode cX3_showsConsistency 49 = .ok (.iconst 0, 1) := by decide +kernel
theorem dX3_showsConsistency_50 : decode cX3_showsConsistency 50 = .ok (.invokevirtual 34, 3) := by decide +kernel
theorem dX3_showsConsistency_53 : decode cX3_showsConsistency 53 = .ok (.istore 7, 2) := by decide +kernel
theorem dX3_showsConsistency_55 : decode cX3_showsConsistency 55 = .ok (.aload_n 0, 1) := by decide +kernel
theorem dX3_showsConsistency_56 : decode cX3_showsConsistency 56 = .ok (.iload 7, 2) := by decide +kernel
theorem dX3_showsConsistency_58 : decode cX3_showsConsistency 58 = .ok (.iload_n 2, 1) := by decide +kernel
theorem dX3_showsConsistency_59 : decode cX3_showsConsistency 59 = .ok (.iload 4, 2) := by decide +kernel
theorem dX3_showsConsistency_61 : decode cX3_showsConsistency 61 = .ok (.aload_n 0, 1) := by decide +kernel
theorem dX3_showsConsistency_62 : decode cX3_showsConsistency 62 = .ok (.getfield 15, 3) := by decide +kernel
theorem dX3_showsConsistency_65 : decode cX3_showsConsistency 65 = .ok (.invokestatic 38, 3) := by decide +kernel
theorem dX3_showsConsistency_68 : decode cX3_showsConsistency 68 = .ok (.iload_n 1, 1) := by decide +kernel
theorem dX3_showsConsistency_69 : decode cX3_showsConsistency 69 = .ok (.if_icmp .ne 24, 3) := by decide +kernel
theorem dX3_showsConsistency_72 : decode cX3_showsConsistency 72 = .ok (.aload_n 0, 1) := by decide +kernel
theorem dX3_showsConsistency_73 : decode cX3_showsConsistency 73 = .ok (.iload 7, 2) := by decide +kernel
theorem dX3_showsConsistency_75 : decode cX3_showsConsistency 75 = .ok (.iload_n 2, 1) := by decide +kernel
theorem dX3_showsConsistency_76 : decode cX3_showsConsistency 76 = .ok (.iload 4, 2) := by decide +kernel
theorem dX3_showsConsistency_78 : decode cX3_showsConsistency 78 = .ok (.aload_n 0, 1) := by decide +kernel
theorem dX3_showsConsistency_79 : decode cX3_showsConsistency 79 = .ok (.getfield 15, 3) := by decide +kernel
theorem dX3_showsConsistency_82 : decode cX3_showsConsistency 82 = .ok (.invokestatic 41, 3) := by decide +kernel
theorem dX3_showsConsistency_85 : decode cX3_showsConsistency 85 = .ok (.iload_n 3, 1) := by decide +kernel
theorem dX3_showsConsistency_86 : decode cX3_showsConsistency 86 = .ok (.if_icmp .ne 7, 3) := by decide +kernel
theorem dX3_showsConsistency_89 : decode cX3_showsConsistency 89 = .ok (.iconst 1, 1) := by decide +kernel
theorem dX3_showsConsistency_90 : decode cX3_showsConsistency 90 = .ok (.goto 4, 3) := by decide +kernel
theorem dX3_showsConsistency_93 : decode cX3_showsConsistency 93 = .ok (.iconst 0, 1) := by decide +kernel
theorem dX3_showsConsistency_94 : decode cX3_showsConsistency 94 = .ok (.ireturn, 1) := by decide +kernel
theorem dX5_consistent_0 : decode cX5_consistent 0 = .ok (.iload 4, 2) := by decide +kernel
theorem dX5_consistent_2 : decode cX5_consistent 2 = .ok (.iconst 1, 1) := by decide +kernel
theorem dX5_consistent_3 : decode cX5_consistent 3 = .ok (.if_icmp .lt 41, 3) := by decide +kernel
theorem dX5_consistent_6 : decode cX5_consistent 6 = .ok (.iload 4, 2) := by decide +kernel
theorem dX5_consistent_8 : decode cX5_consistent 8 = .ok (.sipush 1000, 3) := by decide +kernel
theorem dX5_consistent_11 : decode cX5_consistent 11 = .ok (.if_icmp .gt 33, 3) := by decide +kernel
theorem dX5_consistent_14 : decode cX5_consistent 14 = .ok (.iload_n 2, 1) := by decide +kernel
theorem dX5_consistent_15 : decode cX5_consistent 15 = .ok (.iconst 1, 1) := by decide +kernel
theorem dX5_consistent_16 : decode cX5_consistent 16 = .ok (.if_icmp .lt 28, 3) := by decide +kernel
theorem dX5_consistent_19 : decode cX5_consistent 19 = .ok (.iload_n 2, 1) := by decide +kernel
theorem dX5_consistent_20 : decode cX5_consistent 20 = .ok (.iload 4, 2) := by decide +kernel
theorem dX5_consistent_22 : decode cX5_consistent 22 = .ok (.if_icmp .gt 22, 3) := by decide +kernel
theorem dX5_consistent_25 : decode cX5_consistent 25 = .ok (.aload_n 0, 1) := by decide +kernel
theorem dX5_consistent_26 : decode cX5_consistent 26 = .ok (.getfield 37, 3) := by decide +kernel
theorem dX5_consistent_29 : decode cX5_consistent 29 = .ok (.iload_n 1, 1) := by decide +kernel
theorem dX5_consistent_30 : decode cX5_consistent 30 = .ok (.iload_n 2, 1) := by decide +kernel
theorem dX5_consistent_31 : decode cX5_consistent 31 = .ok (.iload_n 3, 1) := by decide +kernel
theorem dX5_consistent_32 : decode cX5_consistent 32 = .ok (.iload 4, 2) := by decide +kernel
theorem dX5_consistent_34 : decode cX5_consistent 34 = .ok (.invokevirtual 141, 3) := by decide +kernel
theorem dX5_consistent_37 : decode cX5_consistent 37 = .ok (.ifCond .eq 7, 3) := by decide +kernel
theorem dX5_consistent_40 : decode cX5_consistent 40 = .ok (.iconst 1, 1) := by decide +kernel
theorem dX5_consistent_41 : decode cX5_consistent 41 = .ok (.goto 4, 3) := by decide +kernel
theorem dX5_consistent_44 : decode cX5_consistent 44 = .ok (.iconst 0, 1) := by decide +kernel
theorem dX5_consistent_45 : decode cX5_consistent 45 = .ok (.ireturn, 1) := by decide +kernel
theorem dX5_cell_0 : decode cX5_cell 0 = .ok (.aload_n 0, 1) := by decide +kernel
theorem dX5_cell_1 : decode cX5_cell 1 = .ok (.getfield 30, 3) := by decide +kernel
theorem dX5_cell_4 : decode cX5_cell 4 = .ok (.iload_n 1, 1) := by decide +kernel
theorem dX5_cell_5 : decode cX5_cell 5 = .ok (.invokevirtual 144, 3) := by decide +kernel
theorem dX5_cell_8 : decode cX5_cell 8 = .ok (.ireturn, 1) := by decide +kernel
theorem dX0_writesDone_0 : decode cX0_writesDone 0 = .ok (.aload_n 0, 1) := by decide +kernel
theorem dX0_writesDone_1 : decode cX0_writesDone 1 = .ok (.getfield 19, 3) := by decide +kernel
theorem dX0_writesDone_4 : decode cX0_writesDone 4 = .ok (.ireturn, 1) := by decide +kernel
theorem dX5_writes_0 : decode cX5_writes 0 = .ok (.aload_n 0, 1) := by decide +kernel
theorem dX5_writes_1 : decode cX5_writes 1 = .ok (.getfield 30, 3) := by decide +kernel
theorem dX5_writes_4 : decode cX5_writes 4 = .ok (.invokevirtual 147, 3) := by decide +kernel
theorem dX5_writes_7 : decode cX5_writes 7 = .ok (.ireturn, 1) := by decide +kernel
