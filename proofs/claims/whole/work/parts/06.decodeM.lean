theorem dX6_init_0 : decode cX6_init 0 = .ok (.aload_n 0, 1) := by decide +kernel
theorem dX6_init_1 : decode cX6_init 1 = .ok (.invokespecial 1, 3) := by decide +kernel
theorem dX6_init_4 : decode cX6_init 4 = .ok (.aload_n 0, 1) := by decide +kernel
theorem dX6_init_5 : decode cX6_init 5 = .ok (.bipush 76, 2) := by decide +kernel
theorem dX6_init_7 : decode cX6_init 7 = .ok (.newarray .int, 2) := by decide +kernel
theorem dX6_init_9 : decode cX6_init 9 = .ok (.putfield 7, 3) := by decide +kernel
theorem dX6_init_12 : decode cX6_init 12 = .ok (.aload_n 0, 1) := by decide +kernel
theorem dX6_init_13 : decode cX6_init 13 = .ok (.bipush 76, 2) := by decide +kernel
theorem dX6_init_15 : decode cX6_init 15 = .ok (.newarray .int, 2) := by decide +kernel
theorem dX6_init_17 : decode cX6_init 17 = .ok (.putfield 13, 3) := by decide +kernel
theorem dX6_init_20 : decode cX6_init 20 = .ok (.aload_n 0, 1) := by decide +kernel
theorem dX6_init_21 : decode cX6_init 21 = .ok (.sipush 304, 3) := by decide +kernel
theorem dX6_init_24 : decode cX6_init 24 = .ok (.newarray .int, 2) := by decide +kernel
theorem dX6_init_26 : decode cX6_init 26 = .ok (.putfield 16, 3) := by decide +kernel
theorem dX6_init_29 : decode cX6_init 29 = .ok (.aload_n 0, 1) := by decide +kernel
theorem dX6_init_30 : decode cX6_init 30 = .ok (.sipush 304, 3) := by decide +kernel
theorem dX6_init_33 : decode cX6_init 33 = .ok (.newarray .int, 2) := by decide +kernel
theorem dX6_init_35 : decode cX6_init 35 = .ok (.putfield 19, 3) := by decide +kernel
theorem dX6_init_38 : decode cX6_init 38 = .ok (.aload_n 0, 1) := by decide +kernel
theorem dX6_init_39 : decode cX6_init 39 = .ok (.bipush 76, 2) := by decide +kernel
theorem dX6_init_41 : decode cX6_init 41 = .ok (.newarray .int, 2) := by decide +kernel
theorem dX6_init_43 : decode cX6_init 43 = .ok (.putfield 22, 3) := by decide +kernel
theorem dX6_init_46 : decode cX6_init 46 = .ok (.aload_n 0, 1) := by decide +kernel
theorem dX6_init_47 : decode cX6_init 47 = .ok (.bipush 77, 2) := by decide +kernel
theorem dX6_init_49 : decode cX6_init 49 = .ok (.newarray .int, 2) := by decide +kernel
theorem dX6_init_51 : decode cX6_init 51 = .ok (.putfield 25, 3) := by decide +kernel
theorem dX6_init_54 : decode cX6_init 54 = .ok (.aload_n 0, 1) := by decide +kernel
theorem dX6_init_55 : decode cX6_init 55 = .ok (.iconst 4, 1) := by decide +kernel
theorem dX6_init_56 : decode cX6_init 56 = .ok (.newarray .int, 2) := by decide +kernel
theorem dX6_init_58 : decode cX6_init 58 = .ok (.putfield 28, 3) := by decide +kernel
theorem dX6_init_61 : decode cX6_init 61 = .ok (.aload_n 0, 1) := by decide +kernel
theorem dX6_init_62 : decode cX6_init 62 = .ok (.iconst 4, 1) := by decide +kernel
theorem dX6_init_63 : decode cX6_init 63 = .ok (.newarray .int, 2) := by decide +kernel
theorem dX6_init_65 : decode cX6_init 65 = .ok (.putfield 31, 3) := by decide +kernel
theorem dX6_init_68 : decode cX6_init 68 = .ok (.aload_n 0, 1) := by decide +kernel
theorem dX6_init_69 : decode cX6_init 69 = .ok (.bipush 8, 2) := by decide +kernel
theorem dX6_init_71 : decode cX6_init 71 = .ok (.newarray .int, 2) := by decide +kernel
theorem dX6_init_73 : decode cX6_init 73 = .ok (.putfield 34, 3) := by decide +kernel
theorem dX6_init_76 : decode cX6_init 76 = .ok (.aload_n 0, 1) := by decide +kernel
theorem dX6_init_77 : decode cX6_init 77 = .ok (.sipush 512, 3) := by decide +kernel
theorem dX6_init_80 : decode cX6_init 80 = .ok (.newarray .int, 2) := by decide +kernel
theorem dX6_init_82 : decode cX6_init 82 = .ok (.putfield 37, 3) := by decide +kernel
theorem dX6_init_85 : decode cX6_init 85 = .ok (.aload_n 0, 1) := by decide +kernel
theorem dX6_init_86 : decode cX6_init 86 = .ok (.bipush 16, 2) := by decide +kernel
theorem dX6_init_88 : decode cX6_init 88 = .ok (.newarray .int, 2) := by decide +kernel
theorem dX6_init_90 : decode cX6_init 90 = .ok (.putfield 40, 3) := by decide +kernel
theorem dX6_init_93 : decode cX6_init 93 = .ok (.aload_n 0, 1) := by decide +kernel
theorem dX6_init_94 : decode cX6_init 94 = .ok (.bipush 16, 2) := by decide +kernel
theorem dX6_init_96 : decode cX6_init 96 = .ok (.newarray .int, 2) := by decide +kernel
theorem dX6_init_98 : decode cX6_init 98 = .ok (.putfield 43, 3) := by decide +kernel
theorem dX6_init_101 : decode cX6_init 101 = .ok (.aload_n 0, 1) := by decide +kernel
theorem dX6_init_102 : decode cX6_init 102 = .ok (.bipush 16, 2) := by decide +kernel
theorem dX6_init_104 : decode cX6_init 104 = .ok (.newarray .boolean, 2) := by decide +kernel
theorem dX6_init_106 : decode cX6_init 106 = .ok (.putfield 46, 3) := by decide +kernel
theorem dX6_init_109 : decode cX6_init 109 = .ok (.aload_n 0, 1) := by decide +kernel
theorem dX6_init_110 : decode cX6_init 110 = .ok (.bipush 16, 2) := by decide +kernel
theorem dX6_init_112 : decode cX6_init 112 = .ok (.newarray .int, 2) := by decide +kernel
theorem dX6_init_114 : decode cX6_init 114 = .ok (.putfield 50, 3) := by decide +kernel
theorem dX6_init_117 : decode cX6_init 117 = .ok (.return_, 1) := by decide +kernel
theorem dX6_mix_0 : decode cX6_mix 0 = .ok (.iload_n 0, 1) := by decide +kernel
theorem dX6_mix_1 : decode cX6_mix 1 = .ok (.ldc 53, 2) := by decide +kernel
theorem dX6_mix_3 : decode cX6_mix 3 = .ok (.imul, 1) := by decide +kernel
theorem dX6_mix_4 : decode cX6_mix 4 = .ok (.iload_n 1, 1) := by decide +kernel
theorem dX6_mix_5 : decode cX6_mix 5 = .ok (.iadd, 1) := by decide +kernel
theorem dX6_mix_6 : decode cX6_mix 6 = .ok (.istore_n 2, 1) := by decide +kernel
theorem dX6_mix_7 : decode cX6_mix 7 = .ok (.iload_n 2, 1) := by decide +kernel
theorem dX6_mix_8 : decode cX6_mix 8 = .ok (.iload_n 2, 1) := by decide +kernel
theorem dX6_mix_9 : decode cX6_mix 9 = .ok (.bipush 15, 2) := by decide +kernel
theorem dX6_mix_11 : decode cX6_mix 11 = .ok (.iushr, 1) := by decide +kernel
theorem dX6_mix_12 : decode cX6_mix 12 = .ok (.ixor, 1) := by decide +kernel
theorem dX6_mix_13 : decode cX6_mix 13 = .ok (.ldc 54, 2) := by decide +kernel
theorem dX6_mix_15 : decode cX6_mix 15 = .ok (.imul, 1) := by decide +kernel
theorem dX6_mix_16 : decode cX6_mix 16 = .ok (.istore_n 3, 1) := by decide +kernel
theorem dX6_mix_17 : decode cX6_mix 17 = .ok (.iload_n 3, 1) := by decide +kernel
theorem dX6_mix_18 : decode cX6_mix 18 = .ok (.iload_n 3, 1) := by decide +kernel
theorem dX6_mix_19 : decode cX6_mix 19 = .ok (.bipush 12, 2) := by decide +kernel
theorem dX6_mix_21 : decode cX6_mix 21 = .ok (.iushr, 1) := by decide +kernel
theorem dX6_mix_22 : decode cX6_mix 22 = .ok (.ixor, 1) := by decide +kernel
theorem dX6_mix_23 : decode cX6_mix 23 = .ok (.ireturn, 1) := by decide +kernel
theorem dX6_node_0 : decode cX6_node 0 = .ok (.iconst 1, 1) := by decide +kernel
theorem dX6_node_1 : decode cX6_node 1 = .ok (.iload_n 0, 1) := by decide +kernel
theorem dX6_node_2 : decode cX6_node 2 = .ok (.invokestatic 55, 3) := by decide +kernel
theorem dX6_node_5 : decode cX6_node 5 = .ok (.iload_n 1, 1) := by decide +kernel
theorem dX6_node_6 : decode cX6_node 6 = .ok (.invokestatic 55, 3) := by decide +kernel
theorem dX6_node_9 : decode cX6_node 9 = .ok (.ireturn, 1) := by decide +kernel
theorem dX6_isAccount_0 : decode cX6_isAccount 0 = .ok (.iload_n 0, 1) := by decide +kernel
theorem dX6_isAccount_1 : decode cX6_isAccount 1 = .ok (.ifCond .lt 13, 3) := by decide +kernel
theorem dX6_isAccount_4 : decode cX6_isAccount 4 = .ok (.iload_n 0, 1) := by decide +kernel
theorem dX6_isAccount_5 : decode cX6_isAccount 5 = .ok (.bipush 7, 2) := by decide +kernel
theorem dX6_isAccount_7 : decode cX6_isAccount 7 = .ok (.if_icmp .gt 7, 3) := by decide +kernel
theorem dX6_isAccount_10 : decode cX6_isAccount 10 = .ok (.iconst 1, 1) := by decide +kernel
theorem dX6_isAccount_11 : decode cX6_isAccount 11 = .ok (.goto 4, 3) := by decide +kernel
theorem dX6_isAccount_14 : decode cX6_isAccount 14 = .ok (.iconst 0, 1) := by decide +kernel
theorem dX6_isAccount_15 : decode cX6_isAccount 15 = .ok (.ireturn, 1) := by decide +kernel
theorem dX6_limit_0 : decode cX6_limit 0 = .ok (.iload_n 1, 1) := by decide +kernel
theorem dX6_limit_1 : decode cX6_limit 1 = .ok (.invokestatic 59, 3) := by decide +kernel
theorem dX6_limit_4 : decode cX6_limit 4 = .ok (.ifCond .eq 13, 3) := by decide +kernel
theorem dX6_limit_7 : decode cX6_limit 7 = .ok (.iload_n 2, 1) := by decide +kernel
theorem dX6_limit_8 : decode cX6_limit 8 = .ok (.ifCond .lt 9, 3) := by decide +kernel
theorem dX6_limit_11 : decode cX6_limit 11 = .ok (.iload_n 2, 1) := by decide +kernel
theorem dX6_limit_12 : decode cX6_limit 12 = .ok (.ldc 63, 2) := by decide +kernel
theorem dX6_limit_14 : decode cX6_limit 14 = .ok (.if_icmp .le 5, 3) := by decide +kernel
theorem dX6_limit_17 : decode cX6_limit 17 = .ok (.iconst 0, 1) := by decide +kernel
theorem dX6_limit_18 : decode cX6_limit 18 = .ok (.ireturn, 1) := by decide +kernel
theorem dX6_limit_19 : decode cX6_limit 19 = .ok (.aload_n 0, 1) := by decide +kernel
theorem dX6_limit_20 : decode cX6_limit 20 = .ok (.getfield 34, 3) := by decide +kernel
theorem dX6_limit_23 : decode cX6_limit 23 = .ok (.iload_n 1, 1) := by decide +kernel
theorem dX6_limit_24 : decode cX6_limit 24 = .ok (.iload_n 2, 1) := by decide +kernel
theorem dX6_limit_25 : decode cX6_limit 25 = .ok (.iastore, 1) := by decide +kernel
theorem dX6_limit_26 : decode cX6_limit 26 = .ok (.iconst 1, 1) := by decide +kernel
theorem dX6_limit_27 : decode cX6_limit 27 = .ok (.ireturn, 1) := by decide +kernel
theorem dX6_leg_0 : decode cX6_leg 0 = .ok (.aload_n 0, 1) := by decide +kernel
theorem dX6_leg_1 : decode cX6_leg 1 = .ok (.getfield 64, 3) := by decide +kernel
theorem dX6_leg_4 : decode cX6_leg 4 = .ok (.ifCond .ne 32, 3) := by decide +kernel
theorem dX6_leg_7 : decode cX6_leg 7 = .ok (.aload_n 0, 1) := by decide +kernel
theorem dX6_leg_8 : decode cX6_leg 8 = .ok (.getfield 68, 3) := by decide +kernel
theorem dX6_leg_11 : decode cX6_leg 11 = .ok (.iconst 4, 1) := by decide +kernel
theorem dX6_leg_12 : decode cX6_leg 12 = .ok (.if_icmp .eq 24, 3) := by decide +kernel
theorem dX6_leg_15 : decode cX6_leg 15 = .ok (.iload_n 1, 1) := by decide +kernel
theorem dX6_leg_16 : decode cX6_leg 16 = .ok (.invokestatic 59, 3) := by decide +kernel
theorem dX6_leg_19 : decode cX6_leg 19 = .ok (.ifCond .eq 17, 3) := by decide +kernel
theorem dX6_leg_22 : decode cX6_leg 22 = .ok (.iload_n 2, 1) := by decide +kernel
theorem dX6_leg_23 : decode cX6_leg 23 = .ok (.sipush (-9999), 3) := by decide +kernel
theorem dX6_leg_26 : decode cX6_leg 26 = .ok (.if_icmp .lt 10, 3) := by decide +kernel
theorem dX6_leg_29 : decode cX6_leg 29 = .ok (.iload_n 2, 1) := by decide +kernel
theorem dX6_leg_30 : decode cX6_leg 30 = .ok (.sipush 9999, 3) := by decide +kernel
theorem dX6_leg_33 : decode cX6_leg 33 = .ok (.if_icmp .le 5, 3) := by decide +kernel
theorem dX6_leg_36 : decode cX6_leg 36 = .ok (.iconst 0, 1) := by decide +kernel
theorem dX6_leg_37 : decode cX6_leg 37 = .ok (.ireturn, 1) := by decide +kernel
theorem dX6_leg_38 : decode cX6_leg 38 = .ok (.aload_n 0, 1) := by decide +kernel
theorem dX6_leg_39 : decode cX6_leg 39 = .ok (.getfield 28, 3) := by decide +kernel
theorem dX6_leg_42 : decode cX6_leg 42 = .ok (.aload_n 0, 1) := by decide +kernel
theorem dX6_leg_43 : decode cX6_leg 43 = .ok (.getfield 68, 3) := by decide +kernel
theorem dX6_leg_46 : decode cX6_leg 46 = .ok (.iload_n 1, 1) := by decide +kernel
theorem dX6_leg_47 : decode cX6_leg 47 = .ok (.iastore, 1) := by decide +kernel
theorem dX6_leg_48 : decode cX6_leg 48 = .ok (.aload_n 0, 1) := by decide +kernel
theorem dX6_leg_49 : decode cX6_leg 49 = .ok (.getfield 31, 3) := by decide +kernel
theorem dX6_leg_52 : decode cX6_leg 52 = .ok (.aload_n 0, 1) := by decide +kernel
theorem dX6_leg_53 : decode cX6_leg 53 = .ok (.getfield 68, 3) := by decide +kernel
theorem dX6_leg_56 : decode cX6_leg 56 = .ok (.iload_n 2, 1) := by decide +kernel
theorem dX6_leg_57 : decode cX6_leg 57 = .ok (.iastore, 1) := by decide +kernel
theorem dX6_leg_58 : decode cX6_leg 58 = .ok (.aload_n 0, 1) := by decide +kernel
theorem dX6_leg_59 : decode cX6_leg 59 = .ok (.dup, 1) := by decide +kernel
theorem dX6_leg_60 : decode cX6_leg 60 = .ok (.getfield 68, 3) := by decide +kernel
theorem dX6_leg_63 : decode cX6_leg 63 = .ok (.iconst 1, 1) := by decide +kernel
theorem dX6_leg_64 : decode cX6_leg 64 = .ok (.iadd, 1) := by decide +kernel
theorem dX6_leg_65 : decode cX6_leg 65 = .ok (.putfield 68, 3) := by decide +kernel
theorem dX6_leg_68 : decode cX6_leg 68 = .ok (.iconst 1, 1) := by decide +kernel
theorem dX6_leg_69 : decode cX6_leg 69 = .ok (.ireturn, 1) := by decide +kernel
theorem dX6_drop_0 : decode cX6_drop 0 = .ok (.aload_n 0, 1) := by decide +kernel
theorem dX6_drop_1 : decode cX6_drop 1 = .ok (.iconst 0, 1) := by decide +kernel
theorem dX6_drop_2 : decode cX6_drop 2 = .ok (.putfield 68, 3) := by decide +kernel
theorem dX6_drop_5 : decode cX6_drop 5 = .ok (.return_, 1) := by decide +kernel
theorem dX6_leafOf_0 : decode cX6_leafOf 0 = .ok (.iconst 0, 1) := by decide +kernel
theorem dX6_leafOf_1 : decode cX6_leafOf 1 = .ok (.aload_n 0, 1) := by decide +kernel
theorem dX6_leafOf_2 : decode cX6_leafOf 2 = .ok (.getfield 7, 3) := by decide +kernel
theorem dX6_leafOf_5 : decode cX6_leafOf 5 = .ok (.iload_n 1, 1) := by decide +kernel
theorem dX6_leafOf_6 : decode cX6_leafOf 6 = .ok (.iaload, 1) := by decide +kernel
theorem dX6_leafOf_7 : decode cX6_leafOf 7 = .ok (.invokestatic 55, 3) := by decide +kernel
theorem dX6_leafOf_10 : decode cX6_leafOf 10 = .ok (.istore_n 2, 1) := by decide +kernel
theorem dX6_leafOf_11 : decode cX6_leafOf 11 = .ok (.iconst 0, 1) := by decide +kernel
theorem dX6_leafOf_12 : decode cX6_leafOf 12 = .ok (.istore_n 3, 1) := by decide +kernel
theorem dX6_leafOf_13 : decode cX6_leafOf 13 = .ok (.iload_n 3, 1) := by decide +kernel
theorem dX6_leafOf_14 : decode cX6_leafOf 14 = .ok (.aload_n 0, 1) := by decide +kernel
theorem dX6_leafOf_15 : decode cX6_leafOf 15 = .ok (.getfield 13, 3) := by decide +kernel
theorem dX6_leafOf_18 : decode cX6_leafOf 18 = .ok (.iload_n 1, 1) := by decide +kernel
theorem dX6_leafOf_19 : decode cX6_leafOf 19 = .ok (.iaload, 1) := by decide +kernel
theorem dX6_leafOf_20 : decode cX6_leafOf 20 = .ok (.if_icmp .ge 38, 3) := by decide +kernel
theorem dX6_leafOf_23 : decode cX6_leafOf 23 = .ok (.iload_n 2, 1) := by decide +kernel
theorem dX6_leafOf_24 : decode cX6_leafOf 24 = .ok (.bipush 16, 2) := by decide +kernel
theorem dX6_leafOf_26 : decode cX6_leafOf 26 = .ok (.aload_n 0, 1) := by decide +kernel
theorem dX6_leafOf_27 : decode cX6_leafOf 27 = .ok (.getfield 19, 3) := by decide +kernel
theorem dX6_leafOf_30 : decode cX6_leafOf 30 = .ok (.iconst 4, 1) := by decide +kernel
theorem dX6_leafOf_31 : decode cX6_leafOf 31 = .ok (.iload_n 1, 1) := by decide +kernel
theorem dX6_leafOf_32 : decode cX6_leafOf 32 = .ok (.imul, 1) := by decide +kernel
theorem dX6_leafOf_33 : decode cX6_leafOf 33 = .ok (.iload_n 3, 1) := by decide +kernel
theorem dX6_leafOf_34 : decode cX6_leafOf 34 = .ok (.iadd, 1) := by decide +kernel
theorem dX6_leafOf_35 : decode cX6_leafOf 35 = .ok (.iaload, 1) := by decide +kernel
theorem dX6_leafOf_36 : decode cX6_leafOf 36 = .ok (.imul, 1) := by decide +kernel
theorem dX6_leafOf_37 : decode cX6_leafOf 37 = .ok (.aload_n 0, 1) := by decide +kernel
theorem dX6_leafOf_38 : decode cX6_leafOf 38 = .ok (.getfield 16, 3) := by decide +kernel
theorem dX6_leafOf_41 : decode cX6_leafOf 41 = .ok (.iconst 4, 1) := by decide +kernel
theorem dX6_leafOf_42 : decode cX6_leafOf 42 = .ok (.iload_n 1, 1) := by decide +kernel
theorem dX6_leafOf_43 : decode cX6_leafOf 43 = .ok (.imul, 1) := by decide +kernel
theorem dX6_leafOf_44 : decode cX6_leafOf 44 = .ok (.iload_n 3, 1) := by decide +kernel
theorem dX6_leafOf_45 : decode cX6_leafOf 45 = .ok (.iadd, 1) := by decide +kernel
theorem dX6_leafOf_46 : decode cX6_leafOf 46 = .ok (.iaload, 1) := by decide +kernel
theorem dX6_leafOf_47 : decode cX6_leafOf 47 = .ok (.iadd, 1) := by decide +kernel
theorem dX6_leafOf_48 : decode cX6_leafOf 48 = .ok (.invokestatic 55, 3) := by decide +kernel
theorem dX6_leafOf_51 : decode cX6_leafOf 51 = .ok (.istore_n 2, 1) := by decide +kernel
theorem dX6_leafOf_52 : decode cX6_leafOf 52 = .ok (.iinc 3 1, 3) := by decide +kernel
theorem dX6_leafOf_55 : decode cX6_leafOf 55 = .ok (.goto (-42), 3) := by decide +kernel
theorem dX6_leafOf_58 : decode cX6_leafOf 58 = .ok (.iload_n 2, 1) := by decide +kernel
theorem dX6_leafOf_59 : decode cX6_leafOf 59 = .ok (.ireturn, 1) := by decide +kernel
theorem dX6_sealOf_0 : decode cX6_sealOf 0 = .ok (.iload_n 1, 1) := by decide +kernel
theorem dX6_sealOf_1 : decode cX6_sealOf 1 = .ok (.ifCond .ne 7, 3) := by decide +kernel
theorem dX6_sealOf_4 : decode cX6_sealOf 4 = .ok (.iconst 0, 1) := by decide +kernel
theorem dX6_sealOf_5 : decode cX6_sealOf 5 = .ok (.goto 11, 3) := by decide +kernel
theorem dX6_sealOf_8 : decode cX6_sealOf 8 = .ok (.aload_n 0, 1) := by decide +kernel
theorem dX6_sealOf_9 : decode cX6_sealOf 9 = .ok (.getfield 22, 3) := by decide +kernel
theorem dX6_sealOf_12 : decode cX6_sealOf 12 = .ok (.iload_n 1, 1) := by decide +kernel
theorem dX6_sealOf_13 : decode cX6_sealOf 13 = .ok (.iconst 1, 1) := by decide +kernel
theorem dX6_sealOf_14 : decode cX6_sealOf 14 = .ok (.isub, 1) := by decide +kernel
theorem dX6_sealOf_15 : decode cX6_sealOf 15 = .ok (.iaload, 1) := by decide +kernel
theorem dX6_sealOf_16 : decode cX6_sealOf 16 = .ok (.aload_n 0, 1) := by decide +kernel
theorem dX6_sealOf_17 : decode cX6_sealOf 17 = .ok (.iload_n 1, 1) := by decide +kernel
theorem dX6_sealOf_18 : decode cX6_sealOf 18 = .ok (.invokevirtual 72, 3) := by decide +kernel
theorem dX6_sealOf_21 : decode cX6_sealOf 21 = .ok (.invokestatic 55, 3) := by decide +kernel
theorem dX6_sealOf_24 : decode cX6_sealOf 24 = .ok (.ireturn, 1) := by decide +kernel
theorem dX6_sameLegs_0 : decode cX6_sameLegs 0 = .ok (.aload_n 0, 1) := by decide +kernel
theorem dX6_sameLegs_1 : decode cX6_sameLegs 1 = .ok (.getfield 13, 3) := by decide +kernel
theorem dX6_sameLegs_4 : decode cX6_sameLegs 4 = .ok (.iload_n 1, 1) := by decide +kernel
theorem dX6_sameLegs_5 : decode cX6_sameLegs 5 = .ok (.iaload, 1) := by decide +kernel
theorem dX6_sameLegs_6 : decode cX6_sameLegs 6 = .ok (.aload_n 0, 1) := by decide +kernel
theorem dX6_sameLegs_7 : decode cX6_sameLegs 7 = .ok (.getfield 68, 3) := by decide +kernel
theorem dX6_sameLegs_10 : decode cX6_sameLegs 10 = .ok (.if_icmp .ne 7, 3) := by decide +kernel
theorem dX6_sameLegs_13 : decode cX6_sameLegs 13 = .ok (.iconst 1, 1) := by decide +kernel
theorem dX6_sameLegs_14 : decode cX6_sameLegs 14 = .ok (.goto 4, 3) := by decide +kernel
theorem dX6_sameLegs_17 : decode cX6_sameLegs 17 = .ok (.iconst 0, 1) := by decide +kernel
theorem dX6_sameLegs_18 : decode cX6_sameLegs 18 = .ok (.istore_n 2, 1) := by decide +kernel
theorem dX6_sameLegs_19 : decode cX6_sameLegs 19 = .ok (.iconst 0, 1) := by decide +kernel
theorem dX6_sameLegs_20 : decode cX6_sameLegs 20 = .ok (.istore_n 3, 1) := by decide +kernel
theorem dX6_sameLegs_21 : decode cX6_sameLegs 21 = .ok (.iload_n 3, 1) := by decide +kernel
theorem dX6_sameLegs_22 : decode cX6_sameLegs 22 = .ok (.aload_n 0, 1) := by decide +kernel
theorem dX6_sameLegs_23 : decode cX6_sameLegs 23 = .ok (.getfield 68, 3) := by decide +kernel
theorem dX6_sameLegs_26 : decode cX6_sameLegs 26 = .ok (.if_icmp .ge 57, 3) := by decide +kernel
theorem dX6_sameLegs_29 : decode cX6_sameLegs 29 = .ok (.iload_n 2, 1) := by decide +kernel
theorem dX6_sameLegs_30 : decode cX6_sameLegs 30 = .ok (.ifCond .eq 45, 3) := by decide +kernel
theorem dX6_sameLegs_33 : decode cX6_sameLegs 33 = .ok (.aload_n 0, 1) := by decide +kernel
theorem dX6_sameLegs_34 : decode cX6_sameLegs 34 = .ok (.getfield 16, 3) := by decide +kernel
theorem dX6_sameLegs_37 : decode cX6_sameLegs 37 = .ok (.iconst 4, 1) := by decide +kernel
theorem dX6_sameLegs_38 : decode cX6_sameLegs 38 = .ok (.iload_n 1, 1) := by decide +kernel
theorem dX6_sameLegs_39 : decode cX6_sameLegs 39 = .ok (.imul, 1) := by decide +kernel
theorem dX6_sameLegs_40 : decode cX6_sameLegs 40 = .ok (.iload_n 3, 1) := by decide +kernel
theorem dX6_sameLegs_41 : decode cX6_sameLegs 41 = .ok (.iadd, 1) := by decide +kernel
theorem dX6_sameLegs_42 : decode cX6_sameLegs 42 = .ok (.iaload, 1) := by decide +kernel
theorem dX6_sameLegs_43 : decode cX6_sameLegs 43 = .ok (.aload_n 0, 1) := by decide +kernel
theorem dX6_sameLegs_44 : decode cX6_sameLegs 44 = .ok (.getfield 28, 3) := by decide +kernel
theorem dX6_sameLegs_47 : decode cX6_sameLegs 47 = .ok (.iload_n 3, 1) := by decide +kernel
theorem dX6_sameLegs_48 : decode cX6_sameLegs 48 = .ok (.iaload, 1) := by decide +kernel
theorem dX6_sameLegs_49 : decode cX6_sameLegs 49 = .ok (.if_icmp .ne 26, 3) := by decide +kernel
theorem dX6_sameLegs_52 : decode cX6_sameLegs 52 = .ok (.aload_n 0, 1) := by decide +kernel
theorem dX6_sameLegs_53 : decode cX6_sameLegs 53 = .ok (.getfield 19, 3) := by decide +kernel
theorem dX6_sameLegs_56 : decode cX6_sameLegs 56 = .ok (.iconst 4, 1) := by decide +kernel
theorem dX6_sameLegs_57 : decode cX6_sameLegs 57 = .ok (.iload_n 1, 1) := by decide +kernel
theorem dX6_sameLegs_58 : decode cX6_sameLegs 58 = .ok (.imul, 1) := by decide +kernel
theorem dX6_sameLegs_59 : decode cX6_sameLegs 59 = .ok (.iload_n 3, 1) := by decide +kernel
theorem dX6_sameLegs_60 : decode cX6_sameLegs 60 = .ok (.iadd, 1) := by decide +kernel
theorem dX6_sameLegs_61 : decode cX6_sameLegs 61 = .ok (.iaload, 1) := by decide +kernel
theorem dX6_sameLegs_62 : decode cX6_sameLegs 62 = .ok (.aload_n 0, 1) := by decide +kernel
theorem dX6_sameLegs_63 : decode cX6_sameLegs 63 = .ok (.getfield 31, 3) := by decide +kernel
theorem dX6_sameLegs_66 : decode cX6_sameLegs 66 = .ok (.iload_n 3, 1) := by decide +kernel
theorem dX6_sameLegs_67 : decode cX6_sameLegs 67 = .ok (.iaload, 1) := by decide +kernel
theorem dX6_sameLegs_68 : decode cX6_sameLegs 68 = .ok (.if_icmp .ne 7, 3) := by decide +kernel
theorem dX6_sameLegs_71 : decode cX6_sameLegs 71 = .ok (.iconst 1, 1) := by decide +kernel
theorem dX6_sameLegs_72 : decode cX6_sameLegs 72 = .ok (.goto 4, 3) := by decide +kernel
theorem dX6_sameLegs_75 : decode cX6_sameLegs 75 = .ok (.iconst 0, 1) := by decide +kernel
theorem dX6_sameLegs_76 : decode cX6_sameLegs 76 = .ok (.istore_n 2, 1) := by decide +kernel
theorem dX6_sameLegs_77 : decode cX6_sameLegs 77 = .ok (.iinc 3 1, 3) := by decide +kernel
theorem dX6_sameLegs_80 : decode cX6_sameLegs 80 = .ok (.goto (-59), 3) := by decide +kernel
theorem dX6_sameLegs_83 : decode cX6_sameLegs 83 = .ok (.iload_n 2, 1) := by decide +kernel
theorem dX6_sameLegs_84 : decode cX6_sameLegs 84 = .ok (.ireturn, 1) := by decide +kernel
theorem dX6_total_0 : decode cX6_total 0 = .ok (.iconst 0, 1) := by decide +kernel
theorem dX6_total_1 : decode cX6_total 1 = .ok (.istore_n 1, 1) := by decide +kernel
theorem dX6_total_2 : decode cX6_total 2 = .ok (.iconst 0, 1) := by decide +kernel
theorem dX6_total_3 : decode cX6_total 3 = .ok (.istore_n 2, 1) := by decide +kernel
theorem dX6_total_4 : decode cX6_total 4 = .ok (.iload_n 2, 1) := by decide +kernel
theorem dX6_total_5 : decode cX6_total 5 = .ok (.aload_n 0, 1) := by decide +kernel
theorem dX6_total_6 : decode cX6_total 6 = .ok (.getfield 68, 3) := by decide +kernel
theorem dX6_total_9 : decode cX6_total 9 = .ok (.if_icmp .ge 18, 3) := by decide +kernel
theorem dX6_total_12 : decode cX6_total 12 = .ok (.iload_n 1, 1) := by decide +kernel
theorem dX6_total_13 : decode cX6_total 13 = .ok (.aload_n 0, 1) := by decide +kernel
theorem dX6_total_14 : decode cX6_total 14 = .ok (.getfield 31, 3) := by decide +kernel
theorem dX6_total_17 : decode cX6_total 17 = .ok (.iload_n 2, 1) := by decide +kernel
theorem dX6_total_18 : decode cX6_total 18 = .ok (.iaload, 1) := by decide +kernel
theorem dX6_total_19 : decode cX6_total 19 = .ok (.iadd, 1) := by decide +kernel
theorem dX6_total_20 : decode cX6_total 20 = .ok (.istore_n 1, 1) := by decide +kernel
theorem dX6_total_21 : decode cX6_total 21 = .ok (.iinc 2 1, 3) := by decide +kernel
theorem dX6_total_24 : decode cX6_total 24 = .ok (.goto (-20), 3) := by decide +kernel
theorem dX6_total_27 : decode cX6_total 27 = .ok (.iload_n 1, 1) := by decide +kernel
theorem dX6_total_28 : decode cX6_total 28 = .ok (.ireturn, 1) := by decide +kernel
theorem dX6_statement_0 : decode cX6_statement 0 = .ok (.iconst 0, 1) := by decide +kernel
theorem dX6_statement_1 : decode cX6_statement 1 = .ok (.istore 5, 2) := by decide +kernel
theorem dX6_statement_3 : decode cX6_statement 3 = .ok (.iload_n 2, 1) := by decide +kernel
theorem dX6_statement_4 : decode cX6_statement 4 = .ok (.ifCond .ge 7, 3) := by decide +kernel
theorem dX6_statement_7 : decode cX6_statement 7 = .ok (.iconst 0, 1) := by decide +kernel
theorem dX6_statement_8 : decode cX6_statement 8 = .ok (.goto 4, 3) := by decide +kernel
theorem dX6_statement_11 : decode cX6_statement 11 = .ok (.iload_n 2, 1) := by decide +kernel
theorem dX6_statement_12 : decode cX6_statement 12 = .ok (.istore 6, 2) := by decide +kernel
theorem dX6_statement_14 : decode cX6_statement 14 = .ok (.iload 6, 2) := by decide +kernel
theorem dX6_statement_16 : decode cX6_statement 16 = .ok (.iload_n 3, 1) := by decide +kernel
theorem dX6_statement_17 : decode cX6_statement 17 = .ok (.if_icmp .ge 90, 3) := by decide +kernel
theorem dX6_statement_20 : decode cX6_statement 20 = .ok (.iload 6, 2) := by decide +kernel
theorem dX6_statement_22 : decode cX6_statement 22 = .ok (.aload_n 0, 1) := by decide +kernel
theorem dX6_statement_23 : decode cX6_statement 23 = .ok (.getfield 76, 3) := by decide +kernel
theorem dX6_statement_26 : decode cX6_statement 26 = .ok (.if_icmp .ge 81, 3) := by decide +kernel
theorem dX6_statement_29 : decode cX6_statement 29 = .ok (.iload_n 1, 1) := by decide +kernel
theorem dX6_statement_30 : decode cX6_statement 30 = .ok (.invokestatic 59, 3) := by decide +kernel
theorem dX6_statement_33 : decode cX6_statement 33 = .ok (.ifCond .eq 74, 3) := by decide +kernel
theorem dX6_statement_36 : decode cX6_statement 36 = .ok (.iconst 4, 1) := by decide +kernel
theorem dX6_statement_37 : decode cX6_statement 37 = .ok (.iload 6, 2) := by decide +kernel
theorem dX6_statement_39 : decode cX6_statement 39 = .ok (.imul, 1) := by decide +kernel
theorem dX6_statement_40 : decode cX6_statement 40 = .ok (.istore 7, 2) := by decide +kernel
theorem dX6_statement_42 : decode cX6_statement 42 = .ok (.iload 7, 2) := by decide +kernel
theorem dX6_statement_44 : decode cX6_statement 44 = .ok (.iconst 4, 1) := by decide +kernel
theorem dX6_statement_45 : decode cX6_statement 45 = .ok (.iload 6, 2) := by decide +kernel
theorem dX6_statement_47 : decode cX6_statement 47 = .ok (.imul, 1) := by decide +kernel
theorem dX6_statement_48 : decode cX6_statement 48 = .ok (.aload_n 0, 1) := by decide +kernel
theorem dX6_statement_49 : decode cX6_statement 49 = .ok (.getfield 13, 3) := by decide +kernel
theorem dX6_statement_52 : decode cX6_statement 52 = .ok (.iload 6, 2) := by decide +kernel
theorem dX6_statement_54 : decode cX6_statement 54 = .ok (.iaload, 1) := by decide +kernel
theorem dX6_statement_55 : decode cX6_statement 55 = .ok (.iadd, 1) := by decide +kernel
theorem dX6_statement_56 : decode cX6_statement 56 = .ok (.if_icmp .ge 45, 3) := by decide +kernel
theorem dX6_statement_59 : decode cX6_statement 59 = .ok (.iload 5, 2) := by decide +kernel
theorem dX6_statement_61 : decode cX6_statement 61 = .ok (.aload_n 0, 1) := by decide +kernel
theorem dX6_statement_62 : decode cX6_statement 62 = .ok (.getfield 16, 3) := by decide +kernel
theorem dX6_statement_65 : decode cX6_statement 65 = .ok (.iload 7, 2) := by decide +kernel
theorem dX6_statement_67 : decode cX6_statement 67 = .ok (.iaload, 1) := by decide +kernel
theorem dX6_statement_68 : decode cX6_statement 68 = .ok (.iload_n 1, 1) := by decide +kernel
theorem dX6_statement_69 : decode cX6_statement 69 = .ok (.if_icmp .eq 7, 3) := by decide +kernel
theorem dX6_statement_72 : decode cX6_statement 72 = .ok (.iconst 0, 1) := by decide +kernel
theorem dX6_statement_73 : decode cX6_statement 73 = .ok (.goto 19, 3) := by decide +kernel
theorem dX6_statement_76 : decode cX6_statement 76 = .ok (.iload 4, 2) := by decide +kernel
theorem dX6_statement_78 : decode cX6_statement 78 = .ok (.ifCond .eq 13, 3) := by decide +kernel
theorem dX6_statement_81 : decode cX6_statement 81 = .ok (.aload_n 0, 1) := by decide +kernel
theorem dX6_statement_82 : decode cX6_statement 82 = .ok (.getfield 19, 3) := by decide +kernel
theorem dX6_statement_85 : decode cX6_statement 85 = .ok (.iload 7, 2) := by decide +kernel
theorem dX6_statement_87 : decode cX6_statement 87 = .ok (.iaload, 1) := by decide +kernel
theorem dX6_statement_88 : decode cX6_statement 88 = .ok (.goto 4, 3) := by decide +kernel
theorem dX6_statement_91 : decode cX6_statement 91 = .ok (.iconst 1, 1) := by decide +kernel
theorem dX6_statement_92 : decode cX6_statement 92 = .ok (.iadd, 1) := by decide +kernel
theorem dX6_statement_93 : decode cX6_statement 93 = .ok (.istore 5, 2) := by decide +kernel
theorem dX6_statement_95 : decode cX6_statement 95 = .ok (.iinc 7 1, 3) := by decide +kernel
theorem dX6_statement_98 : decode cX6_statement 98 = .ok (.goto (-56), 3) := by decide +kernel
theorem dX6_statement_101 : decode cX6_statement 101 = .ok (.iinc 6 1, 3) := by decide +kernel
theorem dX6_statement_104 : decode cX6_statement 104 = .ok (.goto (-90), 3) := by decide +kernel
theorem dX6_statement_107 : decode cX6_statement 107 = .ok (.iload 5, 2) := by decide +kernel
theorem dX6_statement_109 : decode cX6_statement 109 = .ok (.ireturn, 1) := by decide +kernel
theorem dX6_balance_0 : decode cX6_balance 0 = .ok (.iload_n 2, 1) := by decide +kernel
theorem dX6_balance_1 : decode cX6_balance 1 = .ok (.aload_n 0, 1) := by decide +kernel
theorem dX6_balance_2 : decode cX6_balance 2 = .ok (.getfield 76, 3) := by decide +kernel
theorem dX6_balance_5 : decode cX6_balance 5 = .ok (.if_icmp .le 7, 3) := by decide +kernel
theorem dX6_balance_8 : decode cX6_balance 8 = .ok (.iconst 0, 1) := by decide +kernel
theorem dX6_balance_9 : decode cX6_balance 9 = .ok (.goto 11, 3) := by decide +kernel
theorem dX6_balance_12 : decode cX6_balance 12 = .ok (.aload_n 0, 1) := by decide +kernel
theorem dX6_balance_13 : decode cX6_balance 13 = .ok (.iload_n 1, 1) := by decide +kernel
theorem dX6_balance_14 : decode cX6_balance 14 = .ok (.iconst 0, 1) := by decide +kernel
theorem dX6_balance_15 : decode cX6_balance 15 = .ok (.iload_n 2, 1) := by decide +kernel
theorem dX6_balance_16 : decode cX6_balance 16 = .ok (.iconst 1, 1) := by decide +kernel
theorem dX6_balance_17 : decode cX6_balance 17 = .ok (.invokevirtual 120, 3) := by decide +kernel
theorem dX6_balance_20 : decode cX6_balance 20 = .ok (.ireturn, 1) := by decide +kernel
theorem dX6_poor_0 : decode cX6_poor 0 = .ok (.iconst 0, 1) := by decide +kernel
theorem dX6_poor_1 : decode cX6_poor 1 = .ok (.istore_n 1, 1) := by decide +kernel
theorem dX6_poor_2 : decode cX6_poor 2 = .ok (.iconst 0, 1) := by decide +kernel
theorem dX6_poor_3 : decode cX6_poor 3 = .ok (.istore_n 2, 1) := by decide +kernel
theorem dX6_poor_4 : decode cX6_poor 4 = .ok (.iload_n 2, 1) := by decide +kernel
theorem dX6_poor_5 : decode cX6_poor 5 = .ok (.aload_n 0, 1) := by decide +kernel
theorem dX6_poor_6 : decode cX6_poor 6 = .ok (.getfield 68, 3) := by decide +kernel
theorem dX6_poor_9 : decode cX6_poor 9 = .ok (.if_icmp .ge 98, 3) := by decide +kernel
theorem dX6_poor_12 : decode cX6_poor 12 = .ok (.aload_n 0, 1) := by decide +kernel
theorem dX6_poor_13 : decode cX6_poor 13 = .ok (.aload_n 0, 1) := by decide +kernel
theorem dX6_poor_14 : decode cX6_poor 14 = .ok (.getfield 28, 3) := by decide +kernel
theorem dX6_poor_17 : decode cX6_poor 17 = .ok (.iload_n 2, 1) := by decide +kernel
theorem dX6_poor_18 : decode cX6_poor 18 = .ok (.iaload, 1) := by decide +kernel
theorem dX6_poor_19 : decode cX6_poor 19 = .ok (.aload_n 0, 1) := by decide +kernel
theorem dX6_poor_20 : decode cX6_poor 20 = .ok (.getfield 76, 3) := by decide +kernel
theorem dX6_poor_23 : decode cX6_poor 23 = .ok (.invokevirtual 79, 3) := by decide +kernel
theorem dX6_poor_26 : decode cX6_poor 26 = .ok (.istore_n 3, 1) := by decide +kernel
theorem dX6_poor_27 : decode cX6_poor 27 = .ok (.iconst 0, 1) := by decide +kernel
theorem dX6_poor_28 : decode cX6_poor 28 = .ok (.istore 4, 2) := by decide +kernel
theorem dX6_poor_30 : decode cX6_poor 30 = .ok (.iload 4, 2) := by decide +kernel
theorem dX6_poor_32 : decode cX6_poor 32 = .ok (.aload_n 0, 1) := by decide +kernel
theorem dX6_poor_33 : decode cX6_poor 33 = .ok (.getfield 68, 3) := by decide +kernel
theorem dX6_poor_36 : decode cX6_poor 36 = .ok (.if_icmp .ge 39, 3) := by decide +kernel
theorem dX6_poor_39 : decode cX6_poor 39 = .ok (.iload_n 3, 1) := by decide +kernel
theorem dX6_poor_40 : decode cX6_poor 40 = .ok (.aload_n 0, 1) := by decide +kernel
theorem dX6_poor_41 : decode cX6_poor 41 = .ok (.getfield 28, 3) := by decide +kernel
theorem dX6_poor_44 : decode cX6_poor 44 = .ok (.iload 4, 2) := by decide +kernel
theorem dX6_poor_46 : decode cX6_poor 46 = .ok (.iaload, 1) := by decide +kernel
theorem dX6_poor_47 : decode cX6_poor 47 = .ok (.aload_n 0, 1) := by decide +kernel
theorem dX6_poor_48 : decode cX6_poor 48 = .ok (.getfield 28, 3) := by decide +kernel
theorem dX6_poor_51 : decode cX6_poor 51 = .ok (.iload_n 2, 1) := by decide +kernel
theorem dX6_poor_52 : decode cX6_poor 52 = .ok (.iaload, 1) := by decide +kernel
theorem dX6_poor_53 : decode cX6_poor 53 = .ok (.if_icmp .ne 13, 3) := by decide +kernel
theorem dX6_poor_56 : decode cX6_poor 56 = .ok (.aload_n 0, 1) := by decide +kernel
theorem dX6_poor_57 : decode cX6_poor 57 = .ok (.getfield 31, 3) := by decide +kernel
theorem dX6_poor_60 : decode cX6_poor 60 = .ok (.iload 4, 2) := by decide +kernel
theorem dX6_poor_62 : decode cX6_poor 62 = .ok (.iaload, 1) := by decide +kernel
theorem dX6_poor_63 : decode cX6_poor 63 = .ok (.goto 4, 3) := by decide +kernel
theorem dX6_poor_66 : decode cX6_poor 66 = .ok (.iconst 0, 1) := by decide +kernel
theorem dX6_poor_67 : decode cX6_poor 67 = .ok (.iadd, 1) := by decide +kernel
theorem dX6_poor_68 : decode cX6_poor 68 = .ok (.istore_n 3, 1) := by decide +kernel
theorem dX6_poor_69 : decode cX6_poor 69 = .ok (.iinc 4 1, 3) := by decide +kernel
theorem dX6_poor_72 : decode cX6_poor 72 = .ok (.goto (-42), 3) := by decide +kernel
theorem dX6_poor_75 : decode cX6_poor 75 = .ok (.iload_n 1, 1) := by decide +kernel
theorem dX6_poor_76 : decode cX6_poor 76 = .ok (.ifCond .ne 19, 3) := by decide +kernel
theorem dX6_poor_79 : decode cX6_poor 79 = .ok (.iload_n 3, 1) := by decide +kernel
theorem dX6_poor_80 : decode cX6_poor 80 = .ok (.aload_n 0, 1) := by decide +kernel
theorem dX6_poor_81 : decode cX6_poor 81 = .ok (.getfield 34, 3) := by decide +kernel
theorem dX6_poor_84 : decode cX6_poor 84 = .ok (.aload_n 0, 1) := by decide +kernel
theorem dX6_poor_85 : decode cX6_poor 85 = .ok (.getfield 28, 3) := by decide +kernel
theorem dX6_poor_88 : decode cX6_poor 88 = .ok (.iload_n 2, 1) := by decide +kernel
theorem dX6_poor_89 : decode cX6_poor 89 = .ok (.iaload, 1) := by decide +kernel
theorem dX6_poor_90 : decode cX6_poor 90 = .ok (.iaload, 1) := by decide +kernel
theorem dX6_poor_91 : decode cX6_poor 91 = .ok (.ineg, 1) := by decide +kernel
theorem dX6_poor_92 : decode cX6_poor 92 = .ok (.if_icmp .ge 7, 3) := by decide +kernel
theorem dX6_poor_95 : decode cX6_poor 95 = .ok (.iconst 1, 1) := by decide +kernel
theorem dX6_poor_96 : decode cX6_poor 96 = .ok (.goto 4, 3) := by decide +kernel
theorem dX6_poor_99 : decode cX6_poor 99 = .ok (.iconst 0, 1) := by decide +kernel
theorem dX6_poor_100 : decode cX6_poor 100 = .ok (.istore_n 1, 1) := by decide +kernel
theorem dX6_poor_101 : decode cX6_poor 101 = .ok (.iinc 2 1, 3) := by decide +kernel
theorem dX6_poor_104 : decode cX6_poor 104 = .ok (.goto (-100), 3) := by decide +kernel
theorem dX6_poor_107 : decode cX6_poor 107 = .ok (.iload_n 1, 1) := by decide +kernel
theorem dX6_poor_108 : decode cX6_poor 108 = .ok (.ireturn, 1) := by decide +kernel
theorem dX6_find_0 : decode cX6_find 0 = .ok (.iconst 0, 1) := by decide +kernel
theorem dX6_find_1 : decode cX6_find 1 = .ok (.istore_n 2, 1) := by decide +kernel
theorem dX6_find_2 : decode cX6_find 2 = .ok (.iload_n 2, 1) := by decide +kernel
theorem dX6_find_3 : decode cX6_find 3 = .ok (.aload_n 0, 1) := by decide +kernel
theorem dX6_find_4 : decode cX6_find 4 = .ok (.getfield 76, 3) := by decide +kernel
theorem dX6_find_7 : decode cX6_find 7 = .ok (.if_icmp .ge 21, 3) := by decide +kernel
theorem dX6_find_10 : decode cX6_find 10 = .ok (.aload_n 0, 1) := by decide +kernel
theorem dX6_find_11 : decode cX6_find 11 = .ok (.getfield 7, 3) := by decide +kernel
theorem dX6_find_14 : decode cX6_find 14 = .ok (.iload_n 2, 1) := by decide +kernel
theorem dX6_find_15 : decode cX6_find 15 = .ok (.iaload, 1) := by decide +kernel
theorem dX6_find_16 : decode cX6_find 16 = .ok (.iload_n 1, 1) := by decide +kernel
theorem dX6_find_17 : decode cX6_find 17 = .ok (.if_icmp .ne 5, 3) := by decide +kernel
theorem dX6_find_20 : decode cX6_find 20 = .ok (.iload_n 2, 1) := by decide +kernel
theorem dX6_find_21 : decode cX6_find 21 = .ok (.ireturn, 1) := by decide +kernel
theorem dX6_find_22 : decode cX6_find 22 = .ok (.iinc 2 1, 3) := by decide +kernel
theorem dX6_find_25 : decode cX6_find 25 = .ok (.goto (-23), 3) := by decide +kernel
theorem dX6_find_28 : decode cX6_find 28 = .ok (.iconst (-1), 1) := by decide +kernel
theorem dX6_find_29 : decode cX6_find 29 = .ok (.ireturn, 1) := by decide +kernel
theorem dX6_commit_0 : decode cX6_commit 0 = .ok (.aload_n 0, 1) := by decide +kernel
theorem dX6_commit_1 : decode cX6_commit 1 = .ok (.getfield 64, 3) := by decide +kernel
theorem dX6_commit_4 : decode cX6_commit 4 = .ok (.ifCond .eq 6, 3) := by decide +kernel
theorem dX6_commit_7 : decode cX6_commit 7 = .ok (.bipush (-2), 2) := by decide +kernel
theorem dX6_commit_9 : decode cX6_commit 9 = .ok (.ireturn, 1) := by decide +kernel
theorem dX6_commit_10 : decode cX6_commit 10 = .ok (.aload_n 0, 1) := by decide +kernel
theorem dX6_commit_11 : decode cX6_commit 11 = .ok (.iload_n 1, 1) := by decide +kernel
theorem dX6_commit_12 : decode cX6_commit 12 = .ok (.invokevirtual 82, 3) := by decide +kernel
theorem dX6_commit_15 : decode cX6_commit 15 = .ok (.istore_n 2, 1) := by decide +kernel
theorem dX6_commit_16 : decode cX6_commit 16 = .ok (.iload_n 2, 1) := by decide +kernel
theorem dX6_commit_17 : decode cX6_commit 17 = .ok (.ifCond .lt 18, 3) := by decide +kernel
theorem dX6_commit_20 : decode cX6_commit 20 = .ok (.aload_n 0, 1) := by decide +kernel
theorem dX6_commit_21 : decode cX6_commit 21 = .ok (.iload_n 2, 1) := by decide +kernel
theorem dX6_commit_22 : decode cX6_commit 22 = .ok (.invokevirtual 85, 3) := by decide +kernel
theorem dX6_commit_25 : decode cX6_commit 25 = .ok (.ifCond .eq 10, 3) := by decide +kernel
theorem dX6_commit_28 : decode cX6_commit 28 = .ok (.aload_n 0, 1) := by decide +kernel
theorem dX6_commit_29 : decode cX6_commit 29 = .ok (.iconst 0, 1) := by decide +kernel
theorem dX6_commit_30 : decode cX6_commit 30 = .ok (.putfield 68, 3) := by decide +kernel
theorem dX6_commit_33 : decode cX6_commit 33 = .ok (.iload_n 2, 1) := by decide +kernel
theorem dX6_commit_34 : decode cX6_commit 34 = .ok (.ireturn, 1) := by decide +kernel
theorem dX6_commit_35 : decode cX6_commit 35 = .ok (.aload_n 0, 1) := by decide +kernel
theorem dX6_commit_36 : decode cX6_commit 36 = .ok (.getfield 68, 3) := by decide +kernel
theorem dX6_commit_39 : decode cX6_commit 39 = .ok (.iconst 2, 1) := by decide +kernel
theorem dX6_commit_40 : decode cX6_commit 40 = .ok (.if_icmp .lt 10, 3) := by decide +kernel
theorem dX6_commit_43 : decode cX6_commit 43 = .ok (.aload_n 0, 1) := by decide +kernel
theorem dX6_commit_44 : decode cX6_commit 44 = .ok (.invokevirtual 88, 3) := by decide +kernel
theorem dX6_commit_47 : decode cX6_commit 47 = .ok (.ifCond .eq 6, 3) := by decide +kernel
theorem dX6_commit_50 : decode cX6_commit 50 = .ok (.bipush (-3), 2) := by decide +kernel
theorem dX6_commit_52 : decode cX6_commit 52 = .ok (.ireturn, 1) := by decide +kernel
theorem dX6_commit_53 : decode cX6_commit 53 = .ok (.iload_n 2, 1) := by decide +kernel
theorem dX6_commit_54 : decode cX6_commit 54 = .ok (.ifCond .lt 6, 3) := by decide +kernel
theorem dX6_commit_57 : decode cX6_commit 57 = .ok (.bipush (-4), 2) := by decide +kernel
theorem dX6_commit_59 : decode cX6_commit 59 = .ok (.ireturn, 1) := by decide +kernel
theorem dX6_commit_60 : decode cX6_commit 60 = .ok (.aload_n 0, 1) := by decide +kernel
theorem dX6_commit_61 : decode cX6_commit 61 = .ok (.invokevirtual 92, 3) := by decide +kernel
theorem dX6_commit_64 : decode cX6_commit 64 = .ok (.ifCond .eq 6, 3) := by decide +kernel
theorem dX6_commit_67 : decode cX6_commit 67 = .ok (.bipush (-5), 2) := by decide +kernel
theorem dX6_commit_69 : decode cX6_commit 69 = .ok (.ireturn, 1) := by decide +kernel
theorem dX6_commit_70 : decode cX6_commit 70 = .ok (.aload_n 0, 1) := by decide +kernel
theorem dX6_commit_71 : decode cX6_commit 71 = .ok (.getfield 25, 3) := by decide +kernel
theorem dX6_commit_74 : decode cX6_commit 74 = .ok (.aload_n 0, 1) := by decide +kernel
theorem dX6_commit_75 : decode cX6_commit 75 = .ok (.getfield 76, 3) := by decide +kernel
theorem dX6_commit_78 : decode cX6_commit 78 = .ok (.iaload, 1) := by decide +kernel
theorem dX6_commit_79 : decode cX6_commit 79 = .ok (.iconst 3, 1) := by decide +kernel
theorem dX6_commit_80 : decode cX6_commit 80 = .ok (.iadd, 1) := by decide +kernel
theorem dX6_commit_81 : decode cX6_commit 81 = .ok (.iconst 2, 1) := by decide +kernel
theorem dX6_commit_82 : decode cX6_commit 82 = .ok (.aload_n 0, 1) := by decide +kernel
theorem dX6_commit_83 : decode cX6_commit 83 = .ok (.getfield 68, 3) := by decide +kernel
theorem dX6_commit_86 : decode cX6_commit 86 = .ok (.imul, 1) := by decide +kernel
theorem dX6_commit_87 : decode cX6_commit 87 = .ok (.iadd, 1) := by decide +kernel
theorem dX6_commit_88 : decode cX6_commit 88 = .ok (.sipush 512, 3) := by decide +kernel
theorem dX6_commit_91 : decode cX6_commit 91 = .ok (.if_icmp .le 6, 3) := by decide +kernel
theorem dX6_commit_94 : decode cX6_commit 94 = .ok (.bipush (-6), 2) := by decide +kernel
theorem dX6_commit_96 : decode cX6_commit 96 = .ok (.ireturn, 1) := by decide +kernel
theorem dX6_commit_97 : decode cX6_commit 97 = .ok (.aload_n 0, 1) := by decide +kernel
theorem dX6_commit_98 : decode cX6_commit 98 = .ok (.getfield 7, 3) := by decide +kernel
theorem dX6_commit_101 : decode cX6_commit 101 = .ok (.aload_n 0, 1) := by decide +kernel
theorem dX6_commit_102 : decode cX6_commit 102 = .ok (.getfield 76, 3) := by decide +kernel
theorem dX6_commit_105 : decode cX6_commit 105 = .ok (.iload_n 1, 1) := by decide +kernel
theorem dX6_commit_106 : decode cX6_commit 106 = .ok (.iastore, 1) := by decide +kernel
theorem dX6_commit_107 : decode cX6_commit 107 = .ok (.aload_n 0, 1) := by decide +kernel
theorem dX6_commit_108 : decode cX6_commit 108 = .ok (.getfield 13, 3) := by decide +kernel
theorem dX6_commit_111 : decode cX6_commit 111 = .ok (.aload_n 0, 1) := by decide +kernel
theorem dX6_commit_112 : decode cX6_commit 112 = .ok (.getfield 76, 3) := by decide +kernel
theorem dX6_commit_115 : decode cX6_commit 115 = .ok (.aload_n 0, 1) := by decide +kernel
theorem dX6_commit_116 : decode cX6_commit 116 = .ok (.getfield 68, 3) := by decide +kernel
theorem dX6_commit_119 : decode cX6_commit 119 = .ok (.iastore, 1) := by decide +kernel
theorem dX6_commit_120 : decode cX6_commit 120 = .ok (.iconst 0, 1) := by decide +kernel
theorem dX6_commit_121 : decode cX6_commit 121 = .ok (.istore_n 3, 1) := by decide +kernel
theorem dX6_commit_122 : decode cX6_commit 122 = .ok (.iload_n 3, 1) := by decide +kernel
theorem dX6_commit_123 : decode cX6_commit 123 = .ok (.aload_n 0, 1) := by decide +kernel
theorem dX6_commit_124 : decode cX6_commit 124 = .ok (.getfield 68, 3) := by decide +kernel
theorem dX6_commit_127 : decode cX6_commit 127 = .ok (.if_icmp .ge 47, 3) := by decide +kernel
theorem dX6_commit_130 : decode cX6_commit 130 = .ok (.aload_n 0, 1) := by decide +kernel
theorem dX6_commit_131 : decode cX6_commit 131 = .ok (.getfield 16, 3) := by decide +kernel
theorem dX6_commit_134 : decode cX6_commit 134 = .ok (.iconst 4, 1) := by decide +kernel
theorem dX6_commit_135 : decode cX6_commit 135 = .ok (.aload_n 0, 1) := by decide +kernel
theorem dX6_commit_136 : decode cX6_commit 136 = .ok (.getfield 76, 3) := by decide +kernel
theorem dX6_commit_139 : decode cX6_commit 139 = .ok (.imul, 1) := by decide +kernel
theorem dX6_commit_140 : decode cX6_commit 140 = .ok (.iload_n 3, 1) := by decide +kernel
theorem dX6_commit_141 : decode cX6_commit 141 = .ok (.iadd, 1) := by decide +kernel
theorem dX6_commit_142 : decode cX6_commit 142 = .ok (.aload_n 0, 1) := by decide +kernel
theorem dX6_commit_143 : decode cX6_commit 143 = .ok (.getfield 28, 3) := by decide +kernel
theorem dX6_commit_146 : decode cX6_commit 146 = .ok (.iload_n 3, 1) := by decide +kernel
theorem dX6_commit_147 : decode cX6_commit 147 = .ok (.iaload, 1) := by decide +kernel
theorem dX6_commit_148 : decode cX6_commit 148 = .ok (.iastore, 1) := by decide +kernel
theorem dX6_commit_149 : decode cX6_commit 149 = .ok (.aload_n 0, 1) := by decide +kernel
theorem dX6_commit_150 : decode cX6_commit 150 = .ok (.getfield 19, 3) := by decide +kernel
theorem dX6_commit_153 : decode cX6_commit 153 = .ok (.iconst 4, 1) := by decide +kernel
theorem dX6_commit_154 : decode cX6_commit 154 = .ok (.aload_n 0, 1) := by decide +kernel
theorem dX6_commit_155 : decode cX6_commit 155 = .ok (.getfield 76, 3) := by decide +kernel
theorem dX6_commit_158 : decode cX6_commit 158 = .ok (.imul, 1) := by decide +kernel
theorem dX6_commit_159 : decode cX6_commit 159 = .ok (.iload_n 3, 1) := by decide +kernel
theorem dX6_commit_160 : decode cX6_commit 160 = .ok (.iadd, 1) := by decide +kernel
theorem dX6_commit_161 : decode cX6_commit 161 = .ok (.aload_n 0, 1) := by decide +kernel
theorem dX6_commit_162 : decode cX6_commit 162 = .ok (.getfield 31, 3) := by decide +kernel
theorem dX6_commit_165 : decode cX6_commit 165 = .ok (.iload_n 3, 1) := by decide +kernel
theorem dX6_commit_166 : decode cX6_commit 166 = .ok (.iaload, 1) := by decide +kernel
theorem dX6_commit_167 : decode cX6_commit 167 = .ok (.iastore, 1) := by decide +kernel
theorem dX6_commit_168 : decode cX6_commit 168 = .ok (.iinc 3 1, 3) := by decide +kernel
theorem dX6_commit_171 : decode cX6_commit 171 = .ok (.goto (-49), 3) := by decide +kernel
theorem dX6_commit_174 : decode cX6_commit 174 = .ok (.aload_n 0, 1) := by decide +kernel
theorem dX6_commit_175 : decode cX6_commit 175 = .ok (.getfield 22, 3) := by decide +kernel
theorem dX6_commit_178 : decode cX6_commit 178 = .ok (.aload_n 0, 1) := by decide +kernel
theorem dX6_commit_179 : decode cX6_commit 179 = .ok (.getfield 76, 3) := by decide +kernel
theorem dX6_commit_182 : decode cX6_commit 182 = .ok (.aload_n 0, 1) := by decide +kernel
theorem dX6_commit_183 : decode cX6_commit 183 = .ok (.aload_n 0, 1) := by decide +kernel
theorem dX6_commit_184 : decode cX6_commit 184 = .ok (.getfield 76, 3) := by decide +kernel
theorem dX6_commit_187 : decode cX6_commit 187 = .ok (.invokevirtual 96, 3) := by decide +kernel
theorem dX6_commit_190 : decode cX6_commit 190 = .ok (.iastore, 1) := by decide +kernel
theorem dX6_commit_191 : decode cX6_commit 191 = .ok (.aload_n 0, 1) := by decide +kernel
theorem dX6_commit_192 : decode cX6_commit 192 = .ok (.getfield 25, 3) := by decide +kernel
theorem dX6_commit_195 : decode cX6_commit 195 = .ok (.aload_n 0, 1) := by decide +kernel
theorem dX6_commit_196 : decode cX6_commit 196 = .ok (.getfield 76, 3) := by decide +kernel
theorem dX6_commit_199 : decode cX6_commit 199 = .ok (.iconst 1, 1) := by decide +kernel
theorem dX6_commit_200 : decode cX6_commit 200 = .ok (.iadd, 1) := by decide +kernel
theorem dX6_commit_201 : decode cX6_commit 201 = .ok (.aload_n 0, 1) := by decide +kernel
theorem dX6_commit_202 : decode cX6_commit 202 = .ok (.getfield 25, 3) := by decide +kernel
theorem dX6_commit_205 : decode cX6_commit 205 = .ok (.aload_n 0, 1) := by decide +kernel
theorem dX6_commit_206 : decode cX6_commit 206 = .ok (.getfield 76, 3) := by decide +kernel
theorem dX6_commit_209 : decode cX6_commit 209 = .ok (.iaload, 1) := by decide +kernel
theorem dX6_commit_210 : decode cX6_commit 210 = .ok (.iconst 3, 1) := by decide +kernel
theorem dX6_commit_211 : decode cX6_commit 211 = .ok (.iadd, 1) := by decide +kernel
theorem dX6_commit_212 : decode cX6_commit 212 = .ok (.iconst 2, 1) := by decide +kernel
theorem dX6_commit_213 : decode cX6_commit 213 = .ok (.aload_n 0, 1) := by decide +kernel
theorem dX6_commit_214 : decode cX6_commit 214 = .ok (.getfield 68, 3) := by decide +kernel
theorem dX6_commit_217 : decode cX6_commit 217 = .ok (.imul, 1) := by decide +kernel
theorem dX6_commit_218 : decode cX6_commit 218 = .ok (.iadd, 1) := by decide +kernel
theorem dX6_commit_219 : decode cX6_commit 219 = .ok (.iastore, 1) := by decide +kernel
theorem dX6_commit_220 : decode cX6_commit 220 = .ok (.aload_n 0, 1) := by decide +kernel
theorem dX6_commit_221 : decode cX6_commit 221 = .ok (.dup, 1) := by decide +kernel
theorem dX6_commit_222 : decode cX6_commit 222 = .ok (.getfield 76, 3) := by decide +kernel
theorem dX6_commit_225 : decode cX6_commit 225 = .ok (.iconst 1, 1) := by decide +kernel
theorem dX6_commit_226 : decode cX6_commit 226 = .ok (.iadd, 1) := by decide +kernel
theorem dX6_commit_227 : decode cX6_commit 227 = .ok (.putfield 76, 3) := by decide +kernel
theorem dX6_commit_230 : decode cX6_commit 230 = .ok (.aload_n 0, 1) := by decide +kernel
theorem dX6_commit_231 : decode cX6_commit 231 = .ok (.iconst 0, 1) := by decide +kernel
theorem dX6_commit_232 : decode cX6_commit 232 = .ok (.putfield 68, 3) := by decide +kernel
theorem dX6_commit_235 : decode cX6_commit 235 = .ok (.aload_n 0, 1) := by decide +kernel
theorem dX6_commit_236 : decode cX6_commit 236 = .ok (.getfield 76, 3) := by decide +kernel
theorem dX6_commit_239 : decode cX6_commit 239 = .ok (.iconst 1, 1) := by decide +kernel
theorem dX6_commit_240 : decode cX6_commit 240 = .ok (.isub, 1) := by decide +kernel
theorem dX6_commit_241 : decode cX6_commit 241 = .ok (.ireturn, 1) := by decide +kernel
theorem dX6_logged_0 : decode cX6_logged 0 = .ok (.iload_n 1, 1) := by decide +kernel
theorem dX6_logged_1 : decode cX6_logged 1 = .ok (.aload_n 0, 1) := by decide +kernel
theorem dX6_logged_2 : decode cX6_logged 2 = .ok (.getfield 25, 3) := by decide +kernel
theorem dX6_logged_5 : decode cX6_logged 5 = .ok (.aload_n 0, 1) := by decide +kernel
theorem dX6_logged_6 : decode cX6_logged 6 = .ok (.getfield 76, 3) := by decide +kernel
theorem dX6_logged_9 : decode cX6_logged 9 = .ok (.iaload, 1) := by decide +kernel
theorem dX6_logged_10 : decode cX6_logged 10 = .ok (.if_icmp .lt 5, 3) := by decide +kernel
theorem dX6_logged_13 : decode cX6_logged 13 = .ok (.iconst 0, 1) := by decide +kernel
theorem dX6_logged_14 : decode cX6_logged 14 = .ok (.ireturn, 1) := by decide +kernel
theorem dX6_logged_15 : decode cX6_logged 15 = .ok (.iconst 0, 1) := by decide +kernel
theorem dX6_logged_16 : decode cX6_logged 16 = .ok (.istore_n 2, 1) := by decide +kernel
theorem dX6_logged_17 : decode cX6_logged 17 = .ok (.aload_n 0, 1) := by decide +kernel
theorem dX6_logged_18 : decode cX6_logged 18 = .ok (.getfield 25, 3) := by decide +kernel
theorem dX6_logged_21 : decode cX6_logged 21 = .ok (.iload_n 2, 1) := by decide +kernel
theorem dX6_logged_22 : decode cX6_logged 22 = .ok (.iconst 1, 1) := by decide +kernel
theorem dX6_logged_23 : decode cX6_logged 23 = .ok (.iadd, 1) := by decide +kernel
theorem dX6_logged_24 : decode cX6_logged 24 = .ok (.iaload, 1) := by decide +kernel
theorem dX6_logged_25 : decode cX6_logged 25 = .ok (.iload_n 1, 1) := by decide +kernel
theorem dX6_logged_26 : decode cX6_logged 26 = .ok (.if_icmp .gt 9, 3) := by decide +kernel
theorem dX6_logged_29 : decode cX6_logged 29 = .ok (.iinc 2 1, 3) := by decide +kernel
theorem dX6_logged_32 : decode cX6_logged 32 = .ok (.goto (-15), 3) := by decide +kernel
theorem dX6_logged_35 : decode cX6_logged 35 = .ok (.iload_n 1, 1) := by decide +kernel
theorem dX6_logged_36 : decode cX6_logged 36 = .ok (.aload_n 0, 1) := by decide +kernel
theorem dX6_logged_37 : decode cX6_logged 37 = .ok (.getfield 25, 3) := by decide +kernel
theorem dX6_logged_40 : decode cX6_logged 40 = .ok (.iload_n 2, 1) := by decide +kernel
theorem dX6_logged_41 : decode cX6_logged 41 = .ok (.iaload, 1) := by decide +kernel
theorem dX6_logged_42 : decode cX6_logged 42 = .ok (.isub, 1) := by decide +kernel
theorem dX6_logged_43 : decode cX6_logged 43 = .ok (.istore_n 3, 1) := by decide +kernel
theorem dX6_logged_44 : decode cX6_logged 44 = .ok (.iload_n 3, 1) := by decide +kernel
theorem dX6_logged_45 : decode cX6_logged 45 = .ok (.ifCond .ne 10, 3) := by decide +kernel
theorem dX6_logged_48 : decode cX6_logged 48 = .ok (.aload_n 0, 1) := by decide +kernel
theorem dX6_logged_49 : decode cX6_logged 49 = .ok (.getfield 13, 3) := by decide +kernel
theorem dX6_logged_52 : decode cX6_logged 52 = .ok (.iload_n 2, 1) := by decide +kernel
theorem dX6_logged_53 : decode cX6_logged 53 = .ok (.iaload, 1) := by decide +kernel
theorem dX6_logged_54 : decode cX6_logged 54 = .ok (.ireturn, 1) := by decide +kernel
theorem dX6_logged_55 : decode cX6_logged 55 = .ok (.iload_n 3, 1) := by decide +kernel
theorem dX6_logged_56 : decode cX6_logged 56 = .ok (.iconst 1, 1) := by decide +kernel
theorem dX6_logged_57 : decode cX6_logged 57 = .ok (.if_icmp .ne 10, 3) := by decide +kernel
theorem dX6_logged_60 : decode cX6_logged 60 = .ok (.aload_n 0, 1) := by decide +kernel
theorem dX6_logged_61 : decode cX6_logged 61 = .ok (.getfield 7, 3) := by decide +kernel
theorem dX6_logged_64 : decode cX6_logged 64 = .ok (.iload_n 2, 1) := by decide +kernel
theorem dX6_logged_65 : decode cX6_logged 65 = .ok (.iaload, 1) := by decide +kernel
theorem dX6_logged_66 : decode cX6_logged 66 = .ok (.ireturn, 1) := by decide +kernel
theorem dX6_logged_67 : decode cX6_logged 67 = .ok (.iload_n 3, 1) := by decide +kernel
theorem dX6_logged_68 : decode cX6_logged 68 = .ok (.iconst 2, 1) := by decide +kernel
theorem dX6_logged_69 : decode cX6_logged 69 = .ok (.iconst 2, 1) := by decide +kernel
theorem dX6_logged_70 : decode cX6_logged 70 = .ok (.aload_n 0, 1) := by decide +kernel
theorem dX6_logged_71 : decode cX6_logged 71 = .ok (.getfield 13, 3) := by decide +kernel
theorem dX6_logged_74 : decode cX6_logged 74 = .ok (.iload_n 2, 1) := by decide +kernel
theorem dX6_logged_75 : decode cX6_logged 75 = .ok (.iaload, 1) := by decide +kernel
theorem dX6_logged_76 : decode cX6_logged 76 = .ok (.imul, 1) := by decide +kernel
theorem dX6_logged_77 : decode cX6_logged 77 = .ok (.iadd, 1) := by decide +kernel
theorem dX6_logged_78 : decode cX6_logged 78 = .ok (.if_icmp .ne 10, 3) := by decide +kernel
theorem dX6_logged_81 : decode cX6_logged 81 = .ok (.aload_n 0, 1) := by decide +kernel
theorem dX6_logged_82 : decode cX6_logged 82 = .ok (.getfield 22, 3) := by decide +kernel
theorem dX6_logged_85 : decode cX6_logged 85 = .ok (.iload_n 2, 1) := by decide +kernel
theorem dX6_logged_86 : decode cX6_logged 86 = .ok (.iaload, 1) := by decide +kernel
theorem dX6_logged_87 : decode cX6_logged 87 = .ok (.ireturn, 1) := by decide +kernel
theorem dX6_logged_88 : decode cX6_logged 88 = .ok (.iconst 4, 1) := by decide +kernel
theorem dX6_logged_89 : decode cX6_logged 89 = .ok (.iload_n 2, 1) := by decide +kernel
theorem dX6_logged_90 : decode cX6_logged 90 = .ok (.imul, 1) := by decide +kernel
theorem dX6_logged_91 : decode cX6_logged 91 = .ok (.iload_n 3, 1) := by decide +kernel
theorem dX6_logged_92 : decode cX6_logged 92 = .ok (.iconst 2, 1) := by decide +kernel
theorem dX6_logged_93 : decode cX6_logged 93 = .ok (.isub, 1) := by decide +kernel
theorem dX6_logged_94 : decode cX6_logged 94 = .ok (.iconst 2, 1) := by decide +kernel
theorem dX6_logged_95 : decode cX6_logged 95 = .ok (.idiv, 1) := by decide +kernel
theorem dX6_logged_96 : decode cX6_logged 96 = .ok (.iadd, 1) := by decide +kernel
theorem dX6_logged_97 : decode cX6_logged 97 = .ok (.istore 4, 2) := by decide +kernel
theorem dX6_logged_99 : decode cX6_logged 99 = .ok (.iload_n 3, 1) := by decide +kernel
theorem dX6_logged_100 : decode cX6_logged 100 = .ok (.iconst 2, 1) := by decide +kernel
theorem dX6_logged_101 : decode cX6_logged 101 = .ok (.irem, 1) := by decide +kernel
theorem dX6_logged_102 : decode cX6_logged 102 = .ok (.ifCond .ne 13, 3) := by decide +kernel
theorem dX6_logged_105 : decode cX6_logged 105 = .ok (.aload_n 0, 1) := by decide +kernel
theorem dX6_logged_106 : decode cX6_logged 106 = .ok (.getfield 16, 3) := by decide +kernel
theorem dX6_logged_109 : decode cX6_logged 109 = .ok (.iload 4, 2) := by decide +kernel
theorem dX6_logged_111 : decode cX6_logged 111 = .ok (.iaload, 1) := by decide +kernel
theorem dX6_logged_112 : decode cX6_logged 112 = .ok (.goto 10, 3) := by decide +kernel
theorem dX6_logged_115 : decode cX6_logged 115 = .ok (.aload_n 0, 1) := by decide +kernel
theorem dX6_logged_116 : decode cX6_logged 116 = .ok (.getfield 19, 3) := by decide +kernel
theorem dX6_logged_119 : decode cX6_logged 119 = .ok (.iload 4, 2) := by decide +kernel
theorem dX6_logged_121 : decode cX6_logged 121 = .ok (.iaload, 1) := by decide +kernel
theorem dX6_logged_122 : decode cX6_logged 122 = .ok (.ireturn, 1) := by decide +kernel
theorem dX6_write_0 : decode cX6_write 0 = .ok (.aload_n 0, 1) := by decide +kernel
theorem dX6_write_1 : decode cX6_write 1 = .ok (.getfield 99, 3) := by decide +kernel
theorem dX6_write_4 : decode cX6_write 4 = .ok (.iconst 1, 1) := by decide +kernel
theorem dX6_write_5 : decode cX6_write 5 = .ok (.if_icmp .ne 30, 3) := by decide +kernel
theorem dX6_write_8 : decode cX6_write 8 = .ok (.aload_n 0, 1) := by decide +kernel
theorem dX6_write_9 : decode cX6_write 9 = .ok (.iconst 0, 1) := by decide +kernel
theorem dX6_write_10 : decode cX6_write 10 = .ok (.putfield 99, 3) := by decide +kernel
theorem dX6_write_13 : decode cX6_write 13 = .ok (.aload_n 0, 1) := by decide +kernel
theorem dX6_write_14 : decode cX6_write 14 = .ok (.iconst 1, 1) := by decide +kernel
theorem dX6_write_15 : decode cX6_write 15 = .ok (.putfield 64, 3) := by decide +kernel
theorem dX6_write_18 : decode cX6_write 18 = .ok (.aload_n 0, 1) := by decide +kernel
theorem dX6_write_19 : decode cX6_write 19 = .ok (.iconst 0, 1) := by decide +kernel
theorem dX6_write_20 : decode cX6_write 20 = .ok (.putfield 68, 3) := by decide +kernel
theorem dX6_write_23 : decode cX6_write 23 = .ok (.aload_n 0, 1) := by decide +kernel
theorem dX6_write_24 : decode cX6_write 24 = .ok (.iconst 0, 1) := by decide +kernel
theorem dX6_write_25 : decode cX6_write 25 = .ok (.putfield 76, 3) := by decide +kernel
theorem dX6_write_28 : decode cX6_write 28 = .ok (.aload_n 0, 1) := by decide +kernel
theorem dX6_write_29 : decode cX6_write 29 = .ok (.iconst 0, 1) := by decide +kernel
theorem dX6_write_30 : decode cX6_write 30 = .ok (.putfield 102, 3) := by decide +kernel
theorem dX6_write_33 : decode cX6_write 33 = .ok (.iconst 0, 1) := by decide +kernel
theorem dX6_write_34 : decode cX6_write 34 = .ok (.ireturn, 1) := by decide +kernel
theorem dX6_write_35 : decode cX6_write 35 = .ok (.aload_n 0, 1) := by decide +kernel
theorem dX6_write_36 : decode cX6_write 36 = .ok (.aload_n 0, 1) := by decide +kernel
theorem dX6_write_37 : decode cX6_write 37 = .ok (.getfield 99, 3) := by decide +kernel
theorem dX6_write_40 : decode cX6_write 40 = .ok (.ifCond .le 12, 3) := by decide +kernel
theorem dX6_write_43 : decode cX6_write 43 = .ok (.aload_n 0, 1) := by decide +kernel
theorem dX6_write_44 : decode cX6_write 44 = .ok (.getfield 99, 3) := by decide +kernel
theorem dX6_write_47 : decode cX6_write 47 = .ok (.iconst 1, 1) := by decide +kernel
theorem dX6_write_48 : decode cX6_write 48 = .ok (.isub, 1) := by decide +kernel
theorem dX6_write_49 : decode cX6_write 49 = .ok (.goto 4, 3) := by decide +kernel
theorem dX6_write_52 : decode cX6_write 52 = .ok (.iconst 0, 1) := by decide +kernel
theorem dX6_write_53 : decode cX6_write 53 = .ok (.putfield 99, 3) := by decide +kernel
theorem dX6_write_56 : decode cX6_write 56 = .ok (.bipush 8, 2) := by decide +kernel
theorem dX6_write_58 : decode cX6_write 58 = .ok (.iload_n 1, 1) := by decide +kernel
theorem dX6_write_59 : decode cX6_write 59 = .ok (.imul, 1) := by decide +kernel
theorem dX6_write_60 : decode cX6_write 60 = .ok (.istore_n 2, 1) := by decide +kernel
theorem dX6_write_61 : decode cX6_write 61 = .ok (.iload_n 2, 1) := by decide +kernel
theorem dX6_write_62 : decode cX6_write 62 = .ok (.bipush 8, 2) := by decide +kernel
theorem dX6_write_64 : decode cX6_write 64 = .ok (.iload_n 1, 1) := by decide +kernel
theorem dX6_write_65 : decode cX6_write 65 = .ok (.imul, 1) := by decide +kernel
theorem dX6_write_66 : decode cX6_write 66 = .ok (.bipush 8, 2) := by decide +kernel
theorem dX6_write_68 : decode cX6_write 68 = .ok (.iadd, 1) := by decide +kernel
theorem dX6_write_69 : decode cX6_write 69 = .ok (.if_icmp .ge 20, 3) := by decide +kernel
theorem dX6_write_72 : decode cX6_write 72 = .ok (.aload_n 0, 1) := by decide +kernel
theorem dX6_write_73 : decode cX6_write 73 = .ok (.getfield 37, 3) := by decide +kernel
theorem dX6_write_76 : decode cX6_write 76 = .ok (.iload_n 2, 1) := by decide +kernel
theorem dX6_write_77 : decode cX6_write 77 = .ok (.aload_n 0, 1) := by decide +kernel
theorem dX6_write_78 : decode cX6_write 78 = .ok (.iload_n 2, 1) := by decide +kernel
theorem dX6_write_79 : decode cX6_write 79 = .ok (.invokevirtual 105, 3) := by decide +kernel
theorem dX6_write_82 : decode cX6_write 82 = .ok (.iastore, 1) := by decide +kernel
theorem dX6_write_83 : decode cX6_write 83 = .ok (.iinc 2 1, 3) := by decide +kernel
theorem dX6_write_86 : decode cX6_write 86 = .ok (.goto (-25), 3) := by decide +kernel
theorem dX6_write_89 : decode cX6_write 89 = .ok (.aload_n 0, 1) := by decide +kernel
theorem dX6_write_90 : decode cX6_write 90 = .ok (.dup, 1) := by decide +kernel
theorem dX6_write_91 : decode cX6_write 91 = .ok (.getfield 108, 3) := by decide +kernel
theorem dX6_write_94 : decode cX6_write 94 = .ok (.iconst 1, 1) := by decide +kernel
theorem dX6_write_95 : decode cX6_write 95 = .ok (.iadd, 1) := by decide +kernel
theorem dX6_write_96 : decode cX6_write 96 = .ok (.putfield 108, 3) := by decide +kernel
theorem dX6_write_99 : decode cX6_write 99 = .ok (.iconst 1, 1) := by decide +kernel
theorem dX6_write_100 : decode cX6_write 100 = .ok (.ireturn, 1) := by decide +kernel
theorem dX6_sync_0 : decode cX6_sync 0 = .ok (.aload_n 0, 1) := by decide +kernel
theorem dX6_sync_1 : decode cX6_sync 1 = .ok (.getfield 64, 3) := by decide +kernel
theorem dX6_sync_4 : decode cX6_sync 4 = .ok (.ifCond .eq 6, 3) := by decide +kernel
theorem dX6_sync_7 : decode cX6_sync 7 = .ok (.bipush (-2), 2) := by decide +kernel
theorem dX6_sync_9 : decode cX6_sync 9 = .ok (.ireturn, 1) := by decide +kernel
theorem dX6_sync_10 : decode cX6_sync 10 = .ok (.aload_n 0, 1) := by decide +kernel
theorem dX6_sync_11 : decode cX6_sync 11 = .ok (.getfield 25, 3) := by decide +kernel
theorem dX6_sync_14 : decode cX6_sync 14 = .ok (.aload_n 0, 1) := by decide +kernel
theorem dX6_sync_15 : decode cX6_sync 15 = .ok (.getfield 76, 3) := by decide +kernel
theorem dX6_sync_18 : decode cX6_sync 18 = .ok (.iaload, 1) := by decide +kernel
theorem dX6_sync_19 : decode cX6_sync 19 = .ok (.bipush 8, 2) := by decide +kernel
theorem dX6_sync_21 : decode cX6_sync 21 = .ok (.idiv, 1) := by decide +kernel
theorem dX6_sync_22 : decode cX6_sync 22 = .ok (.bipush 63, 2) := by decide +kernel
theorem dX6_sync_24 : decode cX6_sync 24 = .ok (.if_icmp .le 8, 3) := by decide +kernel
theorem dX6_sync_27 : decode cX6_sync 27 = .ok (.bipush 63, 2) := by decide +kernel
theorem dX6_sync_29 : decode cX6_sync 29 = .ok (.goto 15, 3) := by decide +kernel
theorem dX6_sync_32 : decode cX6_sync 32 = .ok (.aload_n 0, 1) := by decide +kernel
theorem dX6_sync_33 : decode cX6_sync 33 = .ok (.getfield 25, 3) := by decide +kernel
theorem dX6_sync_36 : decode cX6_sync 36 = .ok (.aload_n 0, 1) := by decide +kernel
theorem dX6_sync_37 : decode cX6_sync 37 = .ok (.getfield 76, 3) := by decide +kernel
theorem dX6_sync_40 : decode cX6_sync 40 = .ok (.iaload, 1) := by decide +kernel
theorem dX6_sync_41 : decode cX6_sync 41 = .ok (.bipush 8, 2) := by decide +kernel
theorem dX6_sync_43 : decode cX6_sync 43 = .ok (.idiv, 1) := by decide +kernel
theorem dX6_sync_44 : decode cX6_sync 44 = .ok (.istore_n 1, 1) := by decide +kernel
theorem dX6_sync_45 : decode cX6_sync 45 = .ok (.aload_n 0, 1) := by decide +kernel
theorem dX6_sync_46 : decode cX6_sync 46 = .ok (.getfield 111, 3) := by decide +kernel
theorem dX6_sync_49 : decode cX6_sync 49 = .ok (.bipush 8, 2) := by decide +kernel
theorem dX6_sync_51 : decode cX6_sync 51 = .ok (.idiv, 1) := by decide +kernel
theorem dX6_sync_52 : decode cX6_sync 52 = .ok (.bipush 63, 2) := by decide +kernel
theorem dX6_sync_54 : decode cX6_sync 54 = .ok (.if_icmp .le 8, 3) := by decide +kernel
theorem dX6_sync_57 : decode cX6_sync 57 = .ok (.bipush 63, 2) := by decide +kernel
theorem dX6_sync_59 : decode cX6_sync 59 = .ok (.goto 10, 3) := by decide +kernel
theorem dX6_sync_62 : decode cX6_sync 62 = .ok (.aload_n 0, 1) := by decide +kernel
theorem dX6_sync_63 : decode cX6_sync 63 = .ok (.getfield 111, 3) := by decide +kernel
theorem dX6_sync_66 : decode cX6_sync 66 = .ok (.bipush 8, 2) := by decide +kernel
theorem dX6_sync_68 : decode cX6_sync 68 = .ok (.idiv, 1) := by decide +kernel
theorem dX6_sync_69 : decode cX6_sync 69 = .ok (.istore_n 2, 1) := by decide +kernel
theorem dX6_sync_70 : decode cX6_sync 70 = .ok (.iload_n 2, 1) := by decide +kernel
theorem dX6_sync_71 : decode cX6_sync 71 = .ok (.istore_n 3, 1) := by decide +kernel
theorem dX6_sync_72 : decode cX6_sync 72 = .ok (.iload_n 3, 1) := by decide +kernel
theorem dX6_sync_73 : decode cX6_sync 73 = .ok (.iload_n 1, 1) := by decide +kernel
theorem dX6_sync_74 : decode cX6_sync 74 = .ok (.if_icmp .gt 20, 3) := by decide +kernel
theorem dX6_sync_77 : decode cX6_sync 77 = .ok (.aload_n 0, 1) := by decide +kernel
theorem dX6_sync_78 : decode cX6_sync 78 = .ok (.iload_n 3, 1) := by decide +kernel
theorem dX6_sync_79 : decode cX6_sync 79 = .ok (.invokevirtual 114, 3) := by decide +kernel
theorem dX6_sync_82 : decode cX6_sync 82 = .ok (.ifCond .ne 6, 3) := by decide +kernel
theorem dX6_sync_85 : decode cX6_sync 85 = .ok (.bipush (-2), 2) := by decide +kernel
theorem dX6_sync_87 : decode cX6_sync 87 = .ok (.ireturn, 1) := by decide +kernel
theorem dX6_sync_88 : decode cX6_sync 88 = .ok (.iinc 3 1, 3) := by decide +kernel
theorem dX6_sync_91 : decode cX6_sync 91 = .ok (.goto (-19), 3) := by decide +kernel
theorem dX6_sync_94 : decode cX6_sync 94 = .ok (.aload_n 0, 1) := by decide +kernel
theorem dX6_sync_95 : decode cX6_sync 95 = .ok (.aload_n 0, 1) := by decide +kernel
theorem dX6_sync_96 : decode cX6_sync 96 = .ok (.getfield 76, 3) := by decide +kernel
theorem dX6_sync_99 : decode cX6_sync 99 = .ok (.putfield 102, 3) := by decide +kernel
theorem dX6_sync_102 : decode cX6_sync 102 = .ok (.aload_n 0, 1) := by decide +kernel
theorem dX6_sync_103 : decode cX6_sync 103 = .ok (.aload_n 0, 1) := by decide +kernel
theorem dX6_sync_104 : decode cX6_sync 104 = .ok (.getfield 25, 3) := by decide +kernel
theorem dX6_sync_107 : decode cX6_sync 107 = .ok (.aload_n 0, 1) := by decide +kernel
theorem dX6_sync_108 : decode cX6_sync 108 = .ok (.getfield 76, 3) := by decide +kernel
theorem dX6_sync_111 : decode cX6_sync 111 = .ok (.iaload, 1) := by decide +kernel
theorem dX6_sync_112 : decode cX6_sync 112 = .ok (.putfield 111, 3) := by decide +kernel
theorem dX6_sync_115 : decode cX6_sync 115 = .ok (.iload_n 1, 1) := by decide +kernel
theorem dX6_sync_116 : decode cX6_sync 116 = .ok (.iload_n 2, 1) := by decide +kernel
theorem dX6_sync_117 : decode cX6_sync 117 = .ok (.isub, 1) := by decide +kernel
theorem dX6_sync_118 : decode cX6_sync 118 = .ok (.iconst 1, 1) := by decide +kernel
theorem dX6_sync_119 : decode cX6_sync 119 = .ok (.iadd, 1) := by decide +kernel
theorem dX6_sync_120 : decode cX6_sync 120 = .ok (.ireturn, 1) := by decide +kernel
theorem dX6_fail_0 : decode cX6_fail 0 = .ok (.iload_n 1, 1) := by decide +kernel
theorem dX6_fail_1 : decode cX6_fail 1 = .ok (.ifCond .lt 9, 3) := by decide +kernel
theorem dX6_fail_4 : decode cX6_fail 4 = .ok (.iload_n 1, 1) := by decide +kernel
theorem dX6_fail_5 : decode cX6_fail 5 = .ok (.bipush 40, 2) := by decide +kernel
theorem dX6_fail_7 : decode cX6_fail 7 = .ok (.if_icmp .le 5, 3) := by decide +kernel
theorem dX6_fail_10 : decode cX6_fail 10 = .ok (.iconst 0, 1) := by decide +kernel
theorem dX6_fail_11 : decode cX6_fail 11 = .ok (.ireturn, 1) := by decide +kernel
theorem dX6_fail_12 : decode cX6_fail 12 = .ok (.aload_n 0, 1) := by decide +kernel
theorem dX6_fail_13 : decode cX6_fail 13 = .ok (.iload_n 1, 1) := by decide +kernel
theorem dX6_fail_14 : decode cX6_fail 14 = .ok (.putfield 99, 3) := by decide +kernel
theorem dX6_fail_17 : decode cX6_fail 17 = .ok (.iconst 1, 1) := by decide +kernel
theorem dX6_fail_18 : decode cX6_fail 18 = .ok (.ireturn, 1) := by decide +kernel
theorem dX6_sound_0 : decode cX6_sound 0 = .ok (.iload_n 1, 1) := by decide +kernel
theorem dX6_sound_1 : decode cX6_sound 1 = .ok (.sipush 512, 3) := by decide +kernel
theorem dX6_sound_4 : decode cX6_sound 4 = .ok (.if_icmp .ge 12, 3) := by decide +kernel
theorem dX6_sound_7 : decode cX6_sound 7 = .ok (.aload_n 0, 1) := by decide +kernel
theorem dX6_sound_8 : decode cX6_sound 8 = .ok (.getfield 37, 3) := by decide +kernel
theorem dX6_sound_11 : decode cX6_sound 11 = .ok (.iload_n 1, 1) := by decide +kernel
theorem dX6_sound_12 : decode cX6_sound 12 = .ok (.iaload, 1) := by decide +kernel
theorem dX6_sound_13 : decode cX6_sound 13 = .ok (.goto 4, 3) := by decide +kernel
theorem dX6_sound_16 : decode cX6_sound 16 = .ok (.iconst 0, 1) := by decide +kernel
theorem dX6_sound_17 : decode cX6_sound 17 = .ok (.istore_n 2, 1) := by decide +kernel
theorem dX6_sound_18 : decode cX6_sound 18 = .ok (.iload_n 2, 1) := by decide +kernel
theorem dX6_sound_19 : decode cX6_sound 19 = .ok (.iconst 2, 1) := by decide +kernel
theorem dX6_sound_20 : decode cX6_sound 20 = .ok (.if_icmp .lt 21, 3) := by decide +kernel
theorem dX6_sound_23 : decode cX6_sound 23 = .ok (.iload_n 2, 1) := by decide +kernel
theorem dX6_sound_24 : decode cX6_sound 24 = .ok (.iconst 4, 1) := by decide +kernel
theorem dX6_sound_25 : decode cX6_sound 25 = .ok (.if_icmp .gt 16, 3) := by decide +kernel
theorem dX6_sound_28 : decode cX6_sound 28 = .ok (.iload_n 1, 1) := by decide +kernel
theorem dX6_sound_29 : decode cX6_sound 29 = .ok (.iconst 3, 1) := by decide +kernel
theorem dX6_sound_30 : decode cX6_sound 30 = .ok (.iadd, 1) := by decide +kernel
theorem dX6_sound_31 : decode cX6_sound 31 = .ok (.iconst 2, 1) := by decide +kernel
theorem dX6_sound_32 : decode cX6_sound 32 = .ok (.iload_n 2, 1) := by decide +kernel
theorem dX6_sound_33 : decode cX6_sound 33 = .ok (.imul, 1) := by decide +kernel
theorem dX6_sound_34 : decode cX6_sound 34 = .ok (.iadd, 1) := by decide +kernel
theorem dX6_sound_35 : decode cX6_sound 35 = .ok (.sipush 512, 3) := by decide +kernel
theorem dX6_sound_38 : decode cX6_sound 38 = .ok (.if_icmp .le 5, 3) := by decide +kernel
theorem dX6_sound_41 : decode cX6_sound 41 = .ok (.iconst 0, 1) := by decide +kernel
theorem dX6_sound_42 : decode cX6_sound 42 = .ok (.ireturn, 1) := by decide +kernel
theorem dX6_sound_43 : decode cX6_sound 43 = .ok (.iconst 0, 1) := by decide +kernel
theorem dX6_sound_44 : decode cX6_sound 44 = .ok (.istore_n 3, 1) := by decide +kernel
theorem dX6_sound_45 : decode cX6_sound 45 = .ok (.iconst 1, 1) := by decide +kernel
theorem dX6_sound_46 : decode cX6_sound 46 = .ok (.istore 4, 2) := by decide +kernel
theorem dX6_sound_48 : decode cX6_sound 48 = .ok (.iconst 0, 1) := by decide +kernel
theorem dX6_sound_49 : decode cX6_sound 49 = .ok (.istore 5, 2) := by decide +kernel
theorem dX6_sound_51 : decode cX6_sound 51 = .ok (.iload 5, 2) := by decide +kernel
theorem dX6_sound_53 : decode cX6_sound 53 = .ok (.iload_n 2, 1) := by decide +kernel
theorem dX6_sound_54 : decode cX6_sound 54 = .ok (.if_icmp .ge 112, 3) := by decide +kernel
theorem dX6_sound_57 : decode cX6_sound 57 = .ok (.aload_n 0, 1) := by decide +kernel
theorem dX6_sound_58 : decode cX6_sound 58 = .ok (.getfield 37, 3) := by decide +kernel
theorem dX6_sound_61 : decode cX6_sound 61 = .ok (.iload_n 1, 1) := by decide +kernel
theorem dX6_sound_62 : decode cX6_sound 62 = .ok (.iconst 2, 1) := by decide +kernel
theorem dX6_sound_63 : decode cX6_sound 63 = .ok (.iadd, 1) := by decide +kernel
theorem dX6_sound_64 : decode cX6_sound 64 = .ok (.iconst 2, 1) := by decide +kernel
theorem dX6_sound_65 : decode cX6_sound 65 = .ok (.iload 5, 2) := by decide +kernel
theorem dX6_sound_67 : decode cX6_sound 67 = .ok (.imul, 1) := by decide +kernel
theorem dX6_sound_68 : decode cX6_sound 68 = .ok (.iadd, 1) := by decide +kernel
theorem dX6_sound_69 : decode cX6_sound 69 = .ok (.iaload, 1) := by decide +kernel
theorem dX6_sound_70 : decode cX6_sound 70 = .ok (.istore 6, 2) := by decide +kernel
theorem dX6_sound_72 : decode cX6_sound 72 = .ok (.aload_n 0, 1) := by decide +kernel
theorem dX6_sound_73 : decode cX6_sound 73 = .ok (.getfield 37, 3) := by decide +kernel
theorem dX6_sound_76 : decode cX6_sound 76 = .ok (.iload_n 1, 1) := by decide +kernel
theorem dX6_sound_77 : decode cX6_sound 77 = .ok (.iconst 3, 1) := by decide +kernel
theorem dX6_sound_78 : decode cX6_sound 78 = .ok (.iadd, 1) := by decide +kernel
theorem dX6_sound_79 : decode cX6_sound 79 = .ok (.iconst 2, 1) := by decide +kernel
theorem dX6_sound_80 : decode cX6_sound 80 = .ok (.iload 5, 2) := by decide +kernel
theorem dX6_sound_82 : decode cX6_sound 82 = .ok (.imul, 1) := by decide +kernel
theorem dX6_sound_83 : decode cX6_sound 83 = .ok (.iadd, 1) := by decide +kernel
theorem dX6_sound_84 : decode cX6_sound 84 = .ok (.iaload, 1) := by decide +kernel
theorem dX6_sound_85 : decode cX6_sound 85 = .ok (.istore 7, 2) := by decide +kernel
theorem dX6_sound_87 : decode cX6_sound 87 = .ok (.iload 4, 2) := by decide +kernel
theorem dX6_sound_89 : decode cX6_sound 89 = .ok (.ifCond .eq 31, 3) := by decide +kernel
theorem dX6_sound_92 : decode cX6_sound 92 = .ok (.iload 6, 2) := by decide +kernel
theorem dX6_sound_94 : decode cX6_sound 94 = .ok (.invokestatic 59, 3) := by decide +kernel
theorem dX6_sound_97 : decode cX6_sound 97 = .ok (.ifCond .eq 23, 3) := by decide +kernel
theorem dX6_sound_100 : decode cX6_sound 100 = .ok (.iload 7, 2) := by decide +kernel
theorem dX6_sound_102 : decode cX6_sound 102 = .ok (.sipush (-9999), 3) := by decide +kernel
theorem dX6_sound_105 : decode cX6_sound 105 = .ok (.if_icmp .lt 15, 3) := by decide +kernel
theorem dX6_sound_108 : decode cX6_sound 108 = .ok (.iload 7, 2) := by decide +kernel
theorem dX6_sound_110 : decode cX6_sound 110 = .ok (.sipush 9999, 3) := by decide +kernel
theorem dX6_sound_113 : decode cX6_sound 113 = .ok (.if_icmp .gt 7, 3) := by decide +kernel
theorem dX6_sound_116 : decode cX6_sound 116 = .ok (.iconst 1, 1) := by decide +kernel
theorem dX6_sound_117 : decode cX6_sound 117 = .ok (.goto 4, 3) := by decide +kernel
theorem dX6_sound_120 : decode cX6_sound 120 = .ok (.iconst 0, 1) := by decide +kernel
theorem dX6_sound_121 : decode cX6_sound 121 = .ok (.istore 4, 2) := by decide +kernel
theorem dX6_sound_123 : decode cX6_sound 123 = .ok (.iload_n 3, 1) := by decide +kernel
theorem dX6_sound_124 : decode cX6_sound 124 = .ok (.iload 7, 2) := by decide +kernel
theorem dX6_sound_126 : decode cX6_sound 126 = .ok (.iadd, 1) := by decide +kernel
theorem dX6_sound_127 : decode cX6_sound 127 = .ok (.istore_n 3, 1) := by decide +kernel
theorem dX6_sound_128 : decode cX6_sound 128 = .ok (.aload_n 0, 1) := by decide +kernel
theorem dX6_sound_129 : decode cX6_sound 129 = .ok (.getfield 16, 3) := by decide +kernel
theorem dX6_sound_132 : decode cX6_sound 132 = .ok (.iconst 4, 1) := by decide +kernel
theorem dX6_sound_133 : decode cX6_sound 133 = .ok (.aload_n 0, 1) := by decide +kernel
theorem dX6_sound_134 : decode cX6_sound 134 = .ok (.getfield 76, 3) := by decide +kernel
theorem dX6_sound_137 : decode cX6_sound 137 = .ok (.imul, 1) := by decide +kernel
theorem dX6_sound_138 : decode cX6_sound 138 = .ok (.iload 5, 2) := by decide +kernel
theorem dX6_sound_140 : decode cX6_sound 140 = .ok (.iadd, 1) := by decide +kernel
theorem dX6_sound_141 : decode cX6_sound 141 = .ok (.iload 6, 2) := by decide +kernel
theorem dX6_sound_143 : decode cX6_sound 143 = .ok (.iastore, 1) := by decide +kernel
theorem dX6_sound_144 : decode cX6_sound 144 = .ok (.aload_n 0, 1) := by decide +kernel
theorem dX6_sound_145 : decode cX6_sound 145 = .ok (.getfield 19, 3) := by decide +kernel
theorem dX6_sound_148 : decode cX6_sound 148 = .ok (.iconst 4, 1) := by decide +kernel
theorem dX6_sound_149 : decode cX6_sound 149 = .ok (.aload_n 0, 1) := by decide +kernel
theorem dX6_sound_150 : decode cX6_sound 150 = .ok (.getfield 76, 3) := by decide +kernel
theorem dX6_sound_153 : decode cX6_sound 153 = .ok (.imul, 1) := by decide +kernel
theorem dX6_sound_154 : decode cX6_sound 154 = .ok (.iload 5, 2) := by decide +kernel
theorem dX6_sound_156 : decode cX6_sound 156 = .ok (.iadd, 1) := by decide +kernel
theorem dX6_sound_157 : decode cX6_sound 157 = .ok (.iload 7, 2) := by decide +kernel
theorem dX6_sound_159 : decode cX6_sound 159 = .ok (.iastore, 1) := by decide +kernel
theorem dX6_sound_160 : decode cX6_sound 160 = .ok (.iinc 5 1, 3) := by decide +kernel
theorem dX6_sound_163 : decode cX6_sound 163 = .ok (.goto (-112), 3) := by decide +kernel
theorem dX6_sound_166 : decode cX6_sound 166 = .ok (.aload_n 0, 1) := by decide +kernel
theorem dX6_sound_167 : decode cX6_sound 167 = .ok (.getfield 7, 3) := by decide +kernel
theorem dX6_sound_170 : decode cX6_sound 170 = .ok (.aload_n 0, 1) := by decide +kernel
theorem dX6_sound_171 : decode cX6_sound 171 = .ok (.getfield 76, 3) := by decide +kernel
theorem dX6_sound_174 : decode cX6_sound 174 = .ok (.aload_n 0, 1) := by decide +kernel
theorem dX6_sound_175 : decode cX6_sound 175 = .ok (.getfield 37, 3) := by decide +kernel
theorem dX6_sound_178 : decode cX6_sound 178 = .ok (.iload_n 1, 1) := by decide +kernel
theorem dX6_sound_179 : decode cX6_sound 179 = .ok (.iconst 1, 1) := by decide +kernel
theorem dX6_sound_180 : decode cX6_sound 180 = .ok (.iadd, 1) := by decide +kernel
theorem dX6_sound_181 : decode cX6_sound 181 = .ok (.iaload, 1) := by decide +kernel
theorem dX6_sound_182 : decode cX6_sound 182 = .ok (.iastore, 1) := by decide +kernel
theorem dX6_sound_183 : decode cX6_sound 183 = .ok (.aload_n 0, 1) := by decide +kernel
theorem dX6_sound_184 : decode cX6_sound 184 = .ok (.getfield 13, 3) := by decide +kernel
theorem dX6_sound_187 : decode cX6_sound 187 = .ok (.aload_n 0, 1) := by decide +kernel
theorem dX6_sound_188 : decode cX6_sound 188 = .ok (.getfield 76, 3) := by decide +kernel
theorem dX6_sound_191 : decode cX6_sound 191 = .ok (.iload_n 2, 1) := by decide +kernel
theorem dX6_sound_192 : decode cX6_sound 192 = .ok (.iastore, 1) := by decide +kernel
theorem dX6_sound_193 : decode cX6_sound 193 = .ok (.aload_n 0, 1) := by decide +kernel
theorem dX6_sound_194 : decode cX6_sound 194 = .ok (.getfield 22, 3) := by decide +kernel
theorem dX6_sound_197 : decode cX6_sound 197 = .ok (.aload_n 0, 1) := by decide +kernel
theorem dX6_sound_198 : decode cX6_sound 198 = .ok (.getfield 76, 3) := by decide +kernel
theorem dX6_sound_201 : decode cX6_sound 201 = .ok (.aload_n 0, 1) := by decide +kernel
theorem dX6_sound_202 : decode cX6_sound 202 = .ok (.aload_n 0, 1) := by decide +kernel
theorem dX6_sound_203 : decode cX6_sound 203 = .ok (.getfield 76, 3) := by decide +kernel
theorem dX6_sound_206 : decode cX6_sound 206 = .ok (.invokevirtual 96, 3) := by decide +kernel
theorem dX6_sound_209 : decode cX6_sound 209 = .ok (.iastore, 1) := by decide +kernel
theorem dX6_sound_210 : decode cX6_sound 210 = .ok (.iload 4, 2) := by decide +kernel
theorem dX6_sound_212 : decode cX6_sound 212 = .ok (.ifCond .eq 35, 3) := by decide +kernel
theorem dX6_sound_215 : decode cX6_sound 215 = .ok (.iload_n 3, 1) := by decide +kernel
theorem dX6_sound_216 : decode cX6_sound 216 = .ok (.ifCond .ne 31, 3) := by decide +kernel
theorem dX6_sound_219 : decode cX6_sound 219 = .ok (.aload_n 0, 1) := by decide +kernel
theorem dX6_sound_220 : decode cX6_sound 220 = .ok (.getfield 22, 3) := by decide +kernel
theorem dX6_sound_223 : decode cX6_sound 223 = .ok (.aload_n 0, 1) := by decide +kernel
theorem dX6_sound_224 : decode cX6_sound 224 = .ok (.getfield 76, 3) := by decide +kernel
theorem dX6_sound_227 : decode cX6_sound 227 = .ok (.iaload, 1) := by decide +kernel
theorem dX6_sound_228 : decode cX6_sound 228 = .ok (.aload_n 0, 1) := by decide +kernel
theorem dX6_sound_229 : decode cX6_sound 229 = .ok (.getfield 37, 3) := by decide +kernel
theorem dX6_sound_232 : decode cX6_sound 232 = .ok (.iload_n 1, 1) := by decide +kernel
theorem dX6_sound_233 : decode cX6_sound 233 = .ok (.iconst 2, 1) := by decide +kernel
theorem dX6_sound_234 : decode cX6_sound 234 = .ok (.iadd, 1) := by decide +kernel
theorem dX6_sound_235 : decode cX6_sound 235 = .ok (.iconst 2, 1) := by decide +kernel
theorem dX6_sound_236 : decode cX6_sound 236 = .ok (.iload_n 2, 1) := by decide +kernel
theorem dX6_sound_237 : decode cX6_sound 237 = .ok (.imul, 1) := by decide +kernel
theorem dX6_sound_238 : decode cX6_sound 238 = .ok (.iadd, 1) := by decide +kernel
theorem dX6_sound_239 : decode cX6_sound 239 = .ok (.iaload, 1) := by decide +kernel
theorem dX6_sound_240 : decode cX6_sound 240 = .ok (.if_icmp .ne 7, 3) := by decide +kernel
theorem dX6_sound_243 : decode cX6_sound 243 = .ok (.iconst 1, 1) := by decide +kernel
theorem dX6_sound_244 : decode cX6_sound 244 = .ok (.goto 4, 3) := by decide +kernel
theorem dX6_sound_247 : decode cX6_sound 247 = .ok (.iconst 0, 1) := by decide +kernel
theorem dX6_sound_248 : decode cX6_sound 248 = .ok (.ireturn, 1) := by decide +kernel
theorem dX6_recover_0 : decode cX6_recover 0 = .ok (.aload_n 0, 1) := by decide +kernel
theorem dX6_recover_1 : decode cX6_recover 1 = .ok (.getfield 64, 3) := by decide +kernel
theorem dX6_recover_4 : decode cX6_recover 4 = .ok (.ifCond .ne 5, 3) := by decide +kernel
theorem dX6_recover_7 : decode cX6_recover 7 = .ok (.iconst (-1), 1) := by decide +kernel
theorem dX6_recover_8 : decode cX6_recover 8 = .ok (.ireturn, 1) := by decide +kernel
theorem dX6_recover_9 : decode cX6_recover 9 = .ok (.aload_n 0, 1) := by decide +kernel
theorem dX6_recover_10 : decode cX6_recover 10 = .ok (.iconst 0, 1) := by decide +kernel
theorem dX6_recover_11 : decode cX6_recover 11 = .ok (.putfield 64, 3) := by decide +kernel
theorem dX6_recover_14 : decode cX6_recover 14 = .ok (.aload_n 0, 1) := by decide +kernel
theorem dX6_recover_15 : decode cX6_recover 15 = .ok (.iconst 0, 1) := by decide +kernel
theorem dX6_recover_16 : decode cX6_recover 16 = .ok (.putfield 76, 3) := by decide +kernel
theorem dX6_recover_19 : decode cX6_recover 19 = .ok (.aload_n 0, 1) := by decide +kernel
theorem dX6_recover_20 : decode cX6_recover 20 = .ok (.getfield 76, 3) := by decide +kernel
theorem dX6_recover_23 : decode cX6_recover 23 = .ok (.bipush 74, 2) := by decide +kernel
theorem dX6_recover_25 : decode cX6_recover 25 = .ok (.if_icmp .ge 66, 3) := by decide +kernel
theorem dX6_recover_28 : decode cX6_recover 28 = .ok (.aload_n 0, 1) := by decide +kernel
theorem dX6_recover_29 : decode cX6_recover 29 = .ok (.aload_n 0, 1) := by decide +kernel
theorem dX6_recover_30 : decode cX6_recover 30 = .ok (.getfield 25, 3) := by decide +kernel
theorem dX6_recover_33 : decode cX6_recover 33 = .ok (.aload_n 0, 1) := by decide +kernel
theorem dX6_recover_34 : decode cX6_recover 34 = .ok (.getfield 76, 3) := by decide +kernel
theorem dX6_recover_37 : decode cX6_recover 37 = .ok (.iaload, 1) := by decide +kernel
theorem dX6_recover_38 : decode cX6_recover 38 = .ok (.invokevirtual 117, 3) := by decide +kernel
theorem dX6_recover_41 : decode cX6_recover 41 = .ok (.ifCond .eq 50, 3) := by decide +kernel
theorem dX6_recover_44 : decode cX6_recover 44 = .ok (.aload_n 0, 1) := by decide +kernel
theorem dX6_recover_45 : decode cX6_recover 45 = .ok (.getfield 25, 3) := by decide +kernel
theorem dX6_recover_48 : decode cX6_recover 48 = .ok (.aload_n 0, 1) := by decide +kernel
theorem dX6_recover_49 : decode cX6_recover 49 = .ok (.getfield 76, 3) := by decide +kernel
theorem dX6_recover_52 : decode cX6_recover 52 = .ok (.iconst 1, 1) := by decide +kernel
theorem dX6_recover_53 : decode cX6_recover 53 = .ok (.iadd, 1) := by decide +kernel
theorem dX6_recover_54 : decode cX6_recover 54 = .ok (.aload_n 0, 1) := by decide +kernel
theorem dX6_recover_55 : decode cX6_recover 55 = .ok (.getfield 25, 3) := by decide +kernel
theorem dX6_recover_58 : decode cX6_recover 58 = .ok (.aload_n 0, 1) := by decide +kernel
theorem dX6_recover_59 : decode cX6_recover 59 = .ok (.getfield 76, 3) := by decide +kernel
theorem dX6_recover_62 : decode cX6_recover 62 = .ok (.iaload, 1) := by decide +kernel
theorem dX6_recover_63 : decode cX6_recover 63 = .ok (.iconst 3, 1) := by decide +kernel
theorem dX6_recover_64 : decode cX6_recover 64 = .ok (.iadd, 1) := by decide +kernel
theorem dX6_recover_65 : decode cX6_recover 65 = .ok (.iconst 2, 1) := by decide +kernel
theorem dX6_recover_66 : decode cX6_recover 66 = .ok (.aload_n 0, 1) := by decide +kernel
theorem dX6_recover_67 : decode cX6_recover 67 = .ok (.getfield 13, 3) := by decide +kernel
theorem dX6_recover_70 : decode cX6_recover 70 = .ok (.aload_n 0, 1) := by decide +kernel
theorem dX6_recover_71 : decode cX6_recover 71 = .ok (.getfield 76, 3) := by decide +kernel
theorem dX6_recover_74 : decode cX6_recover 74 = .ok (.iaload, 1) := by decide +kernel
theorem dX6_recover_75 : decode cX6_recover 75 = .ok (.imul, 1) := by decide +kernel
theorem dX6_recover_76 : decode cX6_recover 76 = .ok (.iadd, 1) := by decide +kernel
theorem dX6_recover_77 : decode cX6_recover 77 = .ok (.iastore, 1) := by decide +kernel
theorem dX6_recover_78 : decode cX6_recover 78 = .ok (.aload_n 0, 1) := by decide +kernel
theorem dX6_recover_79 : decode cX6_recover 79 = .ok (.dup, 1) := by decide +kernel
theorem dX6_recover_80 : decode cX6_recover 80 = .ok (.getfield 76, 3) := by decide +kernel
theorem dX6_recover_83 : decode cX6_recover 83 = .ok (.iconst 1, 1) := by decide +kernel
theorem dX6_recover_84 : decode cX6_recover 84 = .ok (.iadd, 1) := by decide +kernel
theorem dX6_recover_85 : decode cX6_recover 85 = .ok (.putfield 76, 3) := by decide +kernel
theorem dX6_recover_88 : decode cX6_recover 88 = .ok (.goto (-69), 3) := by decide +kernel
theorem dX6_recover_91 : decode cX6_recover 91 = .ok (.aload_n 0, 1) := by decide +kernel
theorem dX6_recover_92 : decode cX6_recover 92 = .ok (.aload_n 0, 1) := by decide +kernel
theorem dX6_recover_93 : decode cX6_recover 93 = .ok (.getfield 76, 3) := by decide +kernel
theorem dX6_recover_96 : decode cX6_recover 96 = .ok (.putfield 102, 3) := by decide +kernel
theorem dX6_recover_99 : decode cX6_recover 99 = .ok (.aload_n 0, 1) := by decide +kernel
theorem dX6_recover_100 : decode cX6_recover 100 = .ok (.aload_n 0, 1) := by decide +kernel
theorem dX6_recover_101 : decode cX6_recover 101 = .ok (.getfield 25, 3) := by decide +kernel
theorem dX6_recover_104 : decode cX6_recover 104 = .ok (.aload_n 0, 1) := by decide +kernel
theorem dX6_recover_105 : decode cX6_recover 105 = .ok (.getfield 76, 3) := by decide +kernel
theorem dX6_recover_108 : decode cX6_recover 108 = .ok (.iaload, 1) := by decide +kernel
theorem dX6_recover_109 : decode cX6_recover 109 = .ok (.putfield 111, 3) := by decide +kernel
theorem dX6_recover_112 : decode cX6_recover 112 = .ok (.aload_n 0, 1) := by decide +kernel
theorem dX6_recover_113 : decode cX6_recover 113 = .ok (.getfield 25, 3) := by decide +kernel
theorem dX6_recover_116 : decode cX6_recover 116 = .ok (.aload_n 0, 1) := by decide +kernel
theorem dX6_recover_117 : decode cX6_recover 117 = .ok (.getfield 76, 3) := by decide +kernel
theorem dX6_recover_120 : decode cX6_recover 120 = .ok (.iaload, 1) := by decide +kernel
theorem dX6_recover_121 : decode cX6_recover 121 = .ok (.sipush 512, 3) := by decide +kernel
theorem dX6_recover_124 : decode cX6_recover 124 = .ok (.if_icmp .ge 25, 3) := by decide +kernel
theorem dX6_recover_127 : decode cX6_recover 127 = .ok (.aload_n 0, 1) := by decide +kernel
theorem dX6_recover_128 : decode cX6_recover 128 = .ok (.aload_n 0, 1) := by decide +kernel
theorem dX6_recover_129 : decode cX6_recover 129 = .ok (.getfield 25, 3) := by decide +kernel
theorem dX6_recover_132 : decode cX6_recover 132 = .ok (.aload_n 0, 1) := by decide +kernel
theorem dX6_recover_133 : decode cX6_recover 133 = .ok (.getfield 76, 3) := by decide +kernel
theorem dX6_recover_136 : decode cX6_recover 136 = .ok (.iaload, 1) := by decide +kernel
theorem dX6_recover_137 : decode cX6_recover 137 = .ok (.bipush 8, 2) := by decide +kernel
theorem dX6_recover_139 : decode cX6_recover 139 = .ok (.idiv, 1) := by decide +kernel
theorem dX6_recover_140 : decode cX6_recover 140 = .ok (.invokevirtual 114, 3) := by decide +kernel
theorem dX6_recover_143 : decode cX6_recover 143 = .ok (.ifCond .ne 6, 3) := by decide +kernel
theorem dX6_recover_146 : decode cX6_recover 146 = .ok (.bipush (-2), 2) := by decide +kernel
theorem dX6_recover_148 : decode cX6_recover 148 = .ok (.ireturn, 1) := by decide +kernel
theorem dX6_recover_149 : decode cX6_recover 149 = .ok (.aload_n 0, 1) := by decide +kernel
theorem dX6_recover_150 : decode cX6_recover 150 = .ok (.getfield 76, 3) := by decide +kernel
theorem dX6_recover_153 : decode cX6_recover 153 = .ok (.ireturn, 1) := by decide +kernel
theorem dX6_on_0 : decode cX6_on 0 = .ok (.aload_n 0, 1) := by decide +kernel
theorem dX6_on_1 : decode cX6_on 1 = .ok (.getfield 64, 3) := by decide +kernel
theorem dX6_on_4 : decode cX6_on 4 = .ok (.ifCond .ne 7, 3) := by decide +kernel
theorem dX6_on_7 : decode cX6_on 7 = .ok (.iconst 1, 1) := by decide +kernel
theorem dX6_on_8 : decode cX6_on 8 = .ok (.goto 4, 3) := by decide +kernel
theorem dX6_on_11 : decode cX6_on 11 = .ok (.iconst 0, 1) := by decide +kernel
theorem dX6_on_12 : decode cX6_on 12 = .ok (.ireturn, 1) := by decide +kernel
theorem dX6_entries_0 : decode cX6_entries 0 = .ok (.aload_n 0, 1) := by decide +kernel
theorem dX6_entries_1 : decode cX6_entries 1 = .ok (.getfield 76, 3) := by decide +kernel
theorem dX6_entries_4 : decode cX6_entries 4 = .ok (.ireturn, 1) := by decide +kernel
theorem dX6_synced_0 : decode cX6_synced 0 = .ok (.aload_n 0, 1) := by decide +kernel
theorem dX6_synced_1 : decode cX6_synced 1 = .ok (.getfield 102, 3) := by decide +kernel
theorem dX6_synced_4 : decode cX6_synced 4 = .ok (.ireturn, 1) := by decide +kernel
theorem dX6_leaf_0 : decode cX6_leaf 0 = .ok (.iload_n 1, 1) := by decide +kernel
theorem dX6_leaf_1 : decode cX6_leaf 1 = .ok (.ifCond .lt 11, 3) := by decide +kernel
theorem dX6_leaf_4 : decode cX6_leaf 4 = .ok (.iload_n 1, 1) := by decide +kernel
theorem dX6_leaf_5 : decode cX6_leaf 5 = .ok (.aload_n 0, 1) := by decide +kernel
theorem dX6_leaf_6 : decode cX6_leaf 6 = .ok (.getfield 76, 3) := by decide +kernel
theorem dX6_leaf_9 : decode cX6_leaf 9 = .ok (.if_icmp .lt 7, 3) := by decide +kernel
theorem dX6_leaf_12 : decode cX6_leaf 12 = .ok (.iconst 0, 1) := by decide +kernel
theorem dX6_leaf_13 : decode cX6_leaf 13 = .ok (.goto 8, 3) := by decide +kernel
theorem dX6_leaf_16 : decode cX6_leaf 16 = .ok (.aload_n 0, 1) := by decide +kernel
theorem dX6_leaf_17 : decode cX6_leaf 17 = .ok (.iload_n 1, 1) := by decide +kernel
theorem dX6_leaf_18 : decode cX6_leaf 18 = .ok (.invokevirtual 72, 3) := by decide +kernel
theorem dX6_leaf_21 : decode cX6_leaf 21 = .ok (.ireturn, 1) := by decide +kernel
theorem dX6_hash_0 : decode cX6_hash 0 = .ok (.iload_n 2, 1) := by decide +kernel
theorem dX6_hash_1 : decode cX6_hash 1 = .ok (.ifCond .ne 9, 3) := by decide +kernel
theorem dX6_hash_4 : decode cX6_hash 4 = .ok (.iconst 2, 1) := by decide +kernel
theorem dX6_hash_5 : decode cX6_hash 5 = .ok (.iconst 0, 1) := by decide +kernel
theorem dX6_hash_6 : decode cX6_hash 6 = .ok (.invokestatic 55, 3) := by decide +kernel
theorem dX6_hash_9 : decode cX6_hash 9 = .ok (.ireturn, 1) := by decide +kernel
theorem dX6_hash_10 : decode cX6_hash 10 = .ok (.iconst 0, 1) := by decide +kernel
theorem dX6_hash_11 : decode cX6_hash 11 = .ok (.istore_n 3, 1) := by decide +kernel
theorem dX6_hash_12 : decode cX6_hash 12 = .ok (.iconst 0, 1) := by decide +kernel
theorem dX6_hash_13 : decode cX6_hash 13 = .ok (.istore 4, 2) := by decide +kernel
theorem dX6_hash_15 : decode cX6_hash 15 = .ok (.iload 4, 2) := by decide +kernel
theorem dX6_hash_17 : decode cX6_hash 17 = .ok (.iload_n 2, 1) := by decide +kernel
theorem dX6_hash_18 : decode cX6_hash 18 = .ok (.if_icmp .ge 67, 3) := by decide +kernel
theorem dX6_hash_21 : decode cX6_hash 21 = .ok (.aload_n 0, 1) := by decide +kernel
theorem dX6_hash_22 : decode cX6_hash 22 = .ok (.iload_n 1, 1) := by decide +kernel
theorem dX6_hash_23 : decode cX6_hash 23 = .ok (.iload 4, 2) := by decide +kernel
theorem dX6_hash_25 : decode cX6_hash 25 = .ok (.iadd, 1) := by decide +kernel
theorem dX6_hash_26 : decode cX6_hash 26 = .ok (.invokevirtual 72, 3) := by decide +kernel
theorem dX6_hash_29 : decode cX6_hash 29 = .ok (.istore 5, 2) := by decide +kernel
theorem dX6_hash_31 : decode cX6_hash 31 = .ok (.iload 4, 2) := by decide +kernel
theorem dX6_hash_33 : decode cX6_hash 33 = .ok (.istore 6, 2) := by decide +kernel
theorem dX6_hash_35 : decode cX6_hash 35 = .ok (.iload 6, 2) := by decide +kernel
theorem dX6_hash_37 : decode cX6_hash 37 = .ok (.iconst 2, 1) := by decide +kernel
theorem dX6_hash_38 : decode cX6_hash 38 = .ok (.irem, 1) := by decide +kernel
theorem dX6_hash_39 : decode cX6_hash 39 = .ok (.iconst 1, 1) := by decide +kernel
theorem dX6_hash_40 : decode cX6_hash 40 = .ok (.if_icmp .ne 28, 3) := by decide +kernel
theorem dX6_hash_43 : decode cX6_hash 43 = .ok (.iinc 3 (-1), 3) := by decide +kernel
theorem dX6_hash_46 : decode cX6_hash 46 = .ok (.aload_n 0, 1) := by decide +kernel
theorem dX6_hash_47 : decode cX6_hash 47 = .ok (.getfield 43, 3) := by decide +kernel
theorem dX6_hash_50 : decode cX6_hash 50 = .ok (.iload_n 3, 1) := by decide +kernel
theorem dX6_hash_51 : decode cX6_hash 51 = .ok (.iaload, 1) := by decide +kernel
theorem dX6_hash_52 : decode cX6_hash 52 = .ok (.iload 5, 2) := by decide +kernel
theorem dX6_hash_54 : decode cX6_hash 54 = .ok (.invokestatic 124, 3) := by decide +kernel
theorem dX6_hash_57 : decode cX6_hash 57 = .ok (.istore 5, 2) := by decide +kernel
theorem dX6_hash_59 : decode cX6_hash 59 = .ok (.iload 6, 2) := by decide +kernel
theorem dX6_hash_61 : decode cX6_hash 61 = .ok (.iconst 2, 1) := by decide +kernel
theorem dX6_hash_62 : decode cX6_hash 62 = .ok (.idiv, 1) := by decide +kernel
theorem dX6_hash_63 : decode cX6_hash 63 = .ok (.istore 6, 2) := by decide +kernel
theorem dX6_hash_65 : decode cX6_hash 65 = .ok (.goto (-30), 3) := by decide +kernel
theorem dX6_hash_68 : decode cX6_hash 68 = .ok (.aload_n 0, 1) := by decide +kernel
theorem dX6_hash_69 : decode cX6_hash 69 = .ok (.getfield 43, 3) := by decide +kernel
theorem dX6_hash_72 : decode cX6_hash 72 = .ok (.iload_n 3, 1) := by decide +kernel
theorem dX6_hash_73 : decode cX6_hash 73 = .ok (.iload 5, 2) := by decide +kernel
theorem dX6_hash_75 : decode cX6_hash 75 = .ok (.iastore, 1) := by decide +kernel
theorem dX6_hash_76 : decode cX6_hash 76 = .ok (.iinc 3 1, 3) := by decide +kernel
theorem dX6_hash_79 : decode cX6_hash 79 = .ok (.iinc 4 1, 3) := by decide +kernel
theorem dX6_hash_82 : decode cX6_hash 82 = .ok (.goto (-67), 3) := by decide +kernel
theorem dX6_hash_85 : decode cX6_hash 85 = .ok (.aload_n 0, 1) := by decide +kernel
theorem dX6_hash_86 : decode cX6_hash 86 = .ok (.getfield 43, 3) := by decide +kernel
theorem dX6_hash_89 : decode cX6_hash 89 = .ok (.iload_n 3, 1) := by decide +kernel
theorem dX6_hash_90 : decode cX6_hash 90 = .ok (.iconst 1, 1) := by decide +kernel
theorem dX6_hash_91 : decode cX6_hash 91 = .ok (.isub, 1) := by decide +kernel
theorem dX6_hash_92 : decode cX6_hash 92 = .ok (.iaload, 1) := by decide +kernel
theorem dX6_hash_93 : decode cX6_hash 93 = .ok (.istore 4, 2) := by decide +kernel
theorem dX6_hash_95 : decode cX6_hash 95 = .ok (.iload_n 3, 1) := by decide +kernel
theorem dX6_hash_96 : decode cX6_hash 96 = .ok (.iconst 2, 1) := by decide +kernel
theorem dX6_hash_97 : decode cX6_hash 97 = .ok (.isub, 1) := by decide +kernel
theorem dX6_hash_98 : decode cX6_hash 98 = .ok (.istore 5, 2) := by decide +kernel
theorem dX6_hash_100 : decode cX6_hash 100 = .ok (.iload 5, 2) := by decide +kernel
theorem dX6_hash_102 : decode cX6_hash 102 = .ok (.ifCond .lt 23, 3) := by decide +kernel
theorem dX6_hash_105 : decode cX6_hash 105 = .ok (.aload_n 0, 1) := by decide +kernel
theorem dX6_hash_106 : decode cX6_hash 106 = .ok (.getfield 43, 3) := by decide +kernel
theorem dX6_hash_109 : decode cX6_hash 109 = .ok (.iload 5, 2) := by decide +kernel
theorem dX6_hash_111 : decode cX6_hash 111 = .ok (.iaload, 1) := by decide +kernel
theorem dX6_hash_112 : decode cX6_hash 112 = .ok (.iload 4, 2) := by decide +kernel
theorem dX6_hash_114 : decode cX6_hash 114 = .ok (.invokestatic 124, 3) := by decide +kernel
theorem dX6_hash_117 : decode cX6_hash 117 = .ok (.istore 4, 2) := by decide +kernel
theorem dX6_hash_119 : decode cX6_hash 119 = .ok (.iinc 5 (-1), 3) := by decide +kernel
theorem dX6_hash_122 : decode cX6_hash 122 = .ok (.goto (-22), 3) := by decide +kernel
theorem dX6_hash_125 : decode cX6_hash 125 = .ok (.iload 4, 2) := by decide +kernel
theorem dX6_hash_127 : decode cX6_hash 127 = .ok (.ireturn, 1) := by decide +kernel
theorem dX6_head_0 : decode cX6_head 0 = .ok (.iload_n 1, 1) := by decide +kernel
theorem dX6_head_1 : decode cX6_head 1 = .ok (.ifCond .lt 11, 3) := by decide +kernel
theorem dX6_head_4 : decode cX6_head 4 = .ok (.iload_n 1, 1) := by decide +kernel
theorem dX6_head_5 : decode cX6_head 5 = .ok (.aload_n 0, 1) := by decide +kernel
theorem dX6_head_6 : decode cX6_head 6 = .ok (.getfield 102, 3) := by decide +kernel
theorem dX6_head_9 : decode cX6_head 9 = .ok (.if_icmp .le 7, 3) := by decide +kernel
theorem dX6_head_12 : decode cX6_head 12 = .ok (.iconst 0, 1) := by decide +kernel
theorem dX6_head_13 : decode cX6_head 13 = .ok (.goto 9, 3) := by decide +kernel
theorem dX6_head_16 : decode cX6_head 16 = .ok (.aload_n 0, 1) := by decide +kernel
theorem dX6_head_17 : decode cX6_head 17 = .ok (.iconst 0, 1) := by decide +kernel
theorem dX6_head_18 : decode cX6_head 18 = .ok (.iload_n 1, 1) := by decide +kernel
theorem dX6_head_19 : decode cX6_head 19 = .ok (.invokevirtual 127, 3) := by decide +kernel
theorem dX6_head_22 : decode cX6_head 22 = .ok (.ireturn, 1) := by decide +kernel
theorem dX6_part_0 : decode cX6_part 0 = .ok (.iconst 1, 1) := by decide +kernel
theorem dX6_part_1 : decode cX6_part 1 = .ok (.istore_n 1, 1) := by decide +kernel
theorem dX6_part_2 : decode cX6_part 2 = .ok (.iconst 2, 1) := by decide +kernel
theorem dX6_part_3 : decode cX6_part 3 = .ok (.iload_n 1, 1) := by decide +kernel
theorem dX6_part_4 : decode cX6_part 4 = .ok (.imul, 1) := by decide +kernel
theorem dX6_part_5 : decode cX6_part 5 = .ok (.iload_n 0, 1) := by decide +kernel
theorem dX6_part_6 : decode cX6_part 6 = .ok (.if_icmp .ge 10, 3) := by decide +kernel
theorem dX6_part_9 : decode cX6_part 9 = .ok (.iload_n 1, 1) := by decide +kernel
theorem dX6_part_10 : decode cX6_part 10 = .ok (.iconst 2, 1) := by decide +kernel
theorem dX6_part_11 : decode cX6_part 11 = .ok (.imul, 1) := by decide +kernel
theorem dX6_part_12 : decode cX6_part 12 = .ok (.istore_n 1, 1) := by decide +kernel
theorem dX6_part_13 : decode cX6_part 13 = .ok (.goto (-11), 3) := by decide +kernel
theorem dX6_part_16 : decode cX6_part 16 = .ok (.iload_n 1, 1) := by decide +kernel
theorem dX6_part_17 : decode cX6_part 17 = .ok (.ireturn, 1) := by decide +kernel
theorem dX6_lay_0 : decode cX6_lay 0 = .ok (.aload_n 0, 1) := by decide +kernel
theorem dX6_lay_1 : decode cX6_lay 1 = .ok (.getfield 40, 3) := by decide +kernel
theorem dX6_lay_4 : decode cX6_lay 4 = .ok (.aload_n 0, 1) := by decide +kernel
theorem dX6_lay_5 : decode cX6_lay 5 = .ok (.getfield 130, 3) := by decide +kernel
theorem dX6_lay_8 : decode cX6_lay 8 = .ok (.iload_n 1, 1) := by decide +kernel
theorem dX6_lay_9 : decode cX6_lay 9 = .ok (.iastore, 1) := by decide +kernel
theorem dX6_lay_10 : decode cX6_lay 10 = .ok (.aload_n 0, 1) := by decide +kernel
theorem dX6_lay_11 : decode cX6_lay 11 = .ok (.dup, 1) := by decide +kernel
theorem dX6_lay_12 : decode cX6_lay 12 = .ok (.getfield 130, 3) := by decide +kernel
theorem dX6_lay_15 : decode cX6_lay 15 = .ok (.iconst 1, 1) := by decide +kernel
theorem dX6_lay_16 : decode cX6_lay 16 = .ok (.iadd, 1) := by decide +kernel
theorem dX6_lay_17 : decode cX6_lay 17 = .ok (.putfield 130, 3) := by decide +kernel
theorem dX6_lay_20 : decode cX6_lay 20 = .ok (.return_, 1) := by decide +kernel
theorem dX6_prove_0 : decode cX6_prove 0 = .ok (.iload_n 2, 1) := by decide +kernel
theorem dX6_prove_1 : decode cX6_prove 1 = .ok (.ifCond .lt 20, 3) := by decide +kernel
theorem dX6_prove_4 : decode cX6_prove 4 = .ok (.iload_n 2, 1) := by decide +kernel
theorem dX6_prove_5 : decode cX6_prove 5 = .ok (.aload_n 0, 1) := by decide +kernel
theorem dX6_prove_6 : decode cX6_prove 6 = .ok (.getfield 102, 3) := by decide +kernel
theorem dX6_prove_9 : decode cX6_prove 9 = .ok (.if_icmp .gt 12, 3) := by decide +kernel
theorem dX6_prove_12 : decode cX6_prove 12 = .ok (.iload_n 1, 1) := by decide +kernel
theorem dX6_prove_13 : decode cX6_prove 13 = .ok (.ifCond .lt 8, 3) := by decide +kernel
theorem dX6_prove_16 : decode cX6_prove 16 = .ok (.iload_n 1, 1) := by decide +kernel
theorem dX6_prove_17 : decode cX6_prove 17 = .ok (.iload_n 2, 1) := by decide +kernel
theorem dX6_prove_18 : decode cX6_prove 18 = .ok (.if_icmp .lt 5, 3) := by decide +kernel
theorem dX6_prove_21 : decode cX6_prove 21 = .ok (.iconst (-1), 1) := by decide +kernel
theorem dX6_prove_22 : decode cX6_prove 22 = .ok (.ireturn, 1) := by decide +kernel
theorem dX6_prove_23 : decode cX6_prove 23 = .ok (.iconst 0, 1) := by decide +kernel
theorem dX6_prove_24 : decode cX6_prove 24 = .ok (.istore_n 3, 1) := by decide +kernel
theorem dX6_prove_25 : decode cX6_prove 25 = .ok (.iconst 0, 1) := by decide +kernel
theorem dX6_prove_26 : decode cX6_prove 26 = .ok (.istore 4, 2) := by decide +kernel
theorem dX6_prove_28 : decode cX6_prove 28 = .ok (.iload_n 1, 1) := by decide +kernel
theorem dX6_prove_29 : decode cX6_prove 29 = .ok (.istore 5, 2) := by decide +kernel
theorem dX6_prove_31 : decode cX6_prove 31 = .ok (.iload_n 2, 1) := by decide +kernel
theorem dX6_prove_32 : decode cX6_prove 32 = .ok (.istore 6, 2) := by decide +kernel
theorem dX6_prove_34 : decode cX6_prove 34 = .ok (.iload 6, 2) := by decide +kernel
theorem dX6_prove_36 : decode cX6_prove 36 = .ok (.iconst 1, 1) := by decide +kernel
theorem dX6_prove_37 : decode cX6_prove 37 = .ok (.if_icmp .le 117, 3) := by decide +kernel
theorem dX6_prove_40 : decode cX6_prove 40 = .ok (.iload 6, 2) := by decide +kernel
theorem dX6_prove_42 : decode cX6_prove 42 = .ok (.invokestatic 133, 3) := by decide +kernel
theorem dX6_prove_45 : decode cX6_prove 45 = .ok (.istore 7, 2) := by decide +kernel
theorem dX6_prove_47 : decode cX6_prove 47 = .ok (.iload 5, 2) := by decide +kernel
theorem dX6_prove_49 : decode cX6_prove 49 = .ok (.iload 7, 2) := by decide +kernel
theorem dX6_prove_51 : decode cX6_prove 51 = .ok (.if_icmp .ge 7, 3) := by decide +kernel
theorem dX6_prove_54 : decode cX6_prove 54 = .ok (.iconst 1, 1) := by decide +kernel
theorem dX6_prove_55 : decode cX6_prove 55 = .ok (.goto 4, 3) := by decide +kernel
theorem dX6_prove_58 : decode cX6_prove 58 = .ok (.iconst 0, 1) := by decide +kernel
theorem dX6_prove_59 : decode cX6_prove 59 = .ok (.istore 8, 2) := by decide +kernel
theorem dX6_prove_61 : decode cX6_prove 61 = .ok (.aload_n 0, 1) := by decide +kernel
theorem dX6_prove_62 : decode cX6_prove 62 = .ok (.getfield 50, 3) := by decide +kernel
theorem dX6_prove_65 : decode cX6_prove 65 = .ok (.iload_n 3, 1) := by decide +kernel
theorem dX6_prove_66 : decode cX6_prove 66 = .ok (.iload 8, 2) := by decide +kernel
theorem dX6_prove_68 : decode cX6_prove 68 = .ok (.ifCond .eq 20, 3) := by decide +kernel
theorem dX6_prove_71 : decode cX6_prove 71 = .ok (.aload_n 0, 1) := by decide +kernel
theorem dX6_prove_72 : decode cX6_prove 72 = .ok (.iload 4, 2) := by decide +kernel
theorem dX6_prove_74 : decode cX6_prove 74 = .ok (.iload 7, 2) := by decide +kernel
theorem dX6_prove_76 : decode cX6_prove 76 = .ok (.iadd, 1) := by decide +kernel
theorem dX6_prove_77 : decode cX6_prove 77 = .ok (.iload 6, 2) := by decide +kernel
theorem dX6_prove_79 : decode cX6_prove 79 = .ok (.iload 7, 2) := by decide +kernel
theorem dX6_prove_81 : decode cX6_prove 81 = .ok (.isub, 1) := by decide +kernel
theorem dX6_prove_82 : decode cX6_prove 82 = .ok (.invokevirtual 127, 3) := by decide +kernel
theorem dX6_prove_85 : decode cX6_prove 85 = .ok (.goto 11, 3) := by decide +kernel
theorem dX6_prove_88 : decode cX6_prove 88 = .ok (.aload_n 0, 1) := by decide +kernel
theorem dX6_prove_89 : decode cX6_prove 89 = .ok (.iload 4, 2) := by decide +kernel
theorem dX6_prove_91 : decode cX6_prove 91 = .ok (.iload 7, 2) := by decide +kernel
theorem dX6_prove_93 : decode cX6_prove 93 = .ok (.invokevirtual 127, 3) := by decide +kernel
theorem dX6_prove_96 : decode cX6_prove 96 = .ok (.iastore, 1) := by decide +kernel
theorem dX6_prove_97 : decode cX6_prove 97 = .ok (.iload 8, 2) := by decide +kernel
theorem dX6_prove_99 : decode cX6_prove 99 = .ok (.ifCond .eq 8, 3) := by decide +kernel
theorem dX6_prove_102 : decode cX6_prove 102 = .ok (.iload 4, 2) := by decide +kernel
theorem dX6_prove_104 : decode cX6_prove 104 = .ok (.goto 8, 3) := by decide +kernel
theorem dX6_prove_107 : decode cX6_prove 107 = .ok (.iload 4, 2) := by decide +kernel
theorem dX6_prove_109 : decode cX6_prove 109 = .ok (.iload 7, 2) := by decide +kernel
theorem dX6_prove_111 : decode cX6_prove 111 = .ok (.iadd, 1) := by decide +kernel
theorem dX6_prove_112 : decode cX6_prove 112 = .ok (.istore 4, 2) := by decide +kernel
theorem dX6_prove_114 : decode cX6_prove 114 = .ok (.iload 8, 2) := by decide +kernel
theorem dX6_prove_116 : decode cX6_prove 116 = .ok (.ifCond .eq 8, 3) := by decide +kernel
theorem dX6_prove_119 : decode cX6_prove 119 = .ok (.iload 5, 2) := by decide +kernel
theorem dX6_prove_121 : decode cX6_prove 121 = .ok (.goto 8, 3) := by decide +kernel
theorem dX6_prove_124 : decode cX6_prove 124 = .ok (.iload 5, 2) := by decide +kernel
theorem dX6_prove_126 : decode cX6_prove 126 = .ok (.iload 7, 2) := by decide +kernel
theorem dX6_prove_128 : decode cX6_prove 128 = .ok (.isub, 1) := by decide +kernel
theorem dX6_prove_129 : decode cX6_prove 129 = .ok (.istore 5, 2) := by decide +kernel
theorem dX6_prove_131 : decode cX6_prove 131 = .ok (.iload 8, 2) := by decide +kernel
theorem dX6_prove_133 : decode cX6_prove 133 = .ok (.ifCond .eq 8, 3) := by decide +kernel
theorem dX6_prove_136 : decode cX6_prove 136 = .ok (.iload 7, 2) := by decide +kernel
theorem dX6_prove_138 : decode cX6_prove 138 = .ok (.goto 8, 3) := by decide +kernel
theorem dX6_prove_141 : decode cX6_prove 141 = .ok (.iload 6, 2) := by decide +kernel
theorem dX6_prove_143 : decode cX6_prove 143 = .ok (.iload 7, 2) := by decide +kernel
theorem dX6_prove_145 : decode cX6_prove 145 = .ok (.isub, 1) := by decide +kernel
theorem dX6_prove_146 : decode cX6_prove 146 = .ok (.istore 6, 2) := by decide +kernel
theorem dX6_prove_148 : decode cX6_prove 148 = .ok (.iinc 3 1, 3) := by decide +kernel
theorem dX6_prove_151 : decode cX6_prove 151 = .ok (.goto (-117), 3) := by decide +kernel
theorem dX6_prove_154 : decode cX6_prove 154 = .ok (.aload_n 0, 1) := by decide +kernel
theorem dX6_prove_155 : decode cX6_prove 155 = .ok (.iconst 0, 1) := by decide +kernel
theorem dX6_prove_156 : decode cX6_prove 156 = .ok (.putfield 130, 3) := by decide +kernel
theorem dX6_prove_159 : decode cX6_prove 159 = .ok (.iload_n 3, 1) := by decide +kernel
theorem dX6_prove_160 : decode cX6_prove 160 = .ok (.iconst 1, 1) := by decide +kernel
theorem dX6_prove_161 : decode cX6_prove 161 = .ok (.isub, 1) := by decide +kernel
theorem dX6_prove_162 : decode cX6_prove 162 = .ok (.istore 6, 2) := by decide +kernel
theorem dX6_prove_164 : decode cX6_prove 164 = .ok (.iload 6, 2) := by decide +kernel
theorem dX6_prove_166 : decode cX6_prove 166 = .ok (.ifCond .lt 20, 3) := by decide +kernel
theorem dX6_prove_169 : decode cX6_prove 169 = .ok (.aload_n 0, 1) := by decide +kernel
theorem dX6_prove_170 : decode cX6_prove 170 = .ok (.aload_n 0, 1) := by decide +kernel
theorem dX6_prove_171 : decode cX6_prove 171 = .ok (.getfield 50, 3) := by decide +kernel
theorem dX6_prove_174 : decode cX6_prove 174 = .ok (.iload 6, 2) := by decide +kernel
theorem dX6_prove_176 : decode cX6_prove 176 = .ok (.iaload, 1) := by decide +kernel
theorem dX6_prove_177 : decode cX6_prove 177 = .ok (.invokevirtual 136, 3) := by decide +kernel
theorem dX6_prove_180 : decode cX6_prove 180 = .ok (.iinc 6 (-1), 3) := by decide +kernel
theorem dX6_prove_183 : decode cX6_prove 183 = .ok (.goto (-19), 3) := by decide +kernel
theorem dX6_prove_186 : decode cX6_prove 186 = .ok (.aload_n 0, 1) := by decide +kernel
theorem dX6_prove_187 : decode cX6_prove 187 = .ok (.getfield 130, 3) := by decide +kernel
theorem dX6_prove_190 : decode cX6_prove 190 = .ok (.ireturn, 1) := by decide +kernel
theorem dX6_extend_0 : decode cX6_extend 0 = .ok (.iload_n 2, 1) := by decide +kernel
theorem dX6_extend_1 : decode cX6_extend 1 = .ok (.ifCond .lt 21, 3) := by decide +kernel
theorem dX6_extend_4 : decode cX6_extend 4 = .ok (.iload_n 2, 1) := by decide +kernel
theorem dX6_extend_5 : decode cX6_extend 5 = .ok (.aload_n 0, 1) := by decide +kernel
theorem dX6_extend_6 : decode cX6_extend 6 = .ok (.getfield 102, 3) := by decide +kernel
theorem dX6_extend_9 : decode cX6_extend 9 = .ok (.if_icmp .gt 13, 3) := by decide +kernel
theorem dX6_extend_12 : decode cX6_extend 12 = .ok (.iload_n 1, 1) := by decide +kernel
theorem dX6_extend_13 : decode cX6_extend 13 = .ok (.iconst 1, 1) := by decide +kernel
theorem dX6_extend_14 : decode cX6_extend 14 = .ok (.if_icmp .lt 8, 3) := by decide +kernel
theorem dX6_extend_17 : decode cX6_extend 17 = .ok (.iload_n 1, 1) := by decide +kernel
theorem dX6_extend_18 : decode cX6_extend 18 = .ok (.iload_n 2, 1) := by decide +kernel
theorem dX6_extend_19 : decode cX6_extend 19 = .ok (.if_icmp .le 5, 3) := by decide +kernel
theorem dX6_extend_22 : decode cX6_extend 22 = .ok (.iconst (-1), 1) := by decide +kernel
theorem dX6_extend_23 : decode cX6_extend 23 = .ok (.ireturn, 1) := by decide +kernel
theorem dX6_extend_24 : decode cX6_extend 24 = .ok (.iconst 0, 1) := by decide +kernel
theorem dX6_extend_25 : decode cX6_extend 25 = .ok (.istore_n 3, 1) := by decide +kernel
theorem dX6_extend_26 : decode cX6_extend 26 = .ok (.iconst 0, 1) := by decide +kernel
theorem dX6_extend_27 : decode cX6_extend 27 = .ok (.istore 4, 2) := by decide +kernel
theorem dX6_extend_29 : decode cX6_extend 29 = .ok (.iload_n 1, 1) := by decide +kernel
theorem dX6_extend_30 : decode cX6_extend 30 = .ok (.istore 5, 2) := by decide +kernel
theorem dX6_extend_32 : decode cX6_extend 32 = .ok (.iload_n 2, 1) := by decide +kernel
theorem dX6_extend_33 : decode cX6_extend 33 = .ok (.istore 6, 2) := by decide +kernel
theorem dX6_extend_35 : decode cX6_extend 35 = .ok (.iconst 1, 1) := by decide +kernel
theorem dX6_extend_36 : decode cX6_extend 36 = .ok (.istore 7, 2) := by decide +kernel
theorem dX6_extend_38 : decode cX6_extend 38 = .ok (.iload 5, 2) := by decide +kernel
theorem dX6_extend_40 : decode cX6_extend 40 = .ok (.iload 6, 2) := by decide +kernel
theorem dX6_extend_42 : decode cX6_extend 42 = .ok (.if_icmp .eq 134, 3) := by decide +kernel
theorem dX6_extend_45 : decode cX6_extend 45 = .ok (.iload 6, 2) := by decide +kernel
theorem dX6_extend_47 : decode cX6_extend 47 = .ok (.invokestatic 133, 3) := by decide +kernel
theorem dX6_extend_50 : decode cX6_extend 50 = .ok (.istore 8, 2) := by decide +kernel
theorem dX6_extend_52 : decode cX6_extend 52 = .ok (.iload 5, 2) := by decide +kernel
theorem dX6_extend_54 : decode cX6_extend 54 = .ok (.iload 8, 2) := by decide +kernel
theorem dX6_extend_56 : decode cX6_extend 56 = .ok (.if_icmp .gt 7, 3) := by decide +kernel
theorem dX6_extend_59 : decode cX6_extend 59 = .ok (.iconst 1, 1) := by decide +kernel
theorem dX6_extend_60 : decode cX6_extend 60 = .ok (.goto 4, 3) := by decide +kernel
theorem dX6_extend_63 : decode cX6_extend 63 = .ok (.iconst 0, 1) := by decide +kernel
theorem dX6_extend_64 : decode cX6_extend 64 = .ok (.istore 9, 2) := by decide +kernel
theorem dX6_extend_66 : decode cX6_extend 66 = .ok (.aload_n 0, 1) := by decide +kernel
theorem dX6_extend_67 : decode cX6_extend 67 = .ok (.getfield 50, 3) := by decide +kernel
theorem dX6_extend_70 : decode cX6_extend 70 = .ok (.iload_n 3, 1) := by decide +kernel
theorem dX6_extend_71 : decode cX6_extend 71 = .ok (.iload 9, 2) := by decide +kernel
theorem dX6_extend_73 : decode cX6_extend 73 = .ok (.ifCond .eq 20, 3) := by decide +kernel
theorem dX6_extend_76 : decode cX6_extend 76 = .ok (.aload_n 0, 1) := by decide +kernel
theorem dX6_extend_77 : decode cX6_extend 77 = .ok (.iload 4, 2) := by decide +kernel
theorem dX6_extend_79 : decode cX6_extend 79 = .ok (.iload 8, 2) := by decide +kernel
theorem dX6_extend_81 : decode cX6_extend 81 = .ok (.iadd, 1) := by decide +kernel
theorem dX6_extend_82 : decode cX6_extend 82 = .ok (.iload 6, 2) := by decide +kernel
theorem dX6_extend_84 : decode cX6_extend 84 = .ok (.iload 8, 2) := by decide +kernel
theorem dX6_extend_86 : decode cX6_extend 86 = .ok (.isub, 1) := by decide +kernel
theorem dX6_extend_87 : decode cX6_extend 87 = .ok (.invokevirtual 127, 3) := by decide +kernel
theorem dX6_extend_90 : decode cX6_extend 90 = .ok (.goto 11, 3) := by decide +kernel
theorem dX6_extend_93 : decode cX6_extend 93 = .ok (.aload_n 0, 1) := by decide +kernel
theorem dX6_extend_94 : decode cX6_extend 94 = .ok (.iload 4, 2) := by decide +kernel
theorem dX6_extend_96 : decode cX6_extend 96 = .ok (.iload 8, 2) := by decide +kernel
theorem dX6_extend_98 : decode cX6_extend 98 = .ok (.invokevirtual 127, 3) := by decide +kernel
theorem dX6_extend_101 : decode cX6_extend 101 = .ok (.iastore, 1) := by decide +kernel
theorem dX6_extend_102 : decode cX6_extend 102 = .ok (.iload 9, 2) := by decide +kernel
theorem dX6_extend_104 : decode cX6_extend 104 = .ok (.ifCond .eq 8, 3) := by decide +kernel
theorem dX6_extend_107 : decode cX6_extend 107 = .ok (.iload 4, 2) := by decide +kernel
theorem dX6_extend_109 : decode cX6_extend 109 = .ok (.goto 8, 3) := by decide +kernel
theorem dX6_extend_112 : decode cX6_extend 112 = .ok (.iload 4, 2) := by decide +kernel
theorem dX6_extend_114 : decode cX6_extend 114 = .ok (.iload 8, 2) := by decide +kernel
theorem dX6_extend_116 : decode cX6_extend 116 = .ok (.iadd, 1) := by decide +kernel
theorem dX6_extend_117 : decode cX6_extend 117 = .ok (.istore 4, 2) := by decide +kernel
theorem dX6_extend_119 : decode cX6_extend 119 = .ok (.iload 9, 2) := by decide +kernel
theorem dX6_extend_121 : decode cX6_extend 121 = .ok (.ifCond .eq 8, 3) := by decide +kernel
theorem dX6_extend_124 : decode cX6_extend 124 = .ok (.iload 5, 2) := by decide +kernel
theorem dX6_extend_126 : decode cX6_extend 126 = .ok (.goto 8, 3) := by decide +kernel
theorem dX6_extend_129 : decode cX6_extend 129 = .ok (.iload 5, 2) := by decide +kernel
theorem dX6_extend_131 : decode cX6_extend 131 = .ok (.iload 8, 2) := by decide +kernel
theorem dX6_extend_133 : decode cX6_extend 133 = .ok (.isub, 1) := by decide +kernel
theorem dX6_extend_134 : decode cX6_extend 134 = .ok (.istore 5, 2) := by decide +kernel
theorem dX6_extend_136 : decode cX6_extend 136 = .ok (.iload 9, 2) := by decide +kernel
theorem dX6_extend_138 : decode cX6_extend 138 = .ok (.ifCond .eq 8, 3) := by decide +kernel
theorem dX6_extend_141 : decode cX6_extend 141 = .ok (.iload 8, 2) := by decide +kernel
theorem dX6_extend_143 : decode cX6_extend 143 = .ok (.goto 8, 3) := by decide +kernel
theorem dX6_extend_146 : decode cX6_extend 146 = .ok (.iload 6, 2) := by decide +kernel
theorem dX6_extend_148 : decode cX6_extend 148 = .ok (.iload 8, 2) := by decide +kernel
theorem dX6_extend_150 : decode cX6_extend 150 = .ok (.isub, 1) := by decide +kernel
theorem dX6_extend_151 : decode cX6_extend 151 = .ok (.istore 6, 2) := by decide +kernel
theorem dX6_extend_153 : decode cX6_extend 153 = .ok (.iload 7, 2) := by decide +kernel
theorem dX6_extend_155 : decode cX6_extend 155 = .ok (.ifCond .eq 12, 3) := by decide +kernel
theorem dX6_extend_158 : decode cX6_extend 158 = .ok (.iload 9, 2) := by decide +kernel
theorem dX6_extend_160 : decode cX6_extend 160 = .ok (.ifCond .eq 7, 3) := by decide +kernel
theorem dX6_extend_163 : decode cX6_extend 163 = .ok (.iconst 1, 1) := by decide +kernel
theorem dX6_extend_164 : decode cX6_extend 164 = .ok (.goto 4, 3) := by decide +kernel
theorem dX6_extend_167 : decode cX6_extend 167 = .ok (.iconst 0, 1) := by decide +kernel
theorem dX6_extend_168 : decode cX6_extend 168 = .ok (.istore 7, 2) := by decide +kernel
theorem dX6_extend_170 : decode cX6_extend 170 = .ok (.iinc 3 1, 3) := by decide +kernel
theorem dX6_extend_173 : decode cX6_extend 173 = .ok (.goto (-135), 3) := by decide +kernel
theorem dX6_extend_176 : decode cX6_extend 176 = .ok (.aload_n 0, 1) := by decide +kernel
theorem dX6_extend_177 : decode cX6_extend 177 = .ok (.iconst 0, 1) := by decide +kernel
theorem dX6_extend_178 : decode cX6_extend 178 = .ok (.putfield 130, 3) := by decide +kernel
theorem dX6_extend_181 : decode cX6_extend 181 = .ok (.iload 7, 2) := by decide +kernel
theorem dX6_extend_183 : decode cX6_extend 183 = .ok (.ifCond .ne 15, 3) := by decide +kernel
theorem dX6_extend_186 : decode cX6_extend 186 = .ok (.aload_n 0, 1) := by decide +kernel
theorem dX6_extend_187 : decode cX6_extend 187 = .ok (.aload_n 0, 1) := by decide +kernel
theorem dX6_extend_188 : decode cX6_extend 188 = .ok (.iload 4, 2) := by decide +kernel
theorem dX6_extend_190 : decode cX6_extend 190 = .ok (.iload 6, 2) := by decide +kernel
theorem dX6_extend_192 : decode cX6_extend 192 = .ok (.invokevirtual 127, 3) := by decide +kernel
theorem dX6_extend_195 : decode cX6_extend 195 = .ok (.invokevirtual 136, 3) := by decide +kernel
theorem dX6_extend_198 : decode cX6_extend 198 = .ok (.iload_n 3, 1) := by decide +kernel
theorem dX6_extend_199 : decode cX6_extend 199 = .ok (.iconst 1, 1) := by decide +kernel
theorem dX6_extend_200 : decode cX6_extend 200 = .ok (.isub, 1) := by decide +kernel
theorem dX6_extend_201 : decode cX6_extend 201 = .ok (.istore 8, 2) := by decide +kernel
theorem dX6_extend_203 : decode cX6_extend 203 = .ok (.iload 8, 2) := by decide +kernel
theorem dX6_extend_205 : decode cX6_extend 205 = .ok (.ifCond .lt 20, 3) := by decide +kernel
theorem dX6_extend_208 : decode cX6_extend 208 = .ok (.aload_n 0, 1) := by decide +kernel
theorem dX6_extend_209 : decode cX6_extend 209 = .ok (.aload_n 0, 1) := by decide +kernel
theorem dX6_extend_210 : decode cX6_extend 210 = .ok (.getfield 50, 3) := by decide +kernel
theorem dX6_extend_213 : decode cX6_extend 213 = .ok (.iload 8, 2) := by decide +kernel
theorem dX6_extend_215 : decode cX6_extend 215 = .ok (.iaload, 1) := by decide +kernel
theorem dX6_extend_216 : decode cX6_extend 216 = .ok (.invokevirtual 136, 3) := by decide +kernel
theorem dX6_extend_219 : decode cX6_extend 219 = .ok (.iinc 8 (-1), 3) := by decide +kernel
theorem dX6_extend_222 : decode cX6_extend 222 = .ok (.goto (-19), 3) := by decide +kernel
theorem dX6_extend_225 : decode cX6_extend 225 = .ok (.aload_n 0, 1) := by decide +kernel
theorem dX6_extend_226 : decode cX6_extend 226 = .ok (.getfield 130, 3) := by decide +kernel
theorem dX6_extend_229 : decode cX6_extend 229 = .ok (.ireturn, 1) := by decide +kernel
theorem dX6_put_0 : decode cX6_put 0 = .ok (.aload_n 0, 1) := by decide +kernel
theorem dX6_put_1 : decode cX6_put 1 = .ok (.getfield 130, 3) := by decide +kernel
theorem dX6_put_4 : decode cX6_put 4 = .ok (.bipush 16, 2) := by decide +kernel
theorem dX6_put_6 : decode cX6_put 6 = .ok (.if_icmp .ne 5, 3) := by decide +kernel
theorem dX6_put_9 : decode cX6_put 9 = .ok (.iconst 0, 1) := by decide +kernel
theorem dX6_put_10 : decode cX6_put 10 = .ok (.ireturn, 1) := by decide +kernel
theorem dX6_put_11 : decode cX6_put 11 = .ok (.aload_n 0, 1) := by decide +kernel
theorem dX6_put_12 : decode cX6_put 12 = .ok (.iload_n 1, 1) := by decide +kernel
theorem dX6_put_13 : decode cX6_put 13 = .ok (.invokevirtual 136, 3) := by decide +kernel
theorem dX6_put_16 : decode cX6_put 16 = .ok (.iconst 1, 1) := by decide +kernel
theorem dX6_put_17 : decode cX6_put 17 = .ok (.ireturn, 1) := by decide +kernel
theorem dX6_take_0 : decode cX6_take 0 = .ok (.aload_n 0, 1) := by decide +kernel
theorem dX6_take_1 : decode cX6_take 1 = .ok (.getfield 130, 3) := by decide +kernel
theorem dX6_take_4 : decode cX6_take 4 = .ok (.ifCond .ne 5, 3) := by decide +kernel
theorem dX6_take_7 : decode cX6_take 7 = .ok (.iconst 0, 1) := by decide +kernel
theorem dX6_take_8 : decode cX6_take 8 = .ok (.ireturn, 1) := by decide +kernel
theorem dX6_take_9 : decode cX6_take 9 = .ok (.aload_n 0, 1) := by decide +kernel
theorem dX6_take_10 : decode cX6_take 10 = .ok (.dup, 1) := by decide +kernel
theorem dX6_take_11 : decode cX6_take 11 = .ok (.getfield 130, 3) := by decide +kernel
theorem dX6_take_14 : decode cX6_take 14 = .ok (.iconst 1, 1) := by decide +kernel
theorem dX6_take_15 : decode cX6_take 15 = .ok (.isub, 1) := by decide +kernel
theorem dX6_take_16 : decode cX6_take 16 = .ok (.putfield 130, 3) := by decide +kernel
theorem dX6_take_19 : decode cX6_take 19 = .ok (.iconst 1, 1) := by decide +kernel
theorem dX6_take_20 : decode cX6_take 20 = .ok (.ireturn, 1) := by decide +kernel
theorem dX6_pad_0 : decode cX6_pad 0 = .ok (.iload_n 1, 1) := by decide +kernel
theorem dX6_pad_1 : decode cX6_pad 1 = .ok (.ifCond .lt 11, 3) := by decide +kernel
theorem dX6_pad_4 : decode cX6_pad 4 = .ok (.iload_n 1, 1) := by decide +kernel
theorem dX6_pad_5 : decode cX6_pad 5 = .ok (.aload_n 0, 1) := by decide +kernel
theorem dX6_pad_6 : decode cX6_pad 6 = .ok (.getfield 130, 3) := by decide +kernel
theorem dX6_pad_9 : decode cX6_pad 9 = .ok (.if_icmp .lt 7, 3) := by decide +kernel
theorem dX6_pad_12 : decode cX6_pad 12 = .ok (.iconst 0, 1) := by decide +kernel
theorem dX6_pad_13 : decode cX6_pad 13 = .ok (.goto 9, 3) := by decide +kernel
theorem dX6_pad_16 : decode cX6_pad 16 = .ok (.aload_n 0, 1) := by decide +kernel
theorem dX6_pad_17 : decode cX6_pad 17 = .ok (.getfield 40, 3) := by decide +kernel
theorem dX6_pad_20 : decode cX6_pad 20 = .ok (.iload_n 1, 1) := by decide +kernel
theorem dX6_pad_21 : decode cX6_pad 21 = .ok (.iaload, 1) := by decide +kernel
theorem dX6_pad_22 : decode cX6_pad 22 = .ok (.ireturn, 1) := by decide +kernel
theorem dX6_included_0 : decode cX6_included 0 = .ok (.iload_n 3, 1) := by decide +kernel
theorem dX6_included_1 : decode cX6_included 1 = .ok (.iconst 1, 1) := by decide +kernel
theorem dX6_included_2 : decode cX6_included 2 = .ok (.if_icmp .lt 19, 3) := by decide +kernel
theorem dX6_included_5 : decode cX6_included 5 = .ok (.iload_n 3, 1) := by decide +kernel
theorem dX6_included_6 : decode cX6_included 6 = .ok (.sipush 1000, 3) := by decide +kernel
theorem dX6_included_9 : decode cX6_included 9 = .ok (.if_icmp .gt 12, 3) := by decide +kernel
theorem dX6_included_12 : decode cX6_included 12 = .ok (.iload_n 2, 1) := by decide +kernel
theorem dX6_included_13 : decode cX6_included 13 = .ok (.ifCond .lt 8, 3) := by decide +kernel
theorem dX6_included_16 : decode cX6_included 16 = .ok (.iload_n 2, 1) := by decide +kernel
theorem dX6_included_17 : decode cX6_included 17 = .ok (.iload_n 3, 1) := by decide +kernel
theorem dX6_included_18 : decode cX6_included 18 = .ok (.if_icmp .lt 5, 3) := by decide +kernel
theorem dX6_included_21 : decode cX6_included 21 = .ok (.iconst 0, 1) := by decide +kernel
theorem dX6_included_22 : decode cX6_included 22 = .ok (.ireturn, 1) := by decide +kernel
theorem dX6_included_23 : decode cX6_included 23 = .ok (.iconst 0, 1) := by decide +kernel
theorem dX6_included_24 : decode cX6_included 24 = .ok (.istore 5, 2) := by decide +kernel
theorem dX6_included_26 : decode cX6_included 26 = .ok (.iload_n 2, 1) := by decide +kernel
theorem dX6_included_27 : decode cX6_included 27 = .ok (.istore 6, 2) := by decide +kernel
theorem dX6_included_29 : decode cX6_included 29 = .ok (.iload_n 3, 1) := by decide +kernel
theorem dX6_included_30 : decode cX6_included 30 = .ok (.istore 7, 2) := by decide +kernel
theorem dX6_included_32 : decode cX6_included 32 = .ok (.iload 7, 2) := by decide +kernel
theorem dX6_included_34 : decode cX6_included 34 = .ok (.iconst 1, 1) := by decide +kernel
theorem dX6_included_35 : decode cX6_included 35 = .ok (.if_icmp .le 73, 3) := by decide +kernel
theorem dX6_included_38 : decode cX6_included 38 = .ok (.iload 7, 2) := by decide +kernel
theorem dX6_included_40 : decode cX6_included 40 = .ok (.invokestatic 133, 3) := by decide +kernel
theorem dX6_included_43 : decode cX6_included 43 = .ok (.istore 8, 2) := by decide +kernel
theorem dX6_included_45 : decode cX6_included 45 = .ok (.aload_n 0, 1) := by decide +kernel
theorem dX6_included_46 : decode cX6_included 46 = .ok (.getfield 46, 3) := by decide +kernel
theorem dX6_included_49 : decode cX6_included 49 = .ok (.iload 5, 2) := by decide +kernel
theorem dX6_included_51 : decode cX6_included 51 = .ok (.iload 6, 2) := by decide +kernel
theorem dX6_included_53 : decode cX6_included 53 = .ok (.iload 8, 2) := by decide +kernel
theorem dX6_included_55 : decode cX6_included 55 = .ok (.if_icmp .ge 7, 3) := by decide +kernel
theorem dX6_included_58 : decode cX6_included 58 = .ok (.iconst 1, 1) := by decide +kernel
theorem dX6_included_59 : decode cX6_included 59 = .ok (.goto 4, 3) := by decide +kernel
theorem dX6_included_62 : decode cX6_included 62 = .ok (.iconst 0, 1) := by decide +kernel
theorem dX6_included_63 : decode cX6_included 63 = .ok (.bastore, 1) := by decide +kernel
theorem dX6_included_64 : decode cX6_included 64 = .ok (.iload 6, 2) := by decide +kernel
theorem dX6_included_66 : decode cX6_included 66 = .ok (.iload 8, 2) := by decide +kernel
theorem dX6_included_68 : decode cX6_included 68 = .ok (.if_icmp .ge 8, 3) := by decide +kernel
theorem dX6_included_71 : decode cX6_included 71 = .ok (.iload 8, 2) := by decide +kernel
theorem dX6_included_73 : decode cX6_included 73 = .ok (.goto 8, 3) := by decide +kernel
theorem dX6_included_76 : decode cX6_included 76 = .ok (.iload 7, 2) := by decide +kernel
theorem dX6_included_78 : decode cX6_included 78 = .ok (.iload 8, 2) := by decide +kernel
theorem dX6_included_80 : decode cX6_included 80 = .ok (.isub, 1) := by decide +kernel
theorem dX6_included_81 : decode cX6_included 81 = .ok (.istore 7, 2) := by decide +kernel
theorem dX6_included_83 : decode cX6_included 83 = .ok (.iload 6, 2) := by decide +kernel
theorem dX6_included_85 : decode cX6_included 85 = .ok (.iload 8, 2) := by decide +kernel
theorem dX6_included_87 : decode cX6_included 87 = .ok (.if_icmp .ge 8, 3) := by decide +kernel
theorem dX6_included_90 : decode cX6_included 90 = .ok (.iload 6, 2) := by decide +kernel
theorem dX6_included_92 : decode cX6_included 92 = .ok (.goto 8, 3) := by decide +kernel
theorem dX6_included_95 : decode cX6_included 95 = .ok (.iload 6, 2) := by decide +kernel
theorem dX6_included_97 : decode cX6_included 97 = .ok (.iload 8, 2) := by decide +kernel
theorem dX6_included_99 : decode cX6_included 99 = .ok (.isub, 1) := by decide +kernel
theorem dX6_included_100 : decode cX6_included 100 = .ok (.istore 6, 2) := by decide +kernel
theorem dX6_included_102 : decode cX6_included 102 = .ok (.iinc 5 1, 3) := by decide +kernel
theorem dX6_included_105 : decode cX6_included 105 = .ok (.goto (-73), 3) := by decide +kernel
theorem dX6_included_108 : decode cX6_included 108 = .ok (.iload 5, 2) := by decide +kernel
theorem dX6_included_110 : decode cX6_included 110 = .ok (.aload_n 0, 1) := by decide +kernel
theorem dX6_included_111 : decode cX6_included 111 = .ok (.getfield 130, 3) := by decide +kernel
theorem dX6_included_114 : decode cX6_included 114 = .ok (.if_icmp .eq 5, 3) := by decide +kernel
theorem dX6_included_117 : decode cX6_included 117 = .ok (.iconst 0, 1) := by decide +kernel
theorem dX6_included_118 : decode cX6_included 118 = .ok (.ireturn, 1) := by decide +kernel
theorem dX6_included_119 : decode cX6_included 119 = .ok (.iload_n 1, 1) := by decide +kernel
theorem dX6_included_120 : decode cX6_included 120 = .ok (.istore 7, 2) := by decide +kernel
theorem dX6_included_122 : decode cX6_included 122 = .ok (.iload 5, 2) := by decide +kernel
theorem dX6_included_124 : decode cX6_included 124 = .ok (.iconst 1, 1) := by decide +kernel
theorem dX6_included_125 : decode cX6_included 125 = .ok (.isub, 1) := by decide +kernel
theorem dX6_included_126 : decode cX6_included 126 = .ok (.istore 8, 2) := by decide +kernel
theorem dX6_included_128 : decode cX6_included 128 = .ok (.iload 8, 2) := by decide +kernel
theorem dX6_included_130 : decode cX6_included 130 = .ok (.ifCond .lt 52, 3) := by decide +kernel
theorem dX6_included_133 : decode cX6_included 133 = .ok (.aload_n 0, 1) := by decide +kernel
theorem dX6_included_134 : decode cX6_included 134 = .ok (.getfield 40, 3) := by decide +kernel
theorem dX6_included_137 : decode cX6_included 137 = .ok (.iload 5, 2) := by decide +kernel
theorem dX6_included_139 : decode cX6_included 139 = .ok (.iconst 1, 1) := by decide +kernel
theorem dX6_included_140 : decode cX6_included 140 = .ok (.isub, 1) := by decide +kernel
theorem dX6_included_141 : decode cX6_included 141 = .ok (.iload 8, 2) := by decide +kernel
theorem dX6_included_143 : decode cX6_included 143 = .ok (.isub, 1) := by decide +kernel
theorem dX6_included_144 : decode cX6_included 144 = .ok (.iaload, 1) := by decide +kernel
theorem dX6_included_145 : decode cX6_included 145 = .ok (.istore 9, 2) := by decide +kernel
theorem dX6_included_147 : decode cX6_included 147 = .ok (.aload_n 0, 1) := by decide +kernel
theorem dX6_included_148 : decode cX6_included 148 = .ok (.getfield 46, 3) := by decide +kernel
theorem dX6_included_151 : decode cX6_included 151 = .ok (.iload 8, 2) := by decide +kernel
theorem dX6_included_153 : decode cX6_included 153 = .ok (.baload, 1) := by decide +kernel
theorem dX6_included_154 : decode cX6_included 154 = .ok (.ifCond .eq 13, 3) := by decide +kernel
theorem dX6_included_157 : decode cX6_included 157 = .ok (.iload 7, 2) := by decide +kernel
theorem dX6_included_159 : decode cX6_included 159 = .ok (.iload 9, 2) := by decide +kernel
theorem dX6_included_161 : decode cX6_included 161 = .ok (.invokestatic 124, 3) := by decide +kernel
theorem dX6_included_164 : decode cX6_included 164 = .ok (.goto 10, 3) := by decide +kernel
theorem dX6_included_167 : decode cX6_included 167 = .ok (.iload 9, 2) := by decide +kernel
theorem dX6_included_169 : decode cX6_included 169 = .ok (.iload 7, 2) := by decide +kernel
theorem dX6_included_171 : decode cX6_included 171 = .ok (.invokestatic 124, 3) := by decide +kernel
theorem dX6_included_174 : decode cX6_included 174 = .ok (.istore 7, 2) := by decide +kernel
theorem dX6_included_176 : decode cX6_included 176 = .ok (.iinc 8 (-1), 3) := by decide +kernel
theorem dX6_included_179 : decode cX6_included 179 = .ok (.goto (-51), 3) := by decide +kernel
theorem dX6_included_182 : decode cX6_included 182 = .ok (.iload 7, 2) := by decide +kernel
theorem dX6_included_184 : decode cX6_included 184 = .ok (.iload 4, 2) := by decide +kernel
theorem dX6_included_186 : decode cX6_included 186 = .ok (.if_icmp .ne 7, 3) := by decide +kernel
theorem dX6_included_189 : decode cX6_included 189 = .ok (.iconst 1, 1) := by decide +kernel
theorem dX6_included_190 : decode cX6_included 190 = .ok (.goto 4, 3) := by decide +kernel
theorem dX6_included_193 : decode cX6_included 193 = .ok (.iconst 0, 1) := by decide +kernel
theorem dX6_included_194 : decode cX6_included 194 = .ok (.ireturn, 1) := by decide +kernel
theorem dX6_consistent_0 : decode cX6_consistent 0 = .ok (.iload 4, 2) := by decide +kernel
theorem dX6_consistent_2 : decode cX6_consistent 2 = .ok (.iconst 1, 1) := by decide +kernel
theorem dX6_consistent_3 : decode cX6_consistent 3 = .ok (.if_icmp .lt 22, 3) := by decide +kernel
theorem dX6_consistent_6 : decode cX6_consistent 6 = .ok (.iload 4, 2) := by decide +kernel
theorem dX6_consistent_8 : decode cX6_consistent 8 = .ok (.sipush 1000, 3) := by decide +kernel
theorem dX6_consistent_11 : decode cX6_consistent 11 = .ok (.if_icmp .gt 14, 3) := by decide +kernel
theorem dX6_consistent_14 : decode cX6_consistent 14 = .ok (.iload_n 2, 1) := by decide +kernel
theorem dX6_consistent_15 : decode cX6_consistent 15 = .ok (.iconst 1, 1) := by decide +kernel
theorem dX6_consistent_16 : decode cX6_consistent 16 = .ok (.if_icmp .lt 9, 3) := by decide +kernel
theorem dX6_consistent_19 : decode cX6_consistent 19 = .ok (.iload_n 2, 1) := by decide +kernel
theorem dX6_consistent_20 : decode cX6_consistent 20 = .ok (.iload 4, 2) := by decide +kernel
theorem dX6_consistent_22 : decode cX6_consistent 22 = .ok (.if_icmp .le 5, 3) := by decide +kernel
theorem dX6_consistent_25 : decode cX6_consistent 25 = .ok (.iconst 0, 1) := by decide +kernel
theorem dX6_consistent_26 : decode cX6_consistent 26 = .ok (.ireturn, 1) := by decide +kernel
theorem dX6_consistent_27 : decode cX6_consistent 27 = .ok (.iconst 0, 1) := by decide +kernel
theorem dX6_consistent_28 : decode cX6_consistent 28 = .ok (.istore 5, 2) := by decide +kernel
theorem dX6_consistent_30 : decode cX6_consistent 30 = .ok (.iload_n 2, 1) := by decide +kernel
theorem dX6_consistent_31 : decode cX6_consistent 31 = .ok (.istore 6, 2) := by decide +kernel
theorem dX6_consistent_33 : decode cX6_consistent 33 = .ok (.iload 4, 2) := by decide +kernel
theorem dX6_consistent_35 : decode cX6_consistent 35 = .ok (.istore 7, 2) := by decide +kernel
theorem dX6_consistent_37 : decode cX6_consistent 37 = .ok (.iconst 1, 1) := by decide +kernel
theorem dX6_consistent_38 : decode cX6_consistent 38 = .ok (.istore 8, 2) := by decide +kernel
theorem dX6_consistent_40 : decode cX6_consistent 40 = .ok (.iload 6, 2) := by decide +kernel
theorem dX6_consistent_42 : decode cX6_consistent 42 = .ok (.iload 7, 2) := by decide +kernel
theorem dX6_consistent_44 : decode cX6_consistent 44 = .ok (.if_icmp .eq 101, 3) := by decide +kernel
theorem dX6_consistent_47 : decode cX6_consistent 47 = .ok (.iload 7, 2) := by decide +kernel
theorem dX6_consistent_49 : decode cX6_consistent 49 = .ok (.invokestatic 133, 3) := by decide +kernel
theorem dX6_consistent_52 : decode cX6_consistent 52 = .ok (.istore 9, 2) := by decide +kernel
theorem dX6_consistent_54 : decode cX6_consistent 54 = .ok (.aload_n 0, 1) := by decide +kernel
theorem dX6_consistent_55 : decode cX6_consistent 55 = .ok (.getfield 46, 3) := by decide +kernel
theorem dX6_consistent_58 : decode cX6_consistent 58 = .ok (.iload 5, 2) := by decide +kernel
theorem dX6_consistent_60 : decode cX6_consistent 60 = .ok (.iload 6, 2) := by decide +kernel
theorem dX6_consistent_62 : decode cX6_consistent 62 = .ok (.iload 9, 2) := by decide +kernel
theorem dX6_consistent_64 : decode cX6_consistent 64 = .ok (.if_icmp .gt 7, 3) := by decide +kernel
theorem dX6_consistent_67 : decode cX6_consistent 67 = .ok (.iconst 1, 1) := by decide +kernel
theorem dX6_consistent_68 : decode cX6_consistent 68 = .ok (.goto 4, 3) := by decide +kernel
theorem dX6_consistent_71 : decode cX6_consistent 71 = .ok (.iconst 0, 1) := by decide +kernel
theorem dX6_consistent_72 : decode cX6_consistent 72 = .ok (.bastore, 1) := by decide +kernel
theorem dX6_consistent_73 : decode cX6_consistent 73 = .ok (.aload_n 0, 1) := by decide +kernel
theorem dX6_consistent_74 : decode cX6_consistent 74 = .ok (.getfield 46, 3) := by decide +kernel
theorem dX6_consistent_77 : decode cX6_consistent 77 = .ok (.iload 5, 2) := by decide +kernel
theorem dX6_consistent_79 : decode cX6_consistent 79 = .ok (.baload, 1) := by decide +kernel
theorem dX6_consistent_80 : decode cX6_consistent 80 = .ok (.ifCond .eq 8, 3) := by decide +kernel
theorem dX6_consistent_83 : decode cX6_consistent 83 = .ok (.iload 9, 2) := by decide +kernel
theorem dX6_consistent_85 : decode cX6_consistent 85 = .ok (.goto 8, 3) := by decide +kernel
theorem dX6_consistent_88 : decode cX6_consistent 88 = .ok (.iload 7, 2) := by decide +kernel
theorem dX6_consistent_90 : decode cX6_consistent 90 = .ok (.iload 9, 2) := by decide +kernel
theorem dX6_consistent_92 : decode cX6_consistent 92 = .ok (.isub, 1) := by decide +kernel
theorem dX6_consistent_93 : decode cX6_consistent 93 = .ok (.istore 7, 2) := by decide +kernel
theorem dX6_consistent_95 : decode cX6_consistent 95 = .ok (.aload_n 0, 1) := by decide +kernel
theorem dX6_consistent_96 : decode cX6_consistent 96 = .ok (.getfield 46, 3) := by decide +kernel
theorem dX6_consistent_99 : decode cX6_consistent 99 = .ok (.iload 5, 2) := by decide +kernel
theorem dX6_consistent_101 : decode cX6_consistent 101 = .ok (.baload, 1) := by decide +kernel
theorem dX6_consistent_102 : decode cX6_consistent 102 = .ok (.ifCond .eq 8, 3) := by decide +kernel
theorem dX6_consistent_105 : decode cX6_consistent 105 = .ok (.iload 6, 2) := by decide +kernel
theorem dX6_consistent_107 : decode cX6_consistent 107 = .ok (.goto 8, 3) := by decide +kernel
theorem dX6_consistent_110 : decode cX6_consistent 110 = .ok (.iload 6, 2) := by decide +kernel
theorem dX6_consistent_112 : decode cX6_consistent 112 = .ok (.iload 9, 2) := by decide +kernel
theorem dX6_consistent_114 : decode cX6_consistent 114 = .ok (.isub, 1) := by decide +kernel
theorem dX6_consistent_115 : decode cX6_consistent 115 = .ok (.istore 6, 2) := by decide +kernel
theorem dX6_consistent_117 : decode cX6_consistent 117 = .ok (.iload 8, 2) := by decide +kernel
theorem dX6_consistent_119 : decode cX6_consistent 119 = .ok (.ifCond .eq 17, 3) := by decide +kernel
theorem dX6_consistent_122 : decode cX6_consistent 122 = .ok (.aload_n 0, 1) := by decide +kernel
theorem dX6_consistent_123 : decode cX6_consistent 123 = .ok (.getfield 46, 3) := by decide +kernel
theorem dX6_consistent_126 : decode cX6_consistent 126 = .ok (.iload 5, 2) := by decide +kernel
theorem dX6_consistent_128 : decode cX6_consistent 128 = .ok (.baload, 1) := by decide +kernel
theorem dX6_consistent_129 : decode cX6_consistent 129 = .ok (.ifCond .eq 7, 3) := by decide +kernel
theorem dX6_consistent_132 : decode cX6_consistent 132 = .ok (.iconst 1, 1) := by decide +kernel
theorem dX6_consistent_133 : decode cX6_consistent 133 = .ok (.goto 4, 3) := by decide +kernel
theorem dX6_consistent_136 : decode cX6_consistent 136 = .ok (.iconst 0, 1) := by decide +kernel
theorem dX6_consistent_137 : decode cX6_consistent 137 = .ok (.istore 8, 2) := by decide +kernel
theorem dX6_consistent_139 : decode cX6_consistent 139 = .ok (.iinc 5 1, 3) := by decide +kernel
theorem dX6_consistent_142 : decode cX6_consistent 142 = .ok (.goto (-102), 3) := by decide +kernel
theorem dX6_consistent_145 : decode cX6_consistent 145 = .ok (.iload 8, 2) := by decide +kernel
theorem dX6_consistent_147 : decode cX6_consistent 147 = .ok (.ifCond .eq 7, 3) := by decide +kernel
theorem dX6_consistent_150 : decode cX6_consistent 150 = .ok (.iconst 0, 1) := by decide +kernel
theorem dX6_consistent_151 : decode cX6_consistent 151 = .ok (.goto 4, 3) := by decide +kernel
theorem dX6_consistent_154 : decode cX6_consistent 154 = .ok (.iconst 1, 1) := by decide +kernel
theorem dX6_consistent_155 : decode cX6_consistent 155 = .ok (.istore 9, 2) := by decide +kernel
theorem dX6_consistent_157 : decode cX6_consistent 157 = .ok (.aload_n 0, 1) := by decide +kernel
theorem dX6_consistent_158 : decode cX6_consistent 158 = .ok (.getfield 130, 3) := by decide +kernel
theorem dX6_consistent_161 : decode cX6_consistent 161 = .ok (.iload 5, 2) := by decide +kernel
theorem dX6_consistent_163 : decode cX6_consistent 163 = .ok (.iload 9, 2) := by decide +kernel
theorem dX6_consistent_165 : decode cX6_consistent 165 = .ok (.iadd, 1) := by decide +kernel
theorem dX6_consistent_166 : decode cX6_consistent 166 = .ok (.if_icmp .eq 5, 3) := by decide +kernel
theorem dX6_consistent_169 : decode cX6_consistent 169 = .ok (.iconst 0, 1) := by decide +kernel
theorem dX6_consistent_170 : decode cX6_consistent 170 = .ok (.ireturn, 1) := by decide +kernel
theorem dX6_consistent_171 : decode cX6_consistent 171 = .ok (.iload 8, 2) := by decide +kernel
theorem dX6_consistent_173 : decode cX6_consistent 173 = .ok (.ifCond .eq 7, 3) := by decide +kernel
theorem dX6_consistent_176 : decode cX6_consistent 176 = .ok (.iload_n 1, 1) := by decide +kernel
theorem dX6_consistent_177 : decode cX6_consistent 177 = .ok (.goto 9, 3) := by decide +kernel
theorem dX6_consistent_180 : decode cX6_consistent 180 = .ok (.aload_n 0, 1) := by decide +kernel
theorem dX6_consistent_181 : decode cX6_consistent 181 = .ok (.getfield 40, 3) := by decide +kernel
theorem dX6_consistent_184 : decode cX6_consistent 184 = .ok (.iconst 0, 1) := by decide +kernel
theorem dX6_consistent_185 : decode cX6_consistent 185 = .ok (.iaload, 1) := by decide +kernel
theorem dX6_consistent_186 : decode cX6_consistent 186 = .ok (.istore 10, 2) := by decide +kernel
theorem dX6_consistent_188 : decode cX6_consistent 188 = .ok (.iload 10, 2) := by decide +kernel
theorem dX6_consistent_190 : decode cX6_consistent 190 = .ok (.istore 11, 2) := by decide +kernel
theorem dX6_consistent_192 : decode cX6_consistent 192 = .ok (.iload 5, 2) := by decide +kernel
theorem dX6_consistent_194 : decode cX6_consistent 194 = .ok (.iconst 1, 1) := by decide +kernel
theorem dX6_consistent_195 : decode cX6_consistent 195 = .ok (.isub, 1) := by decide +kernel
theorem dX6_consistent_196 : decode cX6_consistent 196 = .ok (.istore 12, 2) := by decide +kernel
theorem dX6_consistent_198 : decode cX6_consistent 198 = .ok (.iload 12, 2) := by decide +kernel
theorem dX6_consistent_200 : decode cX6_consistent 200 = .ok (.ifCond .lt 79, 3) := by decide +kernel
theorem dX6_consistent_203 : decode cX6_consistent 203 = .ok (.aload_n 0, 1) := by decide +kernel
theorem dX6_consistent_204 : decode cX6_consistent 204 = .ok (.getfield 40, 3) := by decide +kernel
theorem dX6_consistent_207 : decode cX6_consistent 207 = .ok (.iload 9, 2) := by decide +kernel
theorem dX6_consistent_209 : decode cX6_consistent 209 = .ok (.iload 5, 2) := by decide +kernel
theorem dX6_consistent_211 : decode cX6_consistent 211 = .ok (.iadd, 1) := by decide +kernel
theorem dX6_consistent_212 : decode cX6_consistent 212 = .ok (.iconst 1, 1) := by decide +kernel
theorem dX6_consistent_213 : decode cX6_consistent 213 = .ok (.isub, 1) := by decide +kernel
theorem dX6_consistent_214 : decode cX6_consistent 214 = .ok (.iload 12, 2) := by decide +kernel
theorem dX6_consistent_216 : decode cX6_consistent 216 = .ok (.isub, 1) := by decide +kernel
theorem dX6_consistent_217 : decode cX6_consistent 217 = .ok (.iaload, 1) := by decide +kernel
theorem dX6_consistent_218 : decode cX6_consistent 218 = .ok (.istore 13, 2) := by decide +kernel
theorem dX6_consistent_220 : decode cX6_consistent 220 = .ok (.aload_n 0, 1) := by decide +kernel
theorem dX6_consistent_221 : decode cX6_consistent 221 = .ok (.getfield 46, 3) := by decide +kernel
theorem dX6_consistent_224 : decode cX6_consistent 224 = .ok (.iload 12, 2) := by decide +kernel
theorem dX6_consistent_226 : decode cX6_consistent 226 = .ok (.baload, 1) := by decide +kernel
theorem dX6_consistent_227 : decode cX6_consistent 227 = .ok (.ifCond .eq 8, 3) := by decide +kernel
theorem dX6_consistent_230 : decode cX6_consistent 230 = .ok (.iload 10, 2) := by decide +kernel
theorem dX6_consistent_232 : decode cX6_consistent 232 = .ok (.goto 10, 3) := by decide +kernel
theorem dX6_consistent_235 : decode cX6_consistent 235 = .ok (.iload 13, 2) := by decide +kernel
theorem dX6_consistent_237 : decode cX6_consistent 237 = .ok (.iload 10, 2) := by decide +kernel
theorem dX6_consistent_239 : decode cX6_consistent 239 = .ok (.invokestatic 124, 3) := by decide +kernel
theorem dX6_consistent_242 : decode cX6_consistent 242 = .ok (.istore 10, 2) := by decide +kernel
theorem dX6_consistent_244 : decode cX6_consistent 244 = .ok (.aload_n 0, 1) := by decide +kernel
theorem dX6_consistent_245 : decode cX6_consistent 245 = .ok (.getfield 46, 3) := by decide +kernel
theorem dX6_consistent_248 : decode cX6_consistent 248 = .ok (.iload 12, 2) := by decide +kernel
theorem dX6_consistent_250 : decode cX6_consistent 250 = .ok (.baload, 1) := by decide +kernel
theorem dX6_consistent_251 : decode cX6_consistent 251 = .ok (.ifCond .eq 13, 3) := by decide +kernel
theorem dX6_consistent_254 : decode cX6_consistent 254 = .ok (.iload 11, 2) := by decide +kernel
theorem dX6_consistent_256 : decode cX6_consistent 256 = .ok (.iload 13, 2) := by decide +kernel
theorem dX6_consistent_258 : decode cX6_consistent 258 = .ok (.invokestatic 124, 3) := by decide +kernel
theorem dX6_consistent_261 : decode cX6_consistent 261 = .ok (.goto 10, 3) := by decide +kernel
theorem dX6_consistent_264 : decode cX6_consistent 264 = .ok (.iload 13, 2) := by decide +kernel
theorem dX6_consistent_266 : decode cX6_consistent 266 = .ok (.iload 11, 2) := by decide +kernel
theorem dX6_consistent_268 : decode cX6_consistent 268 = .ok (.invokestatic 124, 3) := by decide +kernel
theorem dX6_consistent_271 : decode cX6_consistent 271 = .ok (.istore 11, 2) := by decide +kernel
theorem dX6_consistent_273 : decode cX6_consistent 273 = .ok (.iinc 12 (-1), 3) := by decide +kernel
theorem dX6_consistent_276 : decode cX6_consistent 276 = .ok (.goto (-78), 3) := by decide +kernel
theorem dX6_consistent_279 : decode cX6_consistent 279 = .ok (.iload 10, 2) := by decide +kernel
theorem dX6_consistent_281 : decode cX6_consistent 281 = .ok (.iload_n 1, 1) := by decide +kernel
theorem dX6_consistent_282 : decode cX6_consistent 282 = .ok (.if_icmp .ne 13, 3) := by decide +kernel
theorem dX6_consistent_285 : decode cX6_consistent 285 = .ok (.iload 11, 2) := by decide +kernel
theorem dX6_consistent_287 : decode cX6_consistent 287 = .ok (.iload_n 3, 1) := by decide +kernel
theorem dX6_consistent_288 : decode cX6_consistent 288 = .ok (.if_icmp .ne 7, 3) := by decide +kernel
theorem dX6_consistent_291 : decode cX6_consistent 291 = .ok (.iconst 1, 1) := by decide +kernel
theorem dX6_consistent_292 : decode cX6_consistent 292 = .ok (.goto 4, 3) := by decide +kernel
theorem dX6_consistent_295 : decode cX6_consistent 295 = .ok (.iconst 0, 1) := by decide +kernel
theorem dX6_consistent_296 : decode cX6_consistent 296 = .ok (.ireturn, 1) := by decide +kernel
theorem dX6_cell_0 : decode cX6_cell 0 = .ok (.iload_n 1, 1) := by decide +kernel
theorem dX6_cell_1 : decode cX6_cell 1 = .ok (.ifCond .lt 10, 3) := by decide +kernel
theorem dX6_cell_4 : decode cX6_cell 4 = .ok (.iload_n 1, 1) := by decide +kernel
theorem dX6_cell_5 : decode cX6_cell 5 = .ok (.sipush 511, 3) := by decide +kernel
theorem dX6_cell_8 : decode cX6_cell 8 = .ok (.if_icmp .le 7, 3) := by decide +kernel
theorem dX6_cell_11 : decode cX6_cell 11 = .ok (.iconst 0, 1) := by decide +kernel
theorem dX6_cell_12 : decode cX6_cell 12 = .ok (.goto 9, 3) := by decide +kernel
theorem dX6_cell_15 : decode cX6_cell 15 = .ok (.aload_n 0, 1) := by decide +kernel
theorem dX6_cell_16 : decode cX6_cell 16 = .ok (.getfield 37, 3) := by decide +kernel
theorem dX6_cell_19 : decode cX6_cell 19 = .ok (.iload_n 1, 1) := by decide +kernel
theorem dX6_cell_20 : decode cX6_cell 20 = .ok (.iaload, 1) := by decide +kernel
theorem dX6_cell_21 : decode cX6_cell 21 = .ok (.ireturn, 1) := by decide +kernel
theorem dX6_writes_0 : decode cX6_writes 0 = .ok (.aload_n 0, 1) := by decide +kernel
theorem dX6_writes_1 : decode cX6_writes 1 = .ok (.getfield 108, 3) := by decide +kernel
theorem dX6_writes_4 : decode cX6_writes 4 = .ok (.ireturn, 1) := by decide +kernel
