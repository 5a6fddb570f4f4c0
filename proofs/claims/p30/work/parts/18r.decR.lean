theorem dL_at_0 : decode cL_at 0 = .ok (.aload_n 0, 1) := by decide +kernel
theorem dL_at_1 : decode cL_at 1 = .ok (.iload_n 1, 1) := by decide +kernel
theorem dL_at_2 : decode cL_at 2 = .ok (.iconst 3, 1) := by decide +kernel
theorem dL_at_3 : decode cL_at 3 = .ok (.idiv, 1) := by decide +kernel
theorem dL_at_4 : decode cL_at 4 = .ok (.iaload, 1) := by decide +kernel
theorem dL_at_5 : decode cL_at 5 = .ok (.iconst 5, 1) := by decide +kernel
theorem dL_at_6 : decode cL_at 6 = .ok (.iload_n 1, 1) := by decide +kernel
theorem dL_at_7 : decode cL_at 7 = .ok (.iconst 3, 1) := by decide +kernel
theorem dL_at_8 : decode cL_at 8 = .ok (.irem, 1) := by decide +kernel
theorem dL_at_9 : decode cL_at 9 = .ok (.imul, 1) := by decide +kernel
theorem dL_at_10 : decode cL_at 10 = .ok (.ishr, 1) := by decide +kernel
theorem dL_at_11 : decode cL_at 11 = .ok (.bipush 31, 2) := by decide +kernel
theorem dL_at_13 : decode cL_at 13 = .ok (.iand, 1) := by decide +kernel
theorem dL_at_14 : decode cL_at 14 = .ok (.iconst 1, 1) := by decide +kernel
theorem dL_at_15 : decode cL_at 15 = .ok (.isub, 1) := by decide +kernel
theorem dL_at_16 : decode cL_at 16 = .ok (.ireturn, 1) := by decide +kernel
theorem dL_put_0 : decode cL_put 0 = .ok (.aload_n 0, 1) := by decide +kernel
theorem dL_put_1 : decode cL_put 1 = .ok (.iload_n 1, 1) := by decide +kernel
theorem dL_put_2 : decode cL_put 2 = .ok (.iconst 3, 1) := by decide +kernel
theorem dL_put_3 : decode cL_put 3 = .ok (.idiv, 1) := by decide +kernel
theorem dL_put_4 : decode cL_put 4 = .ok (.dup2, 1) := by decide +kernel
theorem dL_put_5 : decode cL_put 5 = .ok (.iaload, 1) := by decide +kernel
theorem dL_put_6 : decode cL_put 6 = .ok (.iload_n 2, 1) := by decide +kernel
theorem dL_put_7 : decode cL_put 7 = .ok (.aload_n 0, 1) := by decide +kernel
theorem dL_put_8 : decode cL_put 8 = .ok (.iload_n 1, 1) := by decide +kernel
theorem dL_put_9 : decode cL_put 9 = .ok (.invokestatic 9, 3) := by decide +kernel
theorem dL_put_12 : decode cL_put 12 = .ok (.isub, 1) := by decide +kernel
theorem dL_put_13 : decode cL_put 13 = .ok (.iconst 5, 1) := by decide +kernel
theorem dL_put_14 : decode cL_put 14 = .ok (.iload_n 1, 1) := by decide +kernel
theorem dL_put_15 : decode cL_put 15 = .ok (.iconst 3, 1) := by decide +kernel
theorem dL_put_16 : decode cL_put 16 = .ok (.irem, 1) := by decide +kernel
theorem dL_put_17 : decode cL_put 17 = .ok (.imul, 1) := by decide +kernel
theorem dL_put_18 : decode cL_put 18 = .ok (.ishl, 1) := by decide +kernel
theorem dL_put_19 : decode cL_put 19 = .ok (.iadd, 1) := by decide +kernel
theorem dL_put_20 : decode cL_put 20 = .ok (.iastore, 1) := by decide +kernel
theorem dL_put_21 : decode cL_put 21 = .ok (.return_, 1) := by decide +kernel
theorem dL_spread_0 : decode cL_spread 0 = .ok (.iload_n 1, 1) := by decide +kernel
theorem dL_spread_1 : decode cL_spread 1 = .ok (.istore_n 3, 1) := by decide +kernel
theorem dL_spread_2 : decode cL_spread 2 = .ok (.iconst 0, 1) := by decide +kernel
theorem dL_spread_3 : decode cL_spread 3 = .ok (.istore 4, 2) := by decide +kernel
theorem dL_spread_5 : decode cL_spread 5 = .ok (.iload 4, 2) := by decide +kernel
theorem dL_spread_7 : decode cL_spread 7 = .ok (.bipush 24, 2) := by decide +kernel
theorem dL_spread_9 : decode cL_spread 9 = .ok (.if_icmp .ge 67, 3) := by decide +kernel
theorem dL_spread_12 : decode cL_spread 12 = .ok (.iconst 0, 1) := by decide +kernel
theorem dL_spread_13 : decode cL_spread 13 = .ok (.istore 5, 2) := by decide +kernel
theorem dL_spread_15 : decode cL_spread 15 = .ok (.iload 5, 2) := by decide +kernel
theorem dL_spread_17 : decode cL_spread 17 = .ok (.bipush 72, 2) := by decide +kernel
theorem dL_spread_19 : decode cL_spread 19 = .ok (.if_icmp .ge 51, 3) := by decide +kernel
theorem dL_spread_22 : decode cL_spread 22 = .ok (.aload_n 0, 1) := by decide +kernel
theorem dL_spread_23 : decode cL_spread 23 = .ok (.iload 5, 2) := by decide +kernel
theorem dL_spread_25 : decode cL_spread 25 = .ok (.invokestatic 9, 3) := by decide +kernel
theorem dL_spread_28 : decode cL_spread 28 = .ok (.istore 6, 2) := by decide +kernel
theorem dL_spread_30 : decode cL_spread 30 = .ok (.iload_n 3, 1) := by decide +kernel
theorem dL_spread_31 : decode cL_spread 31 = .ok (.iload_n 3, 1) := by decide +kernel
theorem dL_spread_32 : decode cL_spread 32 = .ok (.iload 5, 2) := by decide +kernel
theorem dL_spread_34 : decode cL_spread 34 = .ok (.iconst 3, 1) := by decide +kernel
theorem dL_spread_35 : decode cL_spread 35 = .ok (.idiv, 1) := by decide +kernel
theorem dL_spread_36 : decode cL_spread 36 = .ok (.ishr, 1) := by decide +kernel
theorem dL_spread_37 : decode cL_spread 37 = .ok (.iconst 1, 1) := by decide +kernel
theorem dL_spread_38 : decode cL_spread 38 = .ok (.iand, 1) := by decide +kernel
theorem dL_spread_39 : decode cL_spread 39 = .ok (.iconst 1, 1) := by decide +kernel
theorem dL_spread_40 : decode cL_spread 40 = .ok (.if_icmp .ne 21, 3) := by decide +kernel
theorem dL_spread_43 : decode cL_spread 43 = .ok (.iload 6, 2) := by decide +kernel
theorem dL_spread_45 : decode cL_spread 45 = .ok (.ifCond .lt 16, 3) := by decide +kernel
theorem dL_spread_48 : decode cL_spread 48 = .ok (.iload 6, 2) := by decide +kernel
theorem dL_spread_50 : decode cL_spread 50 = .ok (.iload_n 2, 1) := by decide +kernel
theorem dL_spread_51 : decode cL_spread 51 = .ok (.if_icmp .eq 10, 3) := by decide +kernel
theorem dL_spread_54 : decode cL_spread 54 = .ok (.iconst 1, 1) := by decide +kernel
theorem dL_spread_55 : decode cL_spread 55 = .ok (.iload 6, 2) := by decide +kernel
theorem dL_spread_57 : decode cL_spread 57 = .ok (.ishl, 1) := by decide +kernel
theorem dL_spread_58 : decode cL_spread 58 = .ok (.goto 4, 3) := by decide +kernel
theorem dL_spread_61 : decode cL_spread 61 = .ok (.iconst 0, 1) := by decide +kernel
theorem dL_spread_62 : decode cL_spread 62 = .ok (.ior, 1) := by decide +kernel
theorem dL_spread_63 : decode cL_spread 63 = .ok (.istore_n 3, 1) := by decide +kernel
theorem dL_spread_64 : decode cL_spread 64 = .ok (.iinc 5 1, 3) := by decide +kernel
theorem dL_spread_67 : decode cL_spread 67 = .ok (.goto (-52), 3) := by decide +kernel
theorem dL_spread_70 : decode cL_spread 70 = .ok (.iinc 4 1, 3) := by decide +kernel
theorem dL_spread_73 : decode cL_spread 73 = .ok (.goto (-68), 3) := by decide +kernel
theorem dL_spread_76 : decode cL_spread 76 = .ok (.iload_n 3, 1) := by decide +kernel
theorem dL_spread_77 : decode cL_spread 77 = .ok (.ireturn, 1) := by decide +kernel
theorem dL_rooted_0 : decode cL_rooted 0 = .ok (.iconst 0, 1) := by decide +kernel
theorem dL_rooted_1 : decode cL_rooted 1 = .ok (.istore_n 3, 1) := by decide +kernel
theorem dL_rooted_2 : decode cL_rooted 2 = .ok (.iconst 0, 1) := by decide +kernel
theorem dL_rooted_3 : decode cL_rooted 3 = .ok (.istore 4, 2) := by decide +kernel
theorem dL_rooted_5 : decode cL_rooted 5 = .ok (.iload 4, 2) := by decide +kernel
theorem dL_rooted_7 : decode cL_rooted 7 = .ok (.iconst 4, 1) := by decide +kernel
theorem dL_rooted_8 : decode cL_rooted 8 = .ok (.if_icmp .ge 37, 3) := by decide +kernel
theorem dL_rooted_11 : decode cL_rooted 11 = .ok (.iload_n 3, 1) := by decide +kernel
theorem dL_rooted_12 : decode cL_rooted 12 = .ok (.aload_n 1, 1) := by decide +kernel
theorem dL_rooted_13 : decode cL_rooted 13 = .ok (.iload 4, 2) := by decide +kernel
theorem dL_rooted_15 : decode cL_rooted 15 = .ok (.iaload, 1) := by decide +kernel
theorem dL_rooted_16 : decode cL_rooted 16 = .ok (.ifCond .lt 11, 3) := by decide +kernel
theorem dL_rooted_19 : decode cL_rooted 19 = .ok (.aload_n 1, 1) := by decide +kernel
theorem dL_rooted_20 : decode cL_rooted 20 = .ok (.iload 4, 2) := by decide +kernel
theorem dL_rooted_22 : decode cL_rooted 22 = .ok (.iaload, 1) := by decide +kernel
theorem dL_rooted_23 : decode cL_rooted 23 = .ok (.iload_n 2, 1) := by decide +kernel
theorem dL_rooted_24 : decode cL_rooted 24 = .ok (.if_icmp .ne 7, 3) := by decide +kernel
theorem dL_rooted_27 : decode cL_rooted 27 = .ok (.iconst 0, 1) := by decide +kernel
theorem dL_rooted_28 : decode cL_rooted 28 = .ok (.goto 9, 3) := by decide +kernel
theorem dL_rooted_31 : decode cL_rooted 31 = .ok (.iconst 1, 1) := by decide +kernel
theorem dL_rooted_32 : decode cL_rooted 32 = .ok (.aload_n 1, 1) := by decide +kernel
theorem dL_rooted_33 : decode cL_rooted 33 = .ok (.iload 4, 2) := by decide +kernel
theorem dL_rooted_35 : decode cL_rooted 35 = .ok (.iaload, 1) := by decide +kernel
theorem dL_rooted_36 : decode cL_rooted 36 = .ok (.ishl, 1) := by decide +kernel
theorem dL_rooted_37 : decode cL_rooted 37 = .ok (.ior, 1) := by decide +kernel
theorem dL_rooted_38 : decode cL_rooted 38 = .ok (.istore_n 3, 1) := by decide +kernel
theorem dL_rooted_39 : decode cL_rooted 39 = .ok (.iinc 4 1, 3) := by decide +kernel
theorem dL_rooted_42 : decode cL_rooted 42 = .ok (.goto (-37), 3) := by decide +kernel
theorem dL_rooted_45 : decode cL_rooted 45 = .ok (.aload_n 0, 1) := by decide +kernel
theorem dL_rooted_46 : decode cL_rooted 46 = .ok (.iload_n 3, 1) := by decide +kernel
theorem dL_rooted_47 : decode cL_rooted 47 = .ok (.iload_n 2, 1) := by decide +kernel
theorem dL_rooted_48 : decode cL_rooted 48 = .ok (.invokestatic 15, 3) := by decide +kernel
theorem dL_rooted_51 : decode cL_rooted 51 = .ok (.ireturn, 1) := by decide +kernel
theorem dL_reached_0 : decode cL_reached 0 = .ok (.aload_n 1, 1) := by decide +kernel
theorem dL_reached_1 : decode cL_reached 1 = .ok (.aload_n 3, 1) := by decide +kernel
theorem dL_reached_2 : decode cL_reached 2 = .ok (.iconst (-1), 1) := by decide +kernel
theorem dL_reached_3 : decode cL_reached 3 = .ok (.invokestatic 19, 3) := by decide +kernel
theorem dL_reached_6 : decode cL_reached 6 = .ok (.istore 4, 2) := by decide +kernel
theorem dL_reached_8 : decode cL_reached 8 = .ok (.iconst 0, 1) := by decide +kernel
theorem dL_reached_9 : decode cL_reached 9 = .ok (.istore 5, 2) := by decide +kernel
theorem dL_reached_11 : decode cL_reached 11 = .ok (.iload 5, 2) := by decide +kernel
theorem dL_reached_13 : decode cL_reached 13 = .ok (.aload_n 0, 1) := by decide +kernel
theorem dL_reached_14 : decode cL_reached 14 = .ok (.bipush 9, 2) := by decide +kernel
theorem dL_reached_16 : decode cL_reached 16 = .ok (.iaload, 1) := by decide +kernel
theorem dL_reached_17 : decode cL_reached 17 = .ok (.if_icmp .ge 20, 3) := by decide +kernel
theorem dL_reached_20 : decode cL_reached 20 = .ok (.iload 4, 2) := by decide +kernel
theorem dL_reached_22 : decode cL_reached 22 = .ok (.iconst 1, 1) := by decide +kernel
theorem dL_reached_23 : decode cL_reached 23 = .ok (.aload_n 2, 1) := by decide +kernel
theorem dL_reached_24 : decode cL_reached 24 = .ok (.iload 5, 2) := by decide +kernel
theorem dL_reached_26 : decode cL_reached 26 = .ok (.iaload, 1) := by decide +kernel
theorem dL_reached_27 : decode cL_reached 27 = .ok (.ishl, 1) := by decide +kernel
theorem dL_reached_28 : decode cL_reached 28 = .ok (.ior, 1) := by decide +kernel
theorem dL_reached_29 : decode cL_reached 29 = .ok (.istore 4, 2) := by decide +kernel
theorem dL_reached_31 : decode cL_reached 31 = .ok (.iinc 5 1, 3) := by decide +kernel
theorem dL_reached_34 : decode cL_reached 34 = .ok (.goto (-23), 3) := by decide +kernel
theorem dL_reached_37 : decode cL_reached 37 = .ok (.aload_n 1, 1) := by decide +kernel
theorem dL_reached_38 : decode cL_reached 38 = .ok (.iload 4, 2) := by decide +kernel
theorem dL_reached_40 : decode cL_reached 40 = .ok (.iconst (-1), 1) := by decide +kernel
theorem dL_reached_41 : decode cL_reached 41 = .ok (.invokestatic 15, 3) := by decide +kernel
theorem dL_reached_44 : decode cL_reached 44 = .ok (.ireturn, 1) := by decide +kernel
theorem dL_shade_0 : decode cL_shade 0 = .ok (.iload_n 3, 1) := by decide +kernel
theorem dL_shade_1 : decode cL_shade 1 = .ok (.ifCond .lt 28, 3) := by decide +kernel
theorem dL_shade_4 : decode cL_shade 4 = .ok (.aload_n 1, 1) := by decide +kernel
theorem dL_shade_5 : decode cL_shade 5 = .ok (.iload_n 3, 1) := by decide +kernel
theorem dL_shade_6 : decode cL_shade 6 = .ok (.iaload, 1) := by decide +kernel
theorem dL_shade_7 : decode cL_shade 7 = .ok (.ifCond .ne 22, 3) := by decide +kernel
theorem dL_shade_10 : decode cL_shade 10 = .ok (.aload_n 1, 1) := by decide +kernel
theorem dL_shade_11 : decode cL_shade 11 = .ok (.iload_n 3, 1) := by decide +kernel
theorem dL_shade_12 : decode cL_shade 12 = .ok (.iconst 1, 1) := by decide +kernel
theorem dL_shade_13 : decode cL_shade 13 = .ok (.iastore, 1) := by decide +kernel
theorem dL_shade_14 : decode cL_shade 14 = .ok (.aload_n 2, 1) := by decide +kernel
theorem dL_shade_15 : decode cL_shade 15 = .ok (.aload_n 0, 1) := by decide +kernel
theorem dL_shade_16 : decode cL_shade 16 = .ok (.bipush 10, 2) := by decide +kernel
theorem dL_shade_18 : decode cL_shade 18 = .ok (.iaload, 1) := by decide +kernel
theorem dL_shade_19 : decode cL_shade 19 = .ok (.iload_n 3, 1) := by decide +kernel
theorem dL_shade_20 : decode cL_shade 20 = .ok (.iastore, 1) := by decide +kernel
theorem dL_shade_21 : decode cL_shade 21 = .ok (.aload_n 0, 1) := by decide +kernel
theorem dL_shade_22 : decode cL_shade 22 = .ok (.bipush 10, 2) := by decide +kernel
theorem dL_shade_24 : decode cL_shade 24 = .ok (.dup2, 1) := by decide +kernel
theorem dL_shade_25 : decode cL_shade 25 = .ok (.iaload, 1) := by decide +kernel
theorem dL_shade_26 : decode cL_shade 26 = .ok (.iconst 1, 1) := by decide +kernel
theorem dL_shade_27 : decode cL_shade 27 = .ok (.iadd, 1) := by decide +kernel
theorem dL_shade_28 : decode cL_shade 28 = .ok (.iastore, 1) := by decide +kernel
theorem dL_shade_29 : decode cL_shade 29 = .ok (.return_, 1) := by decide +kernel
theorem dL_care_0 : decode cL_care 0 = .ok (.aload_n 0, 1) := by decide +kernel
theorem dL_care_1 : decode cL_care 1 = .ok (.iconst 0, 1) := by decide +kernel
theorem dL_care_2 : decode cL_care 2 = .ok (.iaload, 1) := by decide +kernel
theorem dL_care_3 : decode cL_care 3 = .ok (.iconst 1, 1) := by decide +kernel
theorem dL_care_4 : decode cL_care 4 = .ok (.if_icmp .eq 10, 3) := by decide +kernel
theorem dL_care_7 : decode cL_care 7 = .ok (.aload_n 0, 1) := by decide +kernel
theorem dL_care_8 : decode cL_care 8 = .ok (.iconst 0, 1) := by decide +kernel
theorem dL_care_9 : decode cL_care 9 = .ok (.iaload, 1) := by decide +kernel
theorem dL_care_10 : decode cL_care 10 = .ok (.iconst 2, 1) := by decide +kernel
theorem dL_care_11 : decode cL_care 11 = .ok (.if_icmp .ne 7, 3) := by decide +kernel
theorem dL_care_14 : decode cL_care 14 = .ok (.iconst 1, 1) := by decide +kernel
theorem dL_care_15 : decode cL_care 15 = .ok (.goto 4, 3) := by decide +kernel
theorem dL_care_18 : decode cL_care 18 = .ok (.iconst 0, 1) := by decide +kernel
theorem dL_care_19 : decode cL_care 19 = .ok (.istore 6, 2) := by decide +kernel
theorem dL_care_21 : decode cL_care 21 = .ok (.iload 6, 2) := by decide +kernel
theorem dL_care_23 : decode cL_care 23 = .ok (.ifCond .eq 24, 3) := by decide +kernel
theorem dL_care_26 : decode cL_care 26 = .ok (.aload_n 0, 1) := by decide +kernel
theorem dL_care_27 : decode cL_care 27 = .ok (.bipush 8, 2) := by decide +kernel
theorem dL_care_29 : decode cL_care 29 = .ok (.iaload, 1) := by decide +kernel
theorem dL_care_30 : decode cL_care 30 = .ok (.iconst 1, 1) := by decide +kernel
theorem dL_care_31 : decode cL_care 31 = .ok (.if_icmp .ne 16, 3) := by decide +kernel
theorem dL_care_34 : decode cL_care 34 = .ok (.iload 5, 2) := by decide +kernel
theorem dL_care_36 : decode cL_care 36 = .ok (.ifCond .eq 11, 3) := by decide +kernel
theorem dL_care_39 : decode cL_care 39 = .ok (.aload_n 0, 1) := by decide +kernel
theorem dL_care_40 : decode cL_care 40 = .ok (.aload_n 1, 1) := by decide +kernel
theorem dL_care_41 : decode cL_care 41 = .ok (.aload_n 2, 1) := by decide +kernel
theorem dL_care_42 : decode cL_care 42 = .ok (.iload 4, 2) := by decide +kernel
theorem dL_care_44 : decode cL_care 44 = .ok (.invokestatic 23, 3) := by decide +kernel
theorem dL_care_47 : decode cL_care 47 = .ok (.iload 6, 2) := by decide +kernel
theorem dL_care_49 : decode cL_care 49 = .ok (.ifCond .eq 24, 3) := by decide +kernel
theorem dL_care_52 : decode cL_care 52 = .ok (.aload_n 0, 1) := by decide +kernel
theorem dL_care_53 : decode cL_care 53 = .ok (.bipush 8, 2) := by decide +kernel
theorem dL_care_55 : decode cL_care 55 = .ok (.iaload, 1) := by decide +kernel
theorem dL_care_56 : decode cL_care 56 = .ok (.iconst 2, 1) := by decide +kernel
theorem dL_care_57 : decode cL_care 57 = .ok (.if_icmp .ne 16, 3) := by decide +kernel
theorem dL_care_60 : decode cL_care 60 = .ok (.iload 4, 2) := by decide +kernel
theorem dL_care_62 : decode cL_care 62 = .ok (.iload_n 3, 1) := by decide +kernel
theorem dL_care_63 : decode cL_care 63 = .ok (.if_icmp .eq 10, 3) := by decide +kernel
theorem dL_care_66 : decode cL_care 66 = .ok (.aload_n 0, 1) := by decide +kernel
theorem dL_care_67 : decode cL_care 67 = .ok (.aload_n 1, 1) := by decide +kernel
theorem dL_care_68 : decode cL_care 68 = .ok (.aload_n 2, 1) := by decide +kernel
theorem dL_care_69 : decode cL_care 69 = .ok (.iload_n 3, 1) := by decide +kernel
theorem dL_care_70 : decode cL_care 70 = .ok (.invokestatic 23, 3) := by decide +kernel
theorem dL_care_73 : decode cL_care 73 = .ok (.return_, 1) := by decide +kernel
theorem dL_writeRoot_0 : decode cL_writeRoot 0 = .ok (.aload_n 3, 1) := by decide +kernel
theorem dL_writeRoot_1 : decode cL_writeRoot 1 = .ok (.iload 4, 2) := by decide +kernel
theorem dL_writeRoot_3 : decode cL_writeRoot 3 = .ok (.iaload, 1) := by decide +kernel
theorem dL_writeRoot_4 : decode cL_writeRoot 4 = .ok (.istore 6, 2) := by decide +kernel
theorem dL_writeRoot_6 : decode cL_writeRoot 6 = .ok (.aload_n 3, 1) := by decide +kernel
theorem dL_writeRoot_7 : decode cL_writeRoot 7 = .ok (.iload 4, 2) := by decide +kernel
theorem dL_writeRoot_9 : decode cL_writeRoot 9 = .ok (.iload 5, 2) := by decide +kernel
theorem dL_writeRoot_11 : decode cL_writeRoot 11 = .ok (.iastore, 1) := by decide +kernel
theorem dL_writeRoot_12 : decode cL_writeRoot 12 = .ok (.aload_n 0, 1) := by decide +kernel
theorem dL_writeRoot_13 : decode cL_writeRoot 13 = .ok (.aload_n 1, 1) := by decide +kernel
theorem dL_writeRoot_14 : decode cL_writeRoot 14 = .ok (.aload_n 2, 1) := by decide +kernel
theorem dL_writeRoot_15 : decode cL_writeRoot 15 = .ok (.iload 6, 2) := by decide +kernel
theorem dL_writeRoot_17 : decode cL_writeRoot 17 = .ok (.iload 5, 2) := by decide +kernel
theorem dL_writeRoot_19 : decode cL_writeRoot 19 = .ok (.iconst 1, 1) := by decide +kernel
theorem dL_writeRoot_20 : decode cL_writeRoot 20 = .ok (.invokestatic 27, 3) := by decide +kernel
theorem dL_writeRoot_23 : decode cL_writeRoot 23 = .ok (.iload 6, 2) := by decide +kernel
theorem dL_writeRoot_25 : decode cL_writeRoot 25 = .ok (.ireturn, 1) := by decide +kernel
theorem dL_start_0 : decode cL_start 0 = .ok (.aload_n 0, 1) := by decide +kernel
theorem dL_start_1 : decode cL_start 1 = .ok (.iconst 0, 1) := by decide +kernel
theorem dL_start_2 : decode cL_start 2 = .ok (.iconst 1, 1) := by decide +kernel
theorem dL_start_3 : decode cL_start 3 = .ok (.iastore, 1) := by decide +kernel
theorem dL_start_4 : decode cL_start 4 = .ok (.aload_n 0, 1) := by decide +kernel
theorem dL_start_5 : decode cL_start 5 = .ok (.iconst 2, 1) := by decide +kernel
theorem dL_start_6 : decode cL_start 6 = .ok (.dup2, 1) := by decide +kernel
theorem dL_start_7 : decode cL_start 7 = .ok (.iaload, 1) := by decide +kernel
theorem dL_start_8 : decode cL_start 8 = .ok (.iconst 1, 1) := by decide +kernel
theorem dL_start_9 : decode cL_start 9 = .ok (.iadd, 1) := by decide +kernel
theorem dL_start_10 : decode cL_start 10 = .ok (.iastore, 1) := by decide +kernel
theorem dL_start_11 : decode cL_start 11 = .ok (.aload_n 0, 1) := by decide +kernel
theorem dL_start_12 : decode cL_start 12 = .ok (.bipush 6, 2) := by decide +kernel
theorem dL_start_14 : decode cL_start 14 = .ok (.iconst 0, 1) := by decide +kernel
theorem dL_start_15 : decode cL_start 15 = .ok (.iastore, 1) := by decide +kernel
theorem dL_start_16 : decode cL_start 16 = .ok (.aload_n 0, 1) := by decide +kernel
theorem dL_start_17 : decode cL_start 17 = .ok (.bipush 7, 2) := by decide +kernel
theorem dL_start_19 : decode cL_start 19 = .ok (.iconst 0, 1) := by decide +kernel
theorem dL_start_20 : decode cL_start 20 = .ok (.iastore, 1) := by decide +kernel
theorem dL_start_21 : decode cL_start 21 = .ok (.aload_n 0, 1) := by decide +kernel
theorem dL_start_22 : decode cL_start 22 = .ok (.bipush 10, 2) := by decide +kernel
theorem dL_start_24 : decode cL_start 24 = .ok (.iconst 0, 1) := by decide +kernel
theorem dL_start_25 : decode cL_start 25 = .ok (.iastore, 1) := by decide +kernel
theorem dL_start_26 : decode cL_start 26 = .ok (.iconst 0, 1) := by decide +kernel
theorem dL_start_27 : decode cL_start 27 = .ok (.istore 6, 2) := by decide +kernel
theorem dL_start_29 : decode cL_start 29 = .ok (.iload 6, 2) := by decide +kernel
theorem dL_start_31 : decode cL_start 31 = .ok (.bipush 24, 2) := by decide +kernel
theorem dL_start_33 : decode cL_start 33 = .ok (.if_icmp .ge 33, 3) := by decide +kernel
theorem dL_start_36 : decode cL_start 36 = .ok (.aload_n 1, 1) := by decide +kernel
theorem dL_start_37 : decode cL_start 37 = .ok (.iload 6, 2) := by decide +kernel
theorem dL_start_39 : decode cL_start 39 = .ok (.aload_n 1, 1) := by decide +kernel
theorem dL_start_40 : decode cL_start 40 = .ok (.iload 6, 2) := by decide +kernel
theorem dL_start_42 : decode cL_start 42 = .ok (.iaload, 1) := by decide +kernel
theorem dL_start_43 : decode cL_start 43 = .ok (.ifCond .ge 7, 3) := by decide +kernel
theorem dL_start_46 : decode cL_start 46 = .ok (.iconst (-1), 1) := by decide +kernel
theorem dL_start_47 : decode cL_start 47 = .ok (.goto 4, 3) := by decide +kernel
theorem dL_start_50 : decode cL_start 50 = .ok (.iconst 0, 1) := by decide +kernel
theorem dL_start_51 : decode cL_start 51 = .ok (.iastore, 1) := by decide +kernel
theorem dL_start_52 : decode cL_start 52 = .ok (.aload_n 2, 1) := by decide +kernel
theorem dL_start_53 : decode cL_start 53 = .ok (.iload 6, 2) := by decide +kernel
theorem dL_start_55 : decode cL_start 55 = .ok (.dup2, 1) := by decide +kernel
theorem dL_start_56 : decode cL_start 56 = .ok (.iaload, 1) := by decide +kernel
theorem dL_start_57 : decode cL_start 57 = .ok (.iconst 1, 1) := by decide +kernel
theorem dL_start_58 : decode cL_start 58 = .ok (.iadd, 1) := by decide +kernel
theorem dL_start_59 : decode cL_start 59 = .ok (.iastore, 1) := by decide +kernel
theorem dL_start_60 : decode cL_start 60 = .ok (.iinc 6 1, 3) := by decide +kernel
theorem dL_start_63 : decode cL_start 63 = .ok (.goto (-34), 3) := by decide +kernel
theorem dL_start_66 : decode cL_start 66 = .ok (.iconst 0, 1) := by decide +kernel
theorem dL_start_67 : decode cL_start 67 = .ok (.istore 6, 2) := by decide +kernel
theorem dL_start_69 : decode cL_start 69 = .ok (.iload 6, 2) := by decide +kernel
theorem dL_start_71 : decode cL_start 71 = .ok (.iconst 4, 1) := by decide +kernel
theorem dL_start_72 : decode cL_start 72 = .ok (.if_icmp .ge 21, 3) := by decide +kernel
theorem dL_start_75 : decode cL_start 75 = .ok (.aload_n 0, 1) := by decide +kernel
theorem dL_start_76 : decode cL_start 76 = .ok (.aload_n 1, 1) := by decide +kernel
theorem dL_start_77 : decode cL_start 77 = .ok (.aload 4, 2) := by decide +kernel
theorem dL_start_79 : decode cL_start 79 = .ok (.aload 5, 2) := by decide +kernel
theorem dL_start_81 : decode cL_start 81 = .ok (.iload 6, 2) := by decide +kernel
theorem dL_start_83 : decode cL_start 83 = .ok (.iaload, 1) := by decide +kernel
theorem dL_start_84 : decode cL_start 84 = .ok (.invokestatic 23, 3) := by decide +kernel
theorem dL_start_87 : decode cL_start 87 = .ok (.iinc 6 1, 3) := by decide +kernel
theorem dL_start_90 : decode cL_start 90 = .ok (.goto (-21), 3) := by decide +kernel
theorem dL_start_93 : decode cL_start 93 = .ok (.iconst 0, 1) := by decide +kernel
theorem dL_start_94 : decode cL_start 94 = .ok (.istore 6, 2) := by decide +kernel
theorem dL_start_96 : decode cL_start 96 = .ok (.iload 6, 2) := by decide +kernel
theorem dL_start_98 : decode cL_start 98 = .ok (.aload_n 0, 1) := by decide +kernel
theorem dL_start_99 : decode cL_start 99 = .ok (.bipush 9, 2) := by decide +kernel
theorem dL_start_101 : decode cL_start 101 = .ok (.iaload, 1) := by decide +kernel
theorem dL_start_102 : decode cL_start 102 = .ok (.if_icmp .ge 20, 3) := by decide +kernel
theorem dL_start_105 : decode cL_start 105 = .ok (.aload_n 0, 1) := by decide +kernel
theorem dL_start_106 : decode cL_start 106 = .ok (.aload_n 1, 1) := by decide +kernel
theorem dL_start_107 : decode cL_start 107 = .ok (.aload 4, 2) := by decide +kernel
theorem dL_start_109 : decode cL_start 109 = .ok (.aload_n 3, 1) := by decide +kernel
theorem dL_start_110 : decode cL_start 110 = .ok (.iload 6, 2) := by decide +kernel
theorem dL_start_112 : decode cL_start 112 = .ok (.iaload, 1) := by decide +kernel
theorem dL_start_113 : decode cL_start 113 = .ok (.invokestatic 23, 3) := by decide +kernel
theorem dL_start_116 : decode cL_start 116 = .ok (.iinc 6 1, 3) := by decide +kernel
theorem dL_start_119 : decode cL_start 119 = .ok (.goto (-23), 3) := by decide +kernel
theorem dL_start_122 : decode cL_start 122 = .ok (.return_, 1) := by decide +kernel
theorem dL_sweep_0 : decode cL_sweep 0 = .ok (.aload_n 0, 1) := by decide +kernel
theorem dL_sweep_1 : decode cL_sweep 1 = .ok (.iconst 1, 1) := by decide +kernel
theorem dL_sweep_2 : decode cL_sweep 2 = .ok (.iaload, 1) := by decide +kernel
theorem dL_sweep_3 : decode cL_sweep 3 = .ok (.bipush 24, 2) := by decide +kernel
theorem dL_sweep_5 : decode cL_sweep 5 = .ok (.if_icmp .ge 21, 3) := by decide +kernel
theorem dL_sweep_8 : decode cL_sweep 8 = .ok (.aload_n 2, 1) := by decide +kernel
theorem dL_sweep_9 : decode cL_sweep 9 = .ok (.aload_n 0, 1) := by decide +kernel
theorem dL_sweep_10 : decode cL_sweep 10 = .ok (.iconst 1, 1) := by decide +kernel
theorem dL_sweep_11 : decode cL_sweep 11 = .ok (.iaload, 1) := by decide +kernel
theorem dL_sweep_12 : decode cL_sweep 12 = .ok (.iaload, 1) := by decide +kernel
theorem dL_sweep_13 : decode cL_sweep 13 = .ok (.ifCond .ge 13, 3) := by decide +kernel
theorem dL_sweep_16 : decode cL_sweep 16 = .ok (.aload_n 0, 1) := by decide +kernel
theorem dL_sweep_17 : decode cL_sweep 17 = .ok (.iconst 1, 1) := by decide +kernel
theorem dL_sweep_18 : decode cL_sweep 18 = .ok (.dup2, 1) := by decide +kernel
theorem dL_sweep_19 : decode cL_sweep 19 = .ok (.iaload, 1) := by decide +kernel
theorem dL_sweep_20 : decode cL_sweep 20 = .ok (.iconst 1, 1) := by decide +kernel
theorem dL_sweep_21 : decode cL_sweep 21 = .ok (.iadd, 1) := by decide +kernel
theorem dL_sweep_22 : decode cL_sweep 22 = .ok (.iastore, 1) := by decide +kernel
theorem dL_sweep_23 : decode cL_sweep 23 = .ok (.goto (-23), 3) := by decide +kernel
theorem dL_sweep_26 : decode cL_sweep 26 = .ok (.aload_n 0, 1) := by decide +kernel
theorem dL_sweep_27 : decode cL_sweep 27 = .ok (.iconst 1, 1) := by decide +kernel
theorem dL_sweep_28 : decode cL_sweep 28 = .ok (.iaload, 1) := by decide +kernel
theorem dL_sweep_29 : decode cL_sweep 29 = .ok (.bipush 24, 2) := by decide +kernel
theorem dL_sweep_31 : decode cL_sweep 31 = .ok (.if_icmp .ne 8, 3) := by decide +kernel
theorem dL_sweep_34 : decode cL_sweep 34 = .ok (.aload_n 0, 1) := by decide +kernel
theorem dL_sweep_35 : decode cL_sweep 35 = .ok (.iconst 0, 1) := by decide +kernel
theorem dL_sweep_36 : decode cL_sweep 36 = .ok (.iconst 0, 1) := by decide +kernel
theorem dL_sweep_37 : decode cL_sweep 37 = .ok (.iastore, 1) := by decide +kernel
theorem dL_sweep_38 : decode cL_sweep 38 = .ok (.return_, 1) := by decide +kernel
theorem dL_sweep_39 : decode cL_sweep 39 = .ok (.aload_n 0, 1) := by decide +kernel
theorem dL_sweep_40 : decode cL_sweep 40 = .ok (.iconst 1, 1) := by decide +kernel
theorem dL_sweep_41 : decode cL_sweep 41 = .ok (.iaload, 1) := by decide +kernel
theorem dL_sweep_42 : decode cL_sweep 42 = .ok (.istore 4, 2) := by decide +kernel
theorem dL_sweep_44 : decode cL_sweep 44 = .ok (.aload_n 0, 1) := by decide +kernel
theorem dL_sweep_45 : decode cL_sweep 45 = .ok (.iconst 1, 1) := by decide +kernel
theorem dL_sweep_46 : decode cL_sweep 46 = .ok (.dup2, 1) := by decide +kernel
theorem dL_sweep_47 : decode cL_sweep 47 = .ok (.iaload, 1) := by decide +kernel
theorem dL_sweep_48 : decode cL_sweep 48 = .ok (.iconst 1, 1) := by decide +kernel
theorem dL_sweep_49 : decode cL_sweep 49 = .ok (.iadd, 1) := by decide +kernel
theorem dL_sweep_50 : decode cL_sweep 50 = .ok (.iastore, 1) := by decide +kernel
theorem dL_sweep_51 : decode cL_sweep 51 = .ok (.aload_n 2, 1) := by decide +kernel
theorem dL_sweep_52 : decode cL_sweep 52 = .ok (.iload 4, 2) := by decide +kernel
theorem dL_sweep_54 : decode cL_sweep 54 = .ok (.iaload, 1) := by decide +kernel
theorem dL_sweep_55 : decode cL_sweep 55 = .ok (.ifCond .le 9, 3) := by decide +kernel
theorem dL_sweep_58 : decode cL_sweep 58 = .ok (.aload_n 2, 1) := by decide +kernel
theorem dL_sweep_59 : decode cL_sweep 59 = .ok (.iload 4, 2) := by decide +kernel
theorem dL_sweep_61 : decode cL_sweep 61 = .ok (.iconst 0, 1) := by decide +kernel
theorem dL_sweep_62 : decode cL_sweep 62 = .ok (.iastore, 1) := by decide +kernel
theorem dL_sweep_63 : decode cL_sweep 63 = .ok (.return_, 1) := by decide +kernel
theorem dL_sweep_64 : decode cL_sweep 64 = .ok (.aload_n 2, 1) := by decide +kernel
theorem dL_sweep_65 : decode cL_sweep 65 = .ok (.iload 4, 2) := by decide +kernel
theorem dL_sweep_67 : decode cL_sweep 67 = .ok (.iconst (-1), 1) := by decide +kernel
theorem dL_sweep_68 : decode cL_sweep 68 = .ok (.iastore, 1) := by decide +kernel
theorem dL_sweep_69 : decode cL_sweep 69 = .ok (.aload_n 0, 1) := by decide +kernel
theorem dL_sweep_70 : decode cL_sweep 70 = .ok (.iconst 4, 1) := by decide +kernel
theorem dL_sweep_71 : decode cL_sweep 71 = .ok (.dup2, 1) := by decide +kernel
theorem dL_sweep_72 : decode cL_sweep 72 = .ok (.iaload, 1) := by decide +kernel
theorem dL_sweep_73 : decode cL_sweep 73 = .ok (.iconst 1, 1) := by decide +kernel
theorem dL_sweep_74 : decode cL_sweep 74 = .ok (.iadd, 1) := by decide +kernel
theorem dL_sweep_75 : decode cL_sweep 75 = .ok (.iastore, 1) := by decide +kernel
theorem dL_sweep_76 : decode cL_sweep 76 = .ok (.aload_n 0, 1) := by decide +kernel
theorem dL_sweep_77 : decode cL_sweep 77 = .ok (.bipush 7, 2) := by decide +kernel
theorem dL_sweep_79 : decode cL_sweep 79 = .ok (.dup2, 1) := by decide +kernel
theorem dL_sweep_80 : decode cL_sweep 80 = .ok (.iaload, 1) := by decide +kernel
theorem dL_sweep_81 : decode cL_sweep 81 = .ok (.iconst 1, 1) := by decide +kernel
theorem dL_sweep_82 : decode cL_sweep 82 = .ok (.iload 4, 2) := by decide +kernel
theorem dL_sweep_84 : decode cL_sweep 84 = .ok (.ishl, 1) := by decide +kernel
theorem dL_sweep_85 : decode cL_sweep 85 = .ok (.ior, 1) := by decide +kernel
theorem dL_sweep_86 : decode cL_sweep 86 = .ok (.iastore, 1) := by decide +kernel
theorem dL_sweep_87 : decode cL_sweep 87 = .ok (.iconst 0, 1) := by decide +kernel
theorem dL_sweep_88 : decode cL_sweep 88 = .ok (.istore 5, 2) := by decide +kernel
theorem dL_sweep_90 : decode cL_sweep 90 = .ok (.iload 5, 2) := by decide +kernel
theorem dL_sweep_92 : decode cL_sweep 92 = .ok (.bipush 72, 2) := by decide +kernel
theorem dL_sweep_94 : decode cL_sweep 94 = .ok (.if_icmp .ge 36, 3) := by decide +kernel
theorem dL_sweep_97 : decode cL_sweep 97 = .ok (.aload_n 1, 1) := by decide +kernel
theorem dL_sweep_98 : decode cL_sweep 98 = .ok (.iload 5, 2) := by decide +kernel
theorem dL_sweep_100 : decode cL_sweep 100 = .ok (.aload_n 1, 1) := by decide +kernel
theorem dL_sweep_101 : decode cL_sweep 101 = .ok (.iload 5, 2) := by decide +kernel
theorem dL_sweep_103 : decode cL_sweep 103 = .ok (.invokestatic 9, 3) := by decide +kernel
theorem dL_sweep_106 : decode cL_sweep 106 = .ok (.iload 4, 2) := by decide +kernel
theorem dL_sweep_108 : decode cL_sweep 108 = .ok (.if_icmp .ne 7, 3) := by decide +kernel
theorem dL_sweep_111 : decode cL_sweep 111 = .ok (.iconst (-1), 1) := by decide +kernel
theorem dL_sweep_112 : decode cL_sweep 112 = .ok (.goto 9, 3) := by decide +kernel
theorem dL_sweep_115 : decode cL_sweep 115 = .ok (.aload_n 1, 1) := by decide +kernel
theorem dL_sweep_116 : decode cL_sweep 116 = .ok (.iload 5, 2) := by decide +kernel
theorem dL_sweep_118 : decode cL_sweep 118 = .ok (.invokestatic 9, 3) := by decide +kernel
theorem dL_sweep_121 : decode cL_sweep 121 = .ok (.invokestatic 31, 3) := by decide +kernel
theorem dL_sweep_124 : decode cL_sweep 124 = .ok (.iinc 5 1, 3) := by decide +kernel
theorem dL_sweep_127 : decode cL_sweep 127 = .ok (.goto (-37), 3) := by decide +kernel
theorem dL_sweep_130 : decode cL_sweep 130 = .ok (.iconst 0, 1) := by decide +kernel
theorem dL_sweep_131 : decode cL_sweep 131 = .ok (.istore 5, 2) := by decide +kernel
theorem dL_sweep_133 : decode cL_sweep 133 = .ok (.iload 5, 2) := by decide +kernel
theorem dL_sweep_135 : decode cL_sweep 135 = .ok (.bipush 8, 2) := by decide +kernel
theorem dL_sweep_137 : decode cL_sweep 137 = .ok (.if_icmp .ge 30, 3) := by decide +kernel
theorem dL_sweep_140 : decode cL_sweep 140 = .ok (.aload_n 3, 1) := by decide +kernel
theorem dL_sweep_141 : decode cL_sweep 141 = .ok (.iload 5, 2) := by decide +kernel
theorem dL_sweep_143 : decode cL_sweep 143 = .ok (.aload_n 3, 1) := by decide +kernel
theorem dL_sweep_144 : decode cL_sweep 144 = .ok (.iload 5, 2) := by decide +kernel
theorem dL_sweep_146 : decode cL_sweep 146 = .ok (.iaload, 1) := by decide +kernel
theorem dL_sweep_147 : decode cL_sweep 147 = .ok (.iload 4, 2) := by decide +kernel
theorem dL_sweep_149 : decode cL_sweep 149 = .ok (.if_icmp .ne 7, 3) := by decide +kernel
theorem dL_sweep_152 : decode cL_sweep 152 = .ok (.iconst (-1), 1) := by decide +kernel
theorem dL_sweep_153 : decode cL_sweep 153 = .ok (.goto 7, 3) := by decide +kernel
theorem dL_sweep_156 : decode cL_sweep 156 = .ok (.aload_n 3, 1) := by decide +kernel
theorem dL_sweep_157 : decode cL_sweep 157 = .ok (.iload 5, 2) := by decide +kernel
theorem dL_sweep_159 : decode cL_sweep 159 = .ok (.iaload, 1) := by decide +kernel
theorem dL_sweep_160 : decode cL_sweep 160 = .ok (.iastore, 1) := by decide +kernel
theorem dL_sweep_161 : decode cL_sweep 161 = .ok (.iinc 5 1, 3) := by decide +kernel
theorem dL_sweep_164 : decode cL_sweep 164 = .ok (.goto (-31), 3) := by decide +kernel
theorem dL_sweep_167 : decode cL_sweep 167 = .ok (.return_, 1) := by decide +kernel
theorem dL_go_0 : decode cL_go 0 = .ok (.aload_n 0, 1) := by decide +kernel
theorem dL_go_1 : decode cL_go 1 = .ok (.bipush 6, 2) := by decide +kernel
theorem dL_go_3 : decode cL_go 3 = .ok (.dup2, 1) := by decide +kernel
theorem dL_go_4 : decode cL_go 4 = .ok (.iaload, 1) := by decide +kernel
theorem dL_go_5 : decode cL_go 5 = .ok (.iconst 1, 1) := by decide +kernel
theorem dL_go_6 : decode cL_go 6 = .ok (.iadd, 1) := by decide +kernel
theorem dL_go_7 : decode cL_go 7 = .ok (.iastore, 1) := by decide +kernel
theorem dL_go_8 : decode cL_go 8 = .ok (.aload_n 0, 1) := by decide +kernel
theorem dL_go_9 : decode cL_go 9 = .ok (.iconst 0, 1) := by decide +kernel
theorem dL_go_10 : decode cL_go 10 = .ok (.iaload, 1) := by decide +kernel
theorem dL_go_11 : decode cL_go 11 = .ok (.iconst 3, 1) := by decide +kernel
theorem dL_go_12 : decode cL_go 12 = .ok (.if_icmp .ne 12, 3) := by decide +kernel
theorem dL_go_15 : decode cL_go 15 = .ok (.aload_n 0, 1) := by decide +kernel
theorem dL_go_16 : decode cL_go 16 = .ok (.aload_n 1, 1) := by decide +kernel
theorem dL_go_17 : decode cL_go 17 = .ok (.aload_n 2, 1) := by decide +kernel
theorem dL_go_18 : decode cL_go 18 = .ok (.aload 6, 2) := by decide +kernel
theorem dL_go_20 : decode cL_go 20 = .ok (.invokestatic 35, 3) := by decide +kernel
theorem dL_go_23 : decode cL_go 23 = .ok (.return_, 1) := by decide +kernel
theorem dL_go_24 : decode cL_go 24 = .ok (.aload_n 0, 1) := by decide +kernel
theorem dL_go_25 : decode cL_go 25 = .ok (.bipush 10, 2) := by decide +kernel
theorem dL_go_27 : decode cL_go 27 = .ok (.iaload, 1) := by decide +kernel
theorem dL_go_28 : decode cL_go 28 = .ok (.ifCond .le 89, 3) := by decide +kernel
theorem dL_go_31 : decode cL_go 31 = .ok (.aload 5, 2) := by decide +kernel
theorem dL_go_33 : decode cL_go 33 = .ok (.iconst 0, 1) := by decide +kernel
theorem dL_go_34 : decode cL_go 34 = .ok (.iaload, 1) := by decide +kernel
theorem dL_go_35 : decode cL_go 35 = .ok (.istore 7, 2) := by decide +kernel
theorem dL_go_37 : decode cL_go 37 = .ok (.aload_n 0, 1) := by decide +kernel
theorem dL_go_38 : decode cL_go 38 = .ok (.bipush 10, 2) := by decide +kernel
theorem dL_go_40 : decode cL_go 40 = .ok (.dup2, 1) := by decide +kernel
theorem dL_go_41 : decode cL_go 41 = .ok (.iaload, 1) := by decide +kernel
theorem dL_go_42 : decode cL_go 42 = .ok (.iconst 1, 1) := by decide +kernel
theorem dL_go_43 : decode cL_go 43 = .ok (.isub, 1) := by decide +kernel
theorem dL_go_44 : decode cL_go 44 = .ok (.iastore, 1) := by decide +kernel
theorem dL_go_45 : decode cL_go 45 = .ok (.iconst 0, 1) := by decide +kernel
theorem dL_go_46 : decode cL_go 46 = .ok (.istore 8, 2) := by decide +kernel
theorem dL_go_48 : decode cL_go 48 = .ok (.iload 8, 2) := by decide +kernel
theorem dL_go_50 : decode cL_go 50 = .ok (.aload_n 0, 1) := by decide +kernel
theorem dL_go_51 : decode cL_go 51 = .ok (.bipush 10, 2) := by decide +kernel
theorem dL_go_53 : decode cL_go 53 = .ok (.iaload, 1) := by decide +kernel
theorem dL_go_54 : decode cL_go 54 = .ok (.if_icmp .ge 21, 3) := by decide +kernel
theorem dL_go_57 : decode cL_go 57 = .ok (.aload 5, 2) := by decide +kernel
theorem dL_go_59 : decode cL_go 59 = .ok (.iload 8, 2) := by decide +kernel
theorem dL_go_61 : decode cL_go 61 = .ok (.aload 5, 2) := by decide +kernel
theorem dL_go_63 : decode cL_go 63 = .ok (.iload 8, 2) := by decide +kernel
theorem dL_go_65 : decode cL_go 65 = .ok (.iconst 1, 1) := by decide +kernel
theorem dL_go_66 : decode cL_go 66 = .ok (.iadd, 1) := by decide +kernel
theorem dL_go_67 : decode cL_go 67 = .ok (.iaload, 1) := by decide +kernel
theorem dL_go_68 : decode cL_go 68 = .ok (.iastore, 1) := by decide +kernel
theorem dL_go_69 : decode cL_go 69 = .ok (.iinc 8 1, 3) := by decide +kernel
theorem dL_go_72 : decode cL_go 72 = .ok (.goto (-24), 3) := by decide +kernel
theorem dL_go_75 : decode cL_go 75 = .ok (.iconst 3, 1) := by decide +kernel
theorem dL_go_76 : decode cL_go 76 = .ok (.iload 7, 2) := by decide +kernel
theorem dL_go_78 : decode cL_go 78 = .ok (.imul, 1) := by decide +kernel
theorem dL_go_79 : decode cL_go 79 = .ok (.istore 8, 2) := by decide +kernel
theorem dL_go_81 : decode cL_go 81 = .ok (.iload 8, 2) := by decide +kernel
theorem dL_go_83 : decode cL_go 83 = .ok (.iconst 3, 1) := by decide +kernel
theorem dL_go_84 : decode cL_go 84 = .ok (.iload 7, 2) := by decide +kernel
theorem dL_go_86 : decode cL_go 86 = .ok (.imul, 1) := by decide +kernel
theorem dL_go_87 : decode cL_go 87 = .ok (.iconst 3, 1) := by decide +kernel
theorem dL_go_88 : decode cL_go 88 = .ok (.iadd, 1) := by decide +kernel
theorem dL_go_89 : decode cL_go 89 = .ok (.if_icmp .ge 22, 3) := by decide +kernel
theorem dL_go_92 : decode cL_go 92 = .ok (.aload_n 0, 1) := by decide +kernel
theorem dL_go_93 : decode cL_go 93 = .ok (.aload_n 2, 1) := by decide +kernel
theorem dL_go_94 : decode cL_go 94 = .ok (.aload 5, 2) := by decide +kernel
theorem dL_go_96 : decode cL_go 96 = .ok (.aload_n 1, 1) := by decide +kernel
theorem dL_go_97 : decode cL_go 97 = .ok (.iload 8, 2) := by decide +kernel
theorem dL_go_99 : decode cL_go 99 = .ok (.invokestatic 9, 3) := by decide +kernel
theorem dL_go_102 : decode cL_go 102 = .ok (.invokestatic 23, 3) := by decide +kernel
theorem dL_go_105 : decode cL_go 105 = .ok (.iinc 8 1, 3) := by decide +kernel
theorem dL_go_108 : decode cL_go 108 = .ok (.goto (-27), 3) := by decide +kernel
theorem dL_go_111 : decode cL_go 111 = .ok (.aload_n 2, 1) := by decide +kernel
theorem dL_go_112 : decode cL_go 112 = .ok (.iload 7, 2) := by decide +kernel
theorem dL_go_114 : decode cL_go 114 = .ok (.iconst 2, 1) := by decide +kernel
theorem dL_go_115 : decode cL_go 115 = .ok (.iastore, 1) := by decide +kernel
theorem dL_go_116 : decode cL_go 116 = .ok (.return_, 1) := by decide +kernel
theorem dL_go_117 : decode cL_go 117 = .ok (.iconst 0, 1) := by decide +kernel
theorem dL_go_118 : decode cL_go 118 = .ok (.istore 7, 2) := by decide +kernel
theorem dL_go_120 : decode cL_go 120 = .ok (.iload 7, 2) := by decide +kernel
theorem dL_go_122 : decode cL_go 122 = .ok (.bipush 24, 2) := by decide +kernel
theorem dL_go_124 : decode cL_go 124 = .ok (.if_icmp .ge 24, 3) := by decide +kernel
theorem dL_go_127 : decode cL_go 127 = .ok (.aload_n 2, 1) := by decide +kernel
theorem dL_go_128 : decode cL_go 128 = .ok (.iload 7, 2) := by decide +kernel
theorem dL_go_130 : decode cL_go 130 = .ok (.iaload, 1) := by decide +kernel
theorem dL_go_131 : decode cL_go 131 = .ok (.ifCond .ne 11, 3) := by decide +kernel
theorem dL_go_134 : decode cL_go 134 = .ok (.aload_n 3, 1) := by decide +kernel
theorem dL_go_135 : decode cL_go 135 = .ok (.iload 7, 2) := by decide +kernel
theorem dL_go_137 : decode cL_go 137 = .ok (.iaload, 1) := by decide +kernel
theorem dL_go_138 : decode cL_go 138 = .ok (.iconst 1, 1) := by decide +kernel
theorem dL_go_139 : decode cL_go 139 = .ok (.if_icmp .eq 9, 3) := by decide +kernel
theorem dL_go_142 : decode cL_go 142 = .ok (.iinc 7 1, 3) := by decide +kernel
theorem dL_go_145 : decode cL_go 145 = .ok (.goto (-25), 3) := by decide +kernel
theorem dL_go_148 : decode cL_go 148 = .ok (.aload_n 0, 1) := by decide +kernel
theorem dL_go_149 : decode cL_go 149 = .ok (.iconst 0, 1) := by decide +kernel
theorem dL_go_150 : decode cL_go 150 = .ok (.iaload, 1) := by decide +kernel
theorem dL_go_151 : decode cL_go 151 = .ok (.iconst 1, 1) := by decide +kernel
theorem dL_go_152 : decode cL_go 152 = .ok (.if_icmp .eq 10, 3) := by decide +kernel
theorem dL_go_155 : decode cL_go 155 = .ok (.iload 7, 2) := by decide +kernel
theorem dL_go_157 : decode cL_go 157 = .ok (.bipush 24, 2) := by decide +kernel
theorem dL_go_159 : decode cL_go 159 = .ok (.if_icmp .ne 63, 3) := by decide +kernel
theorem dL_go_162 : decode cL_go 162 = .ok (.iconst 4, 1) := by decide +kernel
theorem dL_go_163 : decode cL_go 163 = .ok (.istore 8, 2) := by decide +kernel
theorem dL_go_165 : decode cL_go 165 = .ok (.iload 8, 2) := by decide +kernel
theorem dL_go_167 : decode cL_go 167 = .ok (.bipush 8, 2) := by decide +kernel
theorem dL_go_169 : decode cL_go 169 = .ok (.if_icmp .ge 41, 3) := by decide +kernel
theorem dL_go_172 : decode cL_go 172 = .ok (.aload 6, 2) := by decide +kernel
theorem dL_go_174 : decode cL_go 174 = .ok (.iload 8, 2) := by decide +kernel
theorem dL_go_176 : decode cL_go 176 = .ok (.aload 6, 2) := by decide +kernel
theorem dL_go_178 : decode cL_go 178 = .ok (.iload 8, 2) := by decide +kernel
theorem dL_go_180 : decode cL_go 180 = .ok (.iaload, 1) := by decide +kernel
theorem dL_go_181 : decode cL_go 181 = .ok (.ifCond .lt 17, 3) := by decide +kernel
theorem dL_go_184 : decode cL_go 184 = .ok (.aload_n 2, 1) := by decide +kernel
theorem dL_go_185 : decode cL_go 185 = .ok (.aload 6, 2) := by decide +kernel
theorem dL_go_187 : decode cL_go 187 = .ok (.iload 8, 2) := by decide +kernel
theorem dL_go_189 : decode cL_go 189 = .ok (.iaload, 1) := by decide +kernel
theorem dL_go_190 : decode cL_go 190 = .ok (.iaload, 1) := by decide +kernel
theorem dL_go_191 : decode cL_go 191 = .ok (.ifCond .ne 7, 3) := by decide +kernel
theorem dL_go_194 : decode cL_go 194 = .ok (.iconst (-1), 1) := by decide +kernel
theorem dL_go_195 : decode cL_go 195 = .ok (.goto 8, 3) := by decide +kernel
theorem dL_go_198 : decode cL_go 198 = .ok (.aload 6, 2) := by decide +kernel
theorem dL_go_200 : decode cL_go 200 = .ok (.iload 8, 2) := by decide +kernel
theorem dL_go_202 : decode cL_go 202 = .ok (.iaload, 1) := by decide +kernel
theorem dL_go_203 : decode cL_go 203 = .ok (.iastore, 1) := by decide +kernel
theorem dL_go_204 : decode cL_go 204 = .ok (.iinc 8 1, 3) := by decide +kernel
theorem dL_go_207 : decode cL_go 207 = .ok (.goto (-42), 3) := by decide +kernel
theorem dL_go_210 : decode cL_go 210 = .ok (.aload_n 0, 1) := by decide +kernel
theorem dL_go_211 : decode cL_go 211 = .ok (.iconst 0, 1) := by decide +kernel
theorem dL_go_212 : decode cL_go 212 = .ok (.dup2, 1) := by decide +kernel
theorem dL_go_213 : decode cL_go 213 = .ok (.iaload, 1) := by decide +kernel
theorem dL_go_214 : decode cL_go 214 = .ok (.iconst 1, 1) := by decide +kernel
theorem dL_go_215 : decode cL_go 215 = .ok (.iadd, 1) := by decide +kernel
theorem dL_go_216 : decode cL_go 216 = .ok (.iastore, 1) := by decide +kernel
theorem dL_go_217 : decode cL_go 217 = .ok (.aload_n 0, 1) := by decide +kernel
theorem dL_go_218 : decode cL_go 218 = .ok (.iconst 1, 1) := by decide +kernel
theorem dL_go_219 : decode cL_go 219 = .ok (.iconst 0, 1) := by decide +kernel
theorem dL_go_220 : decode cL_go 220 = .ok (.iastore, 1) := by decide +kernel
theorem dL_go_221 : decode cL_go 221 = .ok (.return_, 1) := by decide +kernel
theorem dL_go_222 : decode cL_go 222 = .ok (.aload_n 3, 1) := by decide +kernel
theorem dL_go_223 : decode cL_go 223 = .ok (.iload 7, 2) := by decide +kernel
theorem dL_go_225 : decode cL_go 225 = .ok (.iconst 0, 1) := by decide +kernel
theorem dL_go_226 : decode cL_go 226 = .ok (.iastore, 1) := by decide +kernel
theorem dL_go_227 : decode cL_go 227 = .ok (.aload 4, 2) := by decide +kernel
theorem dL_go_229 : decode cL_go 229 = .ok (.aload_n 0, 1) := by decide +kernel
theorem dL_go_230 : decode cL_go 230 = .ok (.bipush 9, 2) := by decide +kernel
theorem dL_go_232 : decode cL_go 232 = .ok (.iaload, 1) := by decide +kernel
theorem dL_go_233 : decode cL_go 233 = .ok (.iload 7, 2) := by decide +kernel
theorem dL_go_235 : decode cL_go 235 = .ok (.iastore, 1) := by decide +kernel
theorem dL_go_236 : decode cL_go 236 = .ok (.aload_n 0, 1) := by decide +kernel
theorem dL_go_237 : decode cL_go 237 = .ok (.bipush 9, 2) := by decide +kernel
theorem dL_go_239 : decode cL_go 239 = .ok (.dup2, 1) := by decide +kernel
theorem dL_go_240 : decode cL_go 240 = .ok (.iaload, 1) := by decide +kernel
theorem dL_go_241 : decode cL_go 241 = .ok (.iconst 1, 1) := by decide +kernel
theorem dL_go_242 : decode cL_go 242 = .ok (.iadd, 1) := by decide +kernel
theorem dL_go_243 : decode cL_go 243 = .ok (.iastore, 1) := by decide +kernel
theorem dL_go_244 : decode cL_go 244 = .ok (.aload_n 0, 1) := by decide +kernel
theorem dL_go_245 : decode cL_go 245 = .ok (.aload_n 2, 1) := by decide +kernel
theorem dL_go_246 : decode cL_go 246 = .ok (.aload 5, 2) := by decide +kernel
theorem dL_go_248 : decode cL_go 248 = .ok (.iload 7, 2) := by decide +kernel
theorem dL_go_250 : decode cL_go 250 = .ok (.invokestatic 23, 3) := by decide +kernel
theorem dL_go_253 : decode cL_go 253 = .ok (.return_, 1) := by decide +kernel
theorem dL_searches_0 : decode cL_searches 0 = .ok (.iload 9, 2) := by decide +kernel
theorem dL_searches_2 : decode cL_searches 2 = .ok (.ifCond .ne 54, 3) := by decide +kernel
theorem dL_searches_5 : decode cL_searches 5 = .ok (.aload_n 1, 1) := by decide +kernel
theorem dL_searches_6 : decode cL_searches 6 = .ok (.iconst 0, 1) := by decide +kernel
theorem dL_searches_7 : decode cL_searches 7 = .ok (.iaload, 1) := by decide +kernel
theorem dL_searches_8 : decode cL_searches 8 = .ok (.ifCond .le 18, 3) := by decide +kernel
theorem dL_searches_11 : decode cL_searches 11 = .ok (.aload_n 0, 1) := by decide +kernel
theorem dL_searches_12 : decode cL_searches 12 = .ok (.invokevirtual 39, 3) := by decide +kernel
theorem dL_searches_15 : decode cL_searches 15 = .ok (.bipush (-12), 2) := by decide +kernel
theorem dL_searches_17 : decode cL_searches 17 = .ok (.if_icmp .ne 7, 3) := by decide +kernel
theorem dL_searches_20 : decode cL_searches 20 = .ok (.iconst 1, 1) := by decide +kernel
theorem dL_searches_21 : decode cL_searches 21 = .ok (.goto 4, 3) := by decide +kernel
theorem dL_searches_24 : decode cL_searches 24 = .ok (.iconst 0, 1) := by decide +kernel
theorem dL_searches_25 : decode cL_searches 25 = .ok (.ireturn, 1) := by decide +kernel
theorem dL_searches_26 : decode cL_searches 26 = .ok (.aload_n 1, 1) := by decide +kernel
theorem dL_searches_27 : decode cL_searches 27 = .ok (.aload_n 3, 1) := by decide +kernel
theorem dL_searches_28 : decode cL_searches 28 = .ok (.aload 5, 2) := by decide +kernel
theorem dL_searches_30 : decode cL_searches 30 = .ok (.aload 6, 2) := by decide +kernel
theorem dL_searches_32 : decode cL_searches 32 = .ok (.aload 7, 2) := by decide +kernel
theorem dL_searches_34 : decode cL_searches 34 = .ok (.aload 8, 2) := by decide +kernel
theorem dL_searches_36 : decode cL_searches 36 = .ok (.invokestatic 45, 3) := by decide +kernel
theorem dL_searches_39 : decode cL_searches 39 = .ok (.aload_n 0, 1) := by decide +kernel
theorem dL_searches_40 : decode cL_searches 40 = .ok (.invokevirtual 39, 3) := by decide +kernel
theorem dL_searches_43 : decode cL_searches 43 = .ok (.aload_n 1, 1) := by decide +kernel
theorem dL_searches_44 : decode cL_searches 44 = .ok (.bipush 10, 2) := by decide +kernel
theorem dL_searches_46 : decode cL_searches 46 = .ok (.iaload, 1) := by decide +kernel
theorem dL_searches_47 : decode cL_searches 47 = .ok (.if_icmp .ne 7, 3) := by decide +kernel
theorem dL_searches_50 : decode cL_searches 50 = .ok (.iconst 1, 1) := by decide +kernel
theorem dL_searches_51 : decode cL_searches 51 = .ok (.goto 4, 3) := by decide +kernel
theorem dL_searches_54 : decode cL_searches 54 = .ok (.iconst 0, 1) := by decide +kernel
theorem dL_searches_55 : decode cL_searches 55 = .ok (.ireturn, 1) := by decide +kernel
theorem dL_searches_56 : decode cL_searches 56 = .ok (.iload 9, 2) := by decide +kernel
theorem dL_searches_58 : decode cL_searches 58 = .ok (.iconst 1, 1) := by decide +kernel
theorem dL_searches_59 : decode cL_searches 59 = .ok (.if_icmp .ne 108, 3) := by decide +kernel
theorem dL_searches_62 : decode cL_searches 62 = .ok (.iconst 1, 1) := by decide +kernel
theorem dL_searches_63 : decode cL_searches 63 = .ok (.iload 10, 2) := by decide +kernel
theorem dL_searches_65 : decode cL_searches 65 = .ok (.iload 10, 2) := by decide +kernel
theorem dL_searches_67 : decode cL_searches 67 = .ok (.iconst 5, 1) := by decide +kernel
theorem dL_searches_68 : decode cL_searches 68 = .ok (.irem, 1) := by decide +kernel
theorem dL_searches_69 : decode cL_searches 69 = .ok (.ifCond .ne 8, 3) := by decide +kernel
theorem dL_searches_72 : decode cL_searches 72 = .ok (.bipush 99, 2) := by decide +kernel
theorem dL_searches_74 : decode cL_searches 74 = .ok (.goto 4, 3) := by decide +kernel
theorem dL_searches_77 : decode cL_searches 77 = .ok (.iconst 5, 1) := by decide +kernel
theorem dL_searches_78 : decode cL_searches 78 = .ok (.irem, 1) := by decide +kernel
theorem dL_searches_79 : decode cL_searches 79 = .ok (.iadd, 1) := by decide +kernel
theorem dL_searches_80 : decode cL_searches 80 = .ok (.istore 11, 2) := by decide +kernel
theorem dL_searches_82 : decode cL_searches 82 = .ok (.aload_n 1, 1) := by decide +kernel
theorem dL_searches_83 : decode cL_searches 83 = .ok (.iconst 0, 1) := by decide +kernel
theorem dL_searches_84 : decode cL_searches 84 = .ok (.iaload, 1) := by decide +kernel
theorem dL_searches_85 : decode cL_searches 85 = .ok (.ifCond .ne 20, 3) := by decide +kernel
theorem dL_searches_88 : decode cL_searches 88 = .ok (.aload_n 0, 1) := by decide +kernel
theorem dL_searches_89 : decode cL_searches 89 = .ok (.iload 11, 2) := by decide +kernel
theorem dL_searches_91 : decode cL_searches 91 = .ok (.invokevirtual 49, 3) := by decide +kernel
theorem dL_searches_94 : decode cL_searches 94 = .ok (.bipush (-12), 2) := by decide +kernel
theorem dL_searches_96 : decode cL_searches 96 = .ok (.if_icmp .ne 7, 3) := by decide +kernel
theorem dL_searches_99 : decode cL_searches 99 = .ok (.iconst 1, 1) := by decide +kernel
theorem dL_searches_100 : decode cL_searches 100 = .ok (.goto 4, 3) := by decide +kernel
theorem dL_searches_103 : decode cL_searches 103 = .ok (.iconst 0, 1) := by decide +kernel
theorem dL_searches_104 : decode cL_searches 104 = .ok (.ireturn, 1) := by decide +kernel
theorem dL_searches_105 : decode cL_searches 105 = .ok (.aload_n 1, 1) := by decide +kernel
theorem dL_searches_106 : decode cL_searches 106 = .ok (.iconst 4, 1) := by decide +kernel
theorem dL_searches_107 : decode cL_searches 107 = .ok (.iaload, 1) := by decide +kernel
theorem dL_searches_108 : decode cL_searches 108 = .ok (.istore 12, 2) := by decide +kernel
theorem dL_searches_110 : decode cL_searches 110 = .ok (.iconst 0, 1) := by decide +kernel
theorem dL_searches_111 : decode cL_searches 111 = .ok (.istore 13, 2) := by decide +kernel
theorem dL_searches_113 : decode cL_searches 113 = .ok (.iload 13, 2) := by decide +kernel
theorem dL_searches_115 : decode cL_searches 115 = .ok (.iload 11, 2) := by decide +kernel
theorem dL_searches_117 : decode cL_searches 117 = .ok (.if_icmp .ge 29, 3) := by decide +kernel
theorem dL_searches_120 : decode cL_searches 120 = .ok (.aload_n 1, 1) := by decide +kernel
theorem dL_searches_121 : decode cL_searches 121 = .ok (.iconst 0, 1) := by decide +kernel
theorem dL_searches_122 : decode cL_searches 122 = .ok (.iaload, 1) := by decide +kernel
theorem dL_searches_123 : decode cL_searches 123 = .ok (.ifCond .le 23, 3) := by decide +kernel
theorem dL_searches_126 : decode cL_searches 126 = .ok (.aload_n 1, 1) := by decide +kernel
theorem dL_searches_127 : decode cL_searches 127 = .ok (.aload_n 2, 1) := by decide +kernel
theorem dL_searches_128 : decode cL_searches 128 = .ok (.aload_n 3, 1) := by decide +kernel
theorem dL_searches_129 : decode cL_searches 129 = .ok (.aload 4, 2) := by decide +kernel
theorem dL_searches_131 : decode cL_searches 131 = .ok (.aload 6, 2) := by decide +kernel
theorem dL_searches_133 : decode cL_searches 133 = .ok (.aload 7, 2) := by decide +kernel
theorem dL_searches_135 : decode cL_searches 135 = .ok (.aload 8, 2) := by decide +kernel
theorem dL_searches_137 : decode cL_searches 137 = .ok (.invokestatic 53, 3) := by decide +kernel
theorem dL_searches_140 : decode cL_searches 140 = .ok (.iinc 13 1, 3) := by decide +kernel
theorem dL_searches_143 : decode cL_searches 143 = .ok (.goto (-30), 3) := by decide +kernel
theorem dL_searches_146 : decode cL_searches 146 = .ok (.aload_n 0, 1) := by decide +kernel
theorem dL_searches_147 : decode cL_searches 147 = .ok (.iload 11, 2) := by decide +kernel
theorem dL_searches_149 : decode cL_searches 149 = .ok (.invokevirtual 49, 3) := by decide +kernel
theorem dL_searches_152 : decode cL_searches 152 = .ok (.aload_n 1, 1) := by decide +kernel
theorem dL_searches_153 : decode cL_searches 153 = .ok (.iconst 4, 1) := by decide +kernel
theorem dL_searches_154 : decode cL_searches 154 = .ok (.iaload, 1) := by decide +kernel
theorem dL_searches_155 : decode cL_searches 155 = .ok (.iload 12, 2) := by decide +kernel
theorem dL_searches_157 : decode cL_searches 157 = .ok (.isub, 1) := by decide +kernel
theorem dL_searches_158 : decode cL_searches 158 = .ok (.if_icmp .ne 7, 3) := by decide +kernel
theorem dL_searches_161 : decode cL_searches 161 = .ok (.iconst 1, 1) := by decide +kernel
theorem dL_searches_162 : decode cL_searches 162 = .ok (.goto 4, 3) := by decide +kernel
theorem dL_searches_165 : decode cL_searches 165 = .ok (.iconst 0, 1) := by decide +kernel
theorem dL_searches_166 : decode cL_searches 166 = .ok (.ireturn, 1) := by decide +kernel
theorem dL_searches_167 : decode cL_searches 167 = .ok (.iload 9, 2) := by decide +kernel
theorem dL_searches_169 : decode cL_searches 169 = .ok (.iconst 2, 1) := by decide +kernel
theorem dL_searches_170 : decode cL_searches 170 = .ok (.if_icmp .ne 66, 3) := by decide +kernel
theorem dL_searches_173 : decode cL_searches 173 = .ok (.iconst 0, 1) := by decide +kernel
theorem dL_searches_174 : decode cL_searches 174 = .ok (.istore 11, 2) := by decide +kernel
theorem dL_searches_176 : decode cL_searches 176 = .ok (.aload_n 1, 1) := by decide +kernel
theorem dL_searches_177 : decode cL_searches 177 = .ok (.iconst 0, 1) := by decide +kernel
theorem dL_searches_178 : decode cL_searches 178 = .ok (.iaload, 1) := by decide +kernel
theorem dL_searches_179 : decode cL_searches 179 = .ok (.ifCond .ne 16, 3) := by decide +kernel
theorem dL_searches_182 : decode cL_searches 182 = .ok (.aload_n 1, 1) := by decide +kernel
theorem dL_searches_183 : decode cL_searches 183 = .ok (.aload_n 3, 1) := by decide +kernel
theorem dL_searches_184 : decode cL_searches 184 = .ok (.aload 5, 2) := by decide +kernel
theorem dL_searches_186 : decode cL_searches 186 = .ok (.aload 6, 2) := by decide +kernel
theorem dL_searches_188 : decode cL_searches 188 = .ok (.aload 7, 2) := by decide +kernel
theorem dL_searches_190 : decode cL_searches 190 = .ok (.aload 8, 2) := by decide +kernel
theorem dL_searches_192 : decode cL_searches 192 = .ok (.invokestatic 45, 3) := by decide +kernel
theorem dL_searches_195 : decode cL_searches 195 = .ok (.aload_n 1, 1) := by decide +kernel
theorem dL_searches_196 : decode cL_searches 196 = .ok (.iconst 0, 1) := by decide +kernel
theorem dL_searches_197 : decode cL_searches 197 = .ok (.iaload, 1) := by decide +kernel
theorem dL_searches_198 : decode cL_searches 198 = .ok (.ifCond .le 23, 3) := by decide +kernel
theorem dL_searches_201 : decode cL_searches 201 = .ok (.aload_n 1, 1) := by decide +kernel
theorem dL_searches_202 : decode cL_searches 202 = .ok (.aload_n 2, 1) := by decide +kernel
theorem dL_searches_203 : decode cL_searches 203 = .ok (.aload_n 3, 1) := by decide +kernel
theorem dL_searches_204 : decode cL_searches 204 = .ok (.aload 4, 2) := by decide +kernel
theorem dL_searches_206 : decode cL_searches 206 = .ok (.aload 6, 2) := by decide +kernel
theorem dL_searches_208 : decode cL_searches 208 = .ok (.aload 7, 2) := by decide +kernel
theorem dL_searches_210 : decode cL_searches 210 = .ok (.aload 8, 2) := by decide +kernel
theorem dL_searches_212 : decode cL_searches 212 = .ok (.invokestatic 53, 3) := by decide +kernel
theorem dL_searches_215 : decode cL_searches 215 = .ok (.iinc 11 1, 3) := by decide +kernel
theorem dL_searches_218 : decode cL_searches 218 = .ok (.goto (-23), 3) := by decide +kernel
theorem dL_searches_221 : decode cL_searches 221 = .ok (.aload_n 0, 1) := by decide +kernel
theorem dL_searches_222 : decode cL_searches 222 = .ok (.invokevirtual 57, 3) := by decide +kernel
theorem dL_searches_225 : decode cL_searches 225 = .ok (.iload 11, 2) := by decide +kernel
theorem dL_searches_227 : decode cL_searches 227 = .ok (.if_icmp .ne 7, 3) := by decide +kernel
theorem dL_searches_230 : decode cL_searches 230 = .ok (.iconst 1, 1) := by decide +kernel
theorem dL_searches_231 : decode cL_searches 231 = .ok (.goto 4, 3) := by decide +kernel
theorem dL_searches_234 : decode cL_searches 234 = .ok (.iconst 0, 1) := by decide +kernel
theorem dL_searches_235 : decode cL_searches 235 = .ok (.ireturn, 1) := by decide +kernel
theorem dL_searches_236 : decode cL_searches 236 = .ok (.aload_n 1, 1) := by decide +kernel
theorem dL_searches_237 : decode cL_searches 237 = .ok (.bipush 8, 2) := by decide +kernel
theorem dL_searches_239 : decode cL_searches 239 = .ok (.iaload, 1) := by decide +kernel
theorem dL_searches_240 : decode cL_searches 240 = .ok (.istore 11, 2) := by decide +kernel
theorem dL_searches_242 : decode cL_searches 242 = .ok (.aload_n 1, 1) := by decide +kernel
theorem dL_searches_243 : decode cL_searches 243 = .ok (.bipush 8, 2) := by decide +kernel
theorem dL_searches_245 : decode cL_searches 245 = .ok (.aload_n 1, 1) := by decide +kernel
theorem dL_searches_246 : decode cL_searches 246 = .ok (.iconst 0, 1) := by decide +kernel
theorem dL_searches_247 : decode cL_searches 247 = .ok (.iaload, 1) := by decide +kernel
theorem dL_searches_248 : decode cL_searches 248 = .ok (.ifCond .le 8, 3) := by decide +kernel
theorem dL_searches_251 : decode cL_searches 251 = .ok (.iload 11, 2) := by decide +kernel
theorem dL_searches_253 : decode cL_searches 253 = .ok (.goto 9, 3) := by decide +kernel
theorem dL_searches_256 : decode cL_searches 256 = .ok (.iconst 1, 1) := by decide +kernel
theorem dL_searches_257 : decode cL_searches 257 = .ok (.iload 10, 2) := by decide +kernel
theorem dL_searches_259 : decode cL_searches 259 = .ok (.iconst 2, 1) := by decide +kernel
theorem dL_searches_260 : decode cL_searches 260 = .ok (.irem, 1) := by decide +kernel
theorem dL_searches_261 : decode cL_searches 261 = .ok (.iadd, 1) := by decide +kernel
theorem dL_searches_262 : decode cL_searches 262 = .ok (.iastore, 1) := by decide +kernel
theorem dL_searches_263 : decode cL_searches 263 = .ok (.aload_n 0, 1) := by decide +kernel
theorem dL_searches_264 : decode cL_searches 264 = .ok (.iconst 1, 1) := by decide +kernel
theorem dL_searches_265 : decode cL_searches 265 = .ok (.iload 10, 2) := by decide +kernel
theorem dL_searches_267 : decode cL_searches 267 = .ok (.iconst 2, 1) := by decide +kernel
theorem dL_searches_268 : decode cL_searches 268 = .ok (.irem, 1) := by decide +kernel
theorem dL_searches_269 : decode cL_searches 269 = .ok (.iadd, 1) := by decide +kernel
theorem dL_searches_270 : decode cL_searches 270 = .ok (.invokevirtual 60, 3) := by decide +kernel
theorem dL_searches_273 : decode cL_searches 273 = .ok (.aload_n 1, 1) := by decide +kernel
theorem dL_searches_274 : decode cL_searches 274 = .ok (.iconst 0, 1) := by decide +kernel
theorem dL_searches_275 : decode cL_searches 275 = .ok (.iaload, 1) := by decide +kernel
theorem dL_searches_276 : decode cL_searches 276 = .ok (.ifCond .le 8, 3) := by decide +kernel
theorem dL_searches_279 : decode cL_searches 279 = .ok (.bipush (-12), 2) := by decide +kernel
theorem dL_searches_281 : decode cL_searches 281 = .ok (.goto 5, 3) := by decide +kernel
theorem dL_searches_284 : decode cL_searches 284 = .ok (.iload 11, 2) := by decide +kernel
theorem dL_searches_286 : decode cL_searches 286 = .ok (.if_icmp .ne 7, 3) := by decide +kernel
theorem dL_searches_289 : decode cL_searches 289 = .ok (.iconst 1, 1) := by decide +kernel
theorem dL_searches_290 : decode cL_searches 290 = .ok (.goto 4, 3) := by decide +kernel
theorem dL_searches_293 : decode cL_searches 293 = .ok (.iconst 0, 1) := by decide +kernel
theorem dL_searches_294 : decode cL_searches 294 = .ok (.ireturn, 1) := by decide +kernel
theorem dL_writes_0 : decode cL_writes 0 = .ok (.aload_n 1, 1) := by decide +kernel
theorem dL_writes_1 : decode cL_writes 1 = .ok (.aload_n 2, 1) := by decide +kernel
theorem dL_writes_2 : decode cL_writes 2 = .ok (.aload 6, 2) := by decide +kernel
theorem dL_writes_4 : decode cL_writes 4 = .ok (.aload 8, 2) := by decide +kernel
theorem dL_writes_6 : decode cL_writes 6 = .ok (.invokestatic 63, 3) := by decide +kernel
theorem dL_writes_9 : decode cL_writes 9 = .ok (.istore 11, 2) := by decide +kernel
theorem dL_writes_11 : decode cL_writes 11 = .ok (.iload 10, 2) := by decide +kernel
theorem dL_writes_13 : decode cL_writes 13 = .ok (.bipush 24, 2) := by decide +kernel
theorem dL_writes_15 : decode cL_writes 15 = .ok (.irem, 1) := by decide +kernel
theorem dL_writes_16 : decode cL_writes 16 = .ok (.istore 12, 2) := by decide +kernel
theorem dL_writes_18 : decode cL_writes 18 = .ok (.iload 10, 2) := by decide +kernel
theorem dL_writes_20 : decode cL_writes 20 = .ok (.iconst 5, 1) := by decide +kernel
theorem dL_writes_21 : decode cL_writes 21 = .ok (.irem, 1) := by decide +kernel
theorem dL_writes_22 : decode cL_writes 22 = .ok (.ifCond .ne 7, 3) := by decide +kernel
theorem dL_writes_25 : decode cL_writes 25 = .ok (.iconst (-1), 1) := by decide +kernel
theorem dL_writes_26 : decode cL_writes 26 = .ok (.goto 11, 3) := by decide +kernel
theorem dL_writes_29 : decode cL_writes 29 = .ok (.iload 10, 2) := by decide +kernel
theorem dL_writes_31 : decode cL_writes 31 = .ok (.bipush 24, 2) := by decide +kernel
theorem dL_writes_33 : decode cL_writes 33 = .ok (.idiv, 1) := by decide +kernel
theorem dL_writes_34 : decode cL_writes 34 = .ok (.bipush 24, 2) := by decide +kernel
theorem dL_writes_36 : decode cL_writes 36 = .ok (.irem, 1) := by decide +kernel
theorem dL_writes_37 : decode cL_writes 37 = .ok (.istore 13, 2) := by decide +kernel
theorem dL_writes_39 : decode cL_writes 39 = .ok (.iconst 0, 1) := by decide +kernel
theorem dL_writes_40 : decode cL_writes 40 = .ok (.istore 14, 2) := by decide +kernel
theorem dL_writes_42 : decode cL_writes 42 = .ok (.iload 14, 2) := by decide +kernel
theorem dL_writes_44 : decode cL_writes 44 = .ok (.bipush 24, 2) := by decide +kernel
theorem dL_writes_46 : decode cL_writes 46 = .ok (.if_icmp .ge 72, 3) := by decide +kernel
theorem dL_writes_49 : decode cL_writes 49 = .ok (.iload 10, 2) := by decide +kernel
theorem dL_writes_51 : decode cL_writes 51 = .ok (.bipush 7, 2) := by decide +kernel
theorem dL_writes_53 : decode cL_writes 53 = .ok (.irem, 1) := by decide +kernel
theorem dL_writes_54 : decode cL_writes 54 = .ok (.ifCond .le 64, 3) := by decide +kernel
theorem dL_writes_57 : decode cL_writes 57 = .ok (.iload 11, 2) := by decide +kernel
theorem dL_writes_59 : decode cL_writes 59 = .ok (.iload 12, 2) := by decide +kernel
theorem dL_writes_61 : decode cL_writes 61 = .ok (.ishr, 1) := by decide +kernel
theorem dL_writes_62 : decode cL_writes 62 = .ok (.iconst 1, 1) := by decide +kernel
theorem dL_writes_63 : decode cL_writes 63 = .ok (.iand, 1) := by decide +kernel
theorem dL_writes_64 : decode cL_writes 64 = .ok (.iconst 1, 1) := by decide +kernel
theorem dL_writes_65 : decode cL_writes 65 = .ok (.if_icmp .ne 8, 3) := by decide +kernel
theorem dL_writes_68 : decode cL_writes 68 = .ok (.iload 12, 2) := by decide +kernel
theorem dL_writes_70 : decode cL_writes 70 = .ok (.goto 10, 3) := by decide +kernel
theorem dL_writes_73 : decode cL_writes 73 = .ok (.iload 12, 2) := by decide +kernel
theorem dL_writes_75 : decode cL_writes 75 = .ok (.iconst 1, 1) := by decide +kernel
theorem dL_writes_76 : decode cL_writes 76 = .ok (.iadd, 1) := by decide +kernel
theorem dL_writes_77 : decode cL_writes 77 = .ok (.bipush 24, 2) := by decide +kernel
theorem dL_writes_79 : decode cL_writes 79 = .ok (.irem, 1) := by decide +kernel
theorem dL_writes_80 : decode cL_writes 80 = .ok (.istore 12, 2) := by decide +kernel
theorem dL_writes_82 : decode cL_writes 82 = .ok (.iload 13, 2) := by decide +kernel
theorem dL_writes_84 : decode cL_writes 84 = .ok (.ifCond .lt 14, 3) := by decide +kernel
theorem dL_writes_87 : decode cL_writes 87 = .ok (.iload 11, 2) := by decide +kernel
theorem dL_writes_89 : decode cL_writes 89 = .ok (.iload 13, 2) := by decide +kernel
theorem dL_writes_91 : decode cL_writes 91 = .ok (.ishr, 1) := by decide +kernel
theorem dL_writes_92 : decode cL_writes 92 = .ok (.iconst 1, 1) := by decide +kernel
theorem dL_writes_93 : decode cL_writes 93 = .ok (.iand, 1) := by decide +kernel
theorem dL_writes_94 : decode cL_writes 94 = .ok (.iconst 1, 1) := by decide +kernel
theorem dL_writes_95 : decode cL_writes 95 = .ok (.if_icmp .ne 8, 3) := by decide +kernel
theorem dL_writes_98 : decode cL_writes 98 = .ok (.iload 13, 2) := by decide +kernel
theorem dL_writes_100 : decode cL_writes 100 = .ok (.goto 10, 3) := by decide +kernel
theorem dL_writes_103 : decode cL_writes 103 = .ok (.iload 13, 2) := by decide +kernel
theorem dL_writes_105 : decode cL_writes 105 = .ok (.iconst 1, 1) := by decide +kernel
theorem dL_writes_106 : decode cL_writes 106 = .ok (.iadd, 1) := by decide +kernel
theorem dL_writes_107 : decode cL_writes 107 = .ok (.bipush 24, 2) := by decide +kernel
theorem dL_writes_109 : decode cL_writes 109 = .ok (.irem, 1) := by decide +kernel
theorem dL_writes_110 : decode cL_writes 110 = .ok (.istore 13, 2) := by decide +kernel
theorem dL_writes_112 : decode cL_writes 112 = .ok (.iinc 14 1, 3) := by decide +kernel
theorem dL_writes_115 : decode cL_writes 115 = .ok (.goto (-73), 3) := by decide +kernel
theorem dL_writes_118 : decode cL_writes 118 = .ok (.iload 10, 2) := by decide +kernel
theorem dL_writes_120 : decode cL_writes 120 = .ok (.sipush 576, 3) := by decide +kernel
theorem dL_writes_123 : decode cL_writes 123 = .ok (.idiv, 1) := by decide +kernel
theorem dL_writes_124 : decode cL_writes 124 = .ok (.iconst 4, 1) := by decide +kernel
theorem dL_writes_125 : decode cL_writes 125 = .ok (.irem, 1) := by decide +kernel
theorem dL_writes_126 : decode cL_writes 126 = .ok (.istore 14, 2) := by decide +kernel
theorem dL_writes_128 : decode cL_writes 128 = .ok (.iload 13, 2) := by decide +kernel
theorem dL_writes_130 : decode cL_writes 130 = .ok (.ifCond .lt 14, 3) := by decide +kernel
theorem dL_writes_133 : decode cL_writes 133 = .ok (.iload 11, 2) := by decide +kernel
theorem dL_writes_135 : decode cL_writes 135 = .ok (.iload 13, 2) := by decide +kernel
theorem dL_writes_137 : decode cL_writes 137 = .ok (.ishr, 1) := by decide +kernel
theorem dL_writes_138 : decode cL_writes 138 = .ok (.iconst 1, 1) := by decide +kernel
theorem dL_writes_139 : decode cL_writes 139 = .ok (.iand, 1) := by decide +kernel
theorem dL_writes_140 : decode cL_writes 140 = .ok (.iconst 1, 1) := by decide +kernel
theorem dL_writes_141 : decode cL_writes 141 = .ok (.if_icmp .ne 7, 3) := by decide +kernel
theorem dL_writes_144 : decode cL_writes 144 = .ok (.iconst 1, 1) := by decide +kernel
theorem dL_writes_145 : decode cL_writes 145 = .ok (.goto 4, 3) := by decide +kernel
theorem dL_writes_148 : decode cL_writes 148 = .ok (.iconst 0, 1) := by decide +kernel
theorem dL_writes_149 : decode cL_writes 149 = .ok (.istore 15, 2) := by decide +kernel
theorem dL_writes_151 : decode cL_writes 151 = .ok (.iload 13, 2) := by decide +kernel
theorem dL_writes_153 : decode cL_writes 153 = .ok (.ifCond .lt 15, 3) := by decide +kernel
theorem dL_writes_156 : decode cL_writes 156 = .ok (.aload_n 3, 1) := by decide +kernel
theorem dL_writes_157 : decode cL_writes 157 = .ok (.iload 13, 2) := by decide +kernel
theorem dL_writes_159 : decode cL_writes 159 = .ok (.iaload, 1) := by decide +kernel
theorem dL_writes_160 : decode cL_writes 160 = .ok (.ifCond .ge 8, 3) := by decide +kernel
theorem dL_writes_163 : decode cL_writes 163 = .ok (.bipush (-11), 2) := by decide +kernel
theorem dL_writes_165 : decode cL_writes 165 = .ok (.goto 5, 3) := by decide +kernel
theorem dL_writes_168 : decode cL_writes 168 = .ok (.bipush (-12), 2) := by decide +kernel
theorem dL_writes_170 : decode cL_writes 170 = .ok (.istore 16, 2) := by decide +kernel
theorem dL_writes_172 : decode cL_writes 172 = .ok (.iload 9, 2) := by decide +kernel
theorem dL_writes_174 : decode cL_writes 174 = .ok (.ifCond .ne 151, 3) := by decide +kernel
theorem dL_writes_177 : decode cL_writes 177 = .ok (.iload 10, 2) := by decide +kernel
theorem dL_writes_179 : decode cL_writes 179 = .ok (.sipush 576, 3) := by decide +kernel
theorem dL_writes_182 : decode cL_writes 182 = .ok (.idiv, 1) := by decide +kernel
theorem dL_writes_183 : decode cL_writes 183 = .ok (.iconst 3, 1) := by decide +kernel
theorem dL_writes_184 : decode cL_writes 184 = .ok (.irem, 1) := by decide +kernel
theorem dL_writes_185 : decode cL_writes 185 = .ok (.istore 17, 2) := by decide +kernel
theorem dL_writes_187 : decode cL_writes 187 = .ok (.aload_n 3, 1) := by decide +kernel
theorem dL_writes_188 : decode cL_writes 188 = .ok (.iload 12, 2) := by decide +kernel
theorem dL_writes_190 : decode cL_writes 190 = .ok (.iaload, 1) := by decide +kernel
theorem dL_writes_191 : decode cL_writes 191 = .ok (.ifCond .lt 18, 3) := by decide +kernel
theorem dL_writes_194 : decode cL_writes 194 = .ok (.iload 11, 2) := by decide +kernel
theorem dL_writes_196 : decode cL_writes 196 = .ok (.iload 12, 2) := by decide +kernel
theorem dL_writes_198 : decode cL_writes 198 = .ok (.ishr, 1) := by decide +kernel
theorem dL_writes_199 : decode cL_writes 199 = .ok (.iconst 1, 1) := by decide +kernel
theorem dL_writes_200 : decode cL_writes 200 = .ok (.iand, 1) := by decide +kernel
theorem dL_writes_201 : decode cL_writes 201 = .ok (.ifCond .eq 8, 3) := by decide +kernel
theorem dL_writes_204 : decode cL_writes 204 = .ok (.iload 15, 2) := by decide +kernel
theorem dL_writes_206 : decode cL_writes 206 = .ok (.ifCond .ne 48, 3) := by decide +kernel
theorem dL_writes_209 : decode cL_writes 209 = .ok (.aload_n 0, 1) := by decide +kernel
theorem dL_writes_210 : decode cL_writes 210 = .ok (.iload 12, 2) := by decide +kernel
theorem dL_writes_212 : decode cL_writes 212 = .ok (.iload 17, 2) := by decide +kernel
theorem dL_writes_214 : decode cL_writes 214 = .ok (.iload 13, 2) := by decide +kernel
theorem dL_writes_216 : decode cL_writes 216 = .ok (.invokevirtual 67, 3) := by decide +kernel
theorem dL_writes_219 : decode cL_writes 219 = .ok (.aload_n 3, 1) := by decide +kernel
theorem dL_writes_220 : decode cL_writes 220 = .ok (.iload 12, 2) := by decide +kernel
theorem dL_writes_222 : decode cL_writes 222 = .ok (.iaload, 1) := by decide +kernel
theorem dL_writes_223 : decode cL_writes 223 = .ok (.ifCond .lt 15, 3) := by decide +kernel
theorem dL_writes_226 : decode cL_writes 226 = .ok (.iload 16, 2) := by decide +kernel
theorem dL_writes_228 : decode cL_writes 228 = .ok (.bipush (-11), 2) := by decide +kernel
theorem dL_writes_230 : decode cL_writes 230 = .ok (.if_icmp .ne 13, 3) := by decide +kernel
theorem dL_writes_233 : decode cL_writes 233 = .ok (.iload 15, 2) := by decide +kernel
theorem dL_writes_235 : decode cL_writes 235 = .ok (.ifCond .ne 8, 3) := by decide +kernel
theorem dL_writes_238 : decode cL_writes 238 = .ok (.bipush (-11), 2) := by decide +kernel
theorem dL_writes_240 : decode cL_writes 240 = .ok (.goto 5, 3) := by decide +kernel
theorem dL_writes_243 : decode cL_writes 243 = .ok (.bipush (-12), 2) := by decide +kernel
theorem dL_writes_245 : decode cL_writes 245 = .ok (.if_icmp .ne 7, 3) := by decide +kernel
theorem dL_writes_248 : decode cL_writes 248 = .ok (.iconst 1, 1) := by decide +kernel
theorem dL_writes_249 : decode cL_writes 249 = .ok (.goto 4, 3) := by decide +kernel
theorem dL_writes_252 : decode cL_writes 252 = .ok (.iconst 0, 1) := by decide +kernel
theorem dL_writes_253 : decode cL_writes 253 = .ok (.ireturn, 1) := by decide +kernel
theorem dL_writes_254 : decode cL_writes 254 = .ok (.aload_n 2, 1) := by decide +kernel
theorem dL_writes_255 : decode cL_writes 255 = .ok (.iconst 3, 1) := by decide +kernel
theorem dL_writes_256 : decode cL_writes 256 = .ok (.iload 12, 2) := by decide +kernel
theorem dL_writes_258 : decode cL_writes 258 = .ok (.imul, 1) := by decide +kernel
theorem dL_writes_259 : decode cL_writes 259 = .ok (.iload 17, 2) := by decide +kernel
theorem dL_writes_261 : decode cL_writes 261 = .ok (.iadd, 1) := by decide +kernel
theorem dL_writes_262 : decode cL_writes 262 = .ok (.invokestatic 9, 3) := by decide +kernel
theorem dL_writes_265 : decode cL_writes 265 = .ok (.istore 18, 2) := by decide +kernel
theorem dL_writes_267 : decode cL_writes 267 = .ok (.aload_n 2, 1) := by decide +kernel
theorem dL_writes_268 : decode cL_writes 268 = .ok (.iconst 3, 1) := by decide +kernel
theorem dL_writes_269 : decode cL_writes 269 = .ok (.iload 12, 2) := by decide +kernel
theorem dL_writes_271 : decode cL_writes 271 = .ok (.imul, 1) := by decide +kernel
theorem dL_writes_272 : decode cL_writes 272 = .ok (.iload 17, 2) := by decide +kernel
theorem dL_writes_274 : decode cL_writes 274 = .ok (.iadd, 1) := by decide +kernel
theorem dL_writes_275 : decode cL_writes 275 = .ok (.iload 13, 2) := by decide +kernel
theorem dL_writes_277 : decode cL_writes 277 = .ok (.invokestatic 31, 3) := by decide +kernel
theorem dL_writes_280 : decode cL_writes 280 = .ok (.aload_n 1, 1) := by decide +kernel
theorem dL_writes_281 : decode cL_writes 281 = .ok (.aload_n 3, 1) := by decide +kernel
theorem dL_writes_282 : decode cL_writes 282 = .ok (.aload 7, 2) := by decide +kernel
theorem dL_writes_284 : decode cL_writes 284 = .ok (.iload 18, 2) := by decide +kernel
theorem dL_writes_286 : decode cL_writes 286 = .ok (.iload 13, 2) := by decide +kernel
theorem dL_writes_288 : decode cL_writes 288 = .ok (.aload_n 3, 1) := by decide +kernel
theorem dL_writes_289 : decode cL_writes 289 = .ok (.iload 12, 2) := by decide +kernel
theorem dL_writes_291 : decode cL_writes 291 = .ok (.iaload, 1) := by decide +kernel
theorem dL_writes_292 : decode cL_writes 292 = .ok (.iconst 2, 1) := by decide +kernel
theorem dL_writes_293 : decode cL_writes 293 = .ok (.if_icmp .ne 7, 3) := by decide +kernel
theorem dL_writes_296 : decode cL_writes 296 = .ok (.iconst 1, 1) := by decide +kernel
theorem dL_writes_297 : decode cL_writes 297 = .ok (.goto 4, 3) := by decide +kernel
theorem dL_writes_300 : decode cL_writes 300 = .ok (.iconst 0, 1) := by decide +kernel
theorem dL_writes_301 : decode cL_writes 301 = .ok (.invokestatic 27, 3) := by decide +kernel
theorem dL_writes_304 : decode cL_writes 304 = .ok (.aload_n 0, 1) := by decide +kernel
theorem dL_writes_305 : decode cL_writes 305 = .ok (.iload 12, 2) := by decide +kernel
theorem dL_writes_307 : decode cL_writes 307 = .ok (.iload 17, 2) := by decide +kernel
theorem dL_writes_309 : decode cL_writes 309 = .ok (.iload 13, 2) := by decide +kernel
theorem dL_writes_311 : decode cL_writes 311 = .ok (.invokevirtual 67, 3) := by decide +kernel
theorem dL_writes_314 : decode cL_writes 314 = .ok (.iload 18, 2) := by decide +kernel
theorem dL_writes_316 : decode cL_writes 316 = .ok (.if_icmp .ne 7, 3) := by decide +kernel
theorem dL_writes_319 : decode cL_writes 319 = .ok (.iconst 1, 1) := by decide +kernel
theorem dL_writes_320 : decode cL_writes 320 = .ok (.goto 4, 3) := by decide +kernel
theorem dL_writes_323 : decode cL_writes 323 = .ok (.iconst 0, 1) := by decide +kernel
theorem dL_writes_324 : decode cL_writes 324 = .ok (.ireturn, 1) := by decide +kernel
theorem dL_writes_325 : decode cL_writes 325 = .ok (.iload 9, 2) := by decide +kernel
theorem dL_writes_327 : decode cL_writes 327 = .ok (.iconst 1, 1) := by decide +kernel
theorem dL_writes_328 : decode cL_writes 328 = .ok (.if_icmp .ne 43, 3) := by decide +kernel
theorem dL_writes_331 : decode cL_writes 331 = .ok (.aload_n 0, 1) := by decide +kernel
theorem dL_writes_332 : decode cL_writes 332 = .ok (.iload 14, 2) := by decide +kernel
theorem dL_writes_334 : decode cL_writes 334 = .ok (.iload 13, 2) := by decide +kernel
theorem dL_writes_336 : decode cL_writes 336 = .ok (.invokevirtual 71, 3) := by decide +kernel
theorem dL_writes_339 : decode cL_writes 339 = .ok (.iload 15, 2) := by decide +kernel
theorem dL_writes_341 : decode cL_writes 341 = .ok (.ifCond .eq 19, 3) := by decide +kernel
theorem dL_writes_344 : decode cL_writes 344 = .ok (.aload_n 1, 1) := by decide +kernel
theorem dL_writes_345 : decode cL_writes 345 = .ok (.aload_n 3, 1) := by decide +kernel
theorem dL_writes_346 : decode cL_writes 346 = .ok (.aload 7, 2) := by decide +kernel
theorem dL_writes_348 : decode cL_writes 348 = .ok (.aload 8, 2) := by decide +kernel
theorem dL_writes_350 : decode cL_writes 350 = .ok (.iload 14, 2) := by decide +kernel
theorem dL_writes_352 : decode cL_writes 352 = .ok (.iload 13, 2) := by decide +kernel
theorem dL_writes_354 : decode cL_writes 354 = .ok (.invokestatic 75, 3) := by decide +kernel
theorem dL_writes_357 : decode cL_writes 357 = .ok (.goto 5, 3) := by decide +kernel
theorem dL_writes_360 : decode cL_writes 360 = .ok (.iload 16, 2) := by decide +kernel
theorem dL_writes_362 : decode cL_writes 362 = .ok (.if_icmp .ne 7, 3) := by decide +kernel
theorem dL_writes_365 : decode cL_writes 365 = .ok (.iconst 1, 1) := by decide +kernel
theorem dL_writes_366 : decode cL_writes 366 = .ok (.goto 4, 3) := by decide +kernel
theorem dL_writes_369 : decode cL_writes 369 = .ok (.iconst 0, 1) := by decide +kernel
theorem dL_writes_370 : decode cL_writes 370 = .ok (.ireturn, 1) := by decide +kernel
theorem dL_writes_371 : decode cL_writes 371 = .ok (.iload 9, 2) := by decide +kernel
theorem dL_writes_373 : decode cL_writes 373 = .ok (.iconst 2, 1) := by decide +kernel
theorem dL_writes_374 : decode cL_writes 374 = .ok (.if_icmp .ne 60, 3) := by decide +kernel
theorem dL_writes_377 : decode cL_writes 377 = .ok (.aload 8, 2) := by decide +kernel
theorem dL_writes_379 : decode cL_writes 379 = .ok (.iconst 4, 1) := by decide +kernel
theorem dL_writes_380 : decode cL_writes 380 = .ok (.iload 14, 2) := by decide +kernel
theorem dL_writes_382 : decode cL_writes 382 = .ok (.iadd, 1) := by decide +kernel
theorem dL_writes_383 : decode cL_writes 383 = .ok (.iaload, 1) := by decide +kernel
theorem dL_writes_384 : decode cL_writes 384 = .ok (.istore 17, 2) := by decide +kernel
theorem dL_writes_386 : decode cL_writes 386 = .ok (.aload 8, 2) := by decide +kernel
theorem dL_writes_388 : decode cL_writes 388 = .ok (.iconst 4, 1) := by decide +kernel
theorem dL_writes_389 : decode cL_writes 389 = .ok (.iload 14, 2) := by decide +kernel
theorem dL_writes_391 : decode cL_writes 391 = .ok (.iadd, 1) := by decide +kernel
theorem dL_writes_392 : decode cL_writes 392 = .ok (.iload 15, 2) := by decide +kernel
theorem dL_writes_394 : decode cL_writes 394 = .ok (.ifCond .eq 8, 3) := by decide +kernel
theorem dL_writes_397 : decode cL_writes 397 = .ok (.iload 13, 2) := by decide +kernel
theorem dL_writes_399 : decode cL_writes 399 = .ok (.goto 5, 3) := by decide +kernel
theorem dL_writes_402 : decode cL_writes 402 = .ok (.iload 17, 2) := by decide +kernel
theorem dL_writes_404 : decode cL_writes 404 = .ok (.iastore, 1) := by decide +kernel
theorem dL_writes_405 : decode cL_writes 405 = .ok (.aload_n 0, 1) := by decide +kernel
theorem dL_writes_406 : decode cL_writes 406 = .ok (.iload 14, 2) := by decide +kernel
theorem dL_writes_408 : decode cL_writes 408 = .ok (.iload 13, 2) := by decide +kernel
theorem dL_writes_410 : decode cL_writes 410 = .ok (.invokevirtual 79, 3) := by decide +kernel
theorem dL_writes_413 : decode cL_writes 413 = .ok (.iload 15, 2) := by decide +kernel
theorem dL_writes_415 : decode cL_writes 415 = .ok (.ifCond .eq 8, 3) := by decide +kernel
theorem dL_writes_418 : decode cL_writes 418 = .ok (.iload 17, 2) := by decide +kernel
theorem dL_writes_420 : decode cL_writes 420 = .ok (.goto 5, 3) := by decide +kernel
theorem dL_writes_423 : decode cL_writes 423 = .ok (.iload 16, 2) := by decide +kernel
theorem dL_writes_425 : decode cL_writes 425 = .ok (.if_icmp .ne 7, 3) := by decide +kernel
theorem dL_writes_428 : decode cL_writes 428 = .ok (.iconst 1, 1) := by decide +kernel
theorem dL_writes_429 : decode cL_writes 429 = .ok (.goto 4, 3) := by decide +kernel
theorem dL_writes_432 : decode cL_writes 432 = .ok (.iconst 0, 1) := by decide +kernel
theorem dL_writes_433 : decode cL_writes 433 = .ok (.ireturn, 1) := by decide +kernel
theorem dL_writes_434 : decode cL_writes 434 = .ok (.iload 9, 2) := by decide +kernel
theorem dL_writes_436 : decode cL_writes 436 = .ok (.iconst 3, 1) := by decide +kernel
theorem dL_writes_437 : decode cL_writes 437 = .ok (.if_icmp .ne 98, 3) := by decide +kernel
theorem dL_writes_440 : decode cL_writes 440 = .ok (.iload 10, 2) := by decide +kernel
theorem dL_writes_442 : decode cL_writes 442 = .ok (.iconst 4, 1) := by decide +kernel
theorem dL_writes_443 : decode cL_writes 443 = .ok (.irem, 1) := by decide +kernel
theorem dL_writes_444 : decode cL_writes 444 = .ok (.istore 17, 2) := by decide +kernel
theorem dL_writes_446 : decode cL_writes 446 = .ok (.aload 8, 2) := by decide +kernel
theorem dL_writes_448 : decode cL_writes 448 = .ok (.iconst 4, 1) := by decide +kernel
theorem dL_writes_449 : decode cL_writes 449 = .ok (.iload 17, 2) := by decide +kernel
theorem dL_writes_451 : decode cL_writes 451 = .ok (.iadd, 1) := by decide +kernel
theorem dL_writes_452 : decode cL_writes 452 = .ok (.iaload, 1) := by decide +kernel
theorem dL_writes_453 : decode cL_writes 453 = .ok (.istore 18, 2) := by decide +kernel
theorem dL_writes_455 : decode cL_writes 455 = .ok (.iload 18, 2) := by decide +kernel
theorem dL_writes_457 : decode cL_writes 457 = .ok (.ifCond .ge 22, 3) := by decide +kernel
theorem dL_writes_460 : decode cL_writes 460 = .ok (.aload_n 0, 1) := by decide +kernel
theorem dL_writes_461 : decode cL_writes 461 = .ok (.iload 17, 2) := by decide +kernel
theorem dL_writes_463 : decode cL_writes 463 = .ok (.iload 14, 2) := by decide +kernel
theorem dL_writes_465 : decode cL_writes 465 = .ok (.invokevirtual 82, 3) := by decide +kernel
theorem dL_writes_468 : decode cL_writes 468 = .ok (.bipush (-14), 2) := by decide +kernel
theorem dL_writes_470 : decode cL_writes 470 = .ok (.if_icmp .ne 7, 3) := by decide +kernel
theorem dL_writes_473 : decode cL_writes 473 = .ok (.iconst 1, 1) := by decide +kernel
theorem dL_writes_474 : decode cL_writes 474 = .ok (.goto 4, 3) := by decide +kernel
theorem dL_writes_477 : decode cL_writes 477 = .ok (.iconst 0, 1) := by decide +kernel
theorem dL_writes_478 : decode cL_writes 478 = .ok (.ireturn, 1) := by decide +kernel
theorem dL_writes_479 : decode cL_writes 479 = .ok (.aload_n 1, 1) := by decide +kernel
theorem dL_writes_480 : decode cL_writes 480 = .ok (.aload_n 3, 1) := by decide +kernel
theorem dL_writes_481 : decode cL_writes 481 = .ok (.aload 7, 2) := by decide +kernel
theorem dL_writes_483 : decode cL_writes 483 = .ok (.aload 8, 2) := by decide +kernel
theorem dL_writes_485 : decode cL_writes 485 = .ok (.iload 14, 2) := by decide +kernel
theorem dL_writes_487 : decode cL_writes 487 = .ok (.iload 18, 2) := by decide +kernel
theorem dL_writes_489 : decode cL_writes 489 = .ok (.invokestatic 75, 3) := by decide +kernel
theorem dL_writes_492 : decode cL_writes 492 = .ok (.pop, 1) := by decide +kernel
theorem dL_writes_493 : decode cL_writes 493 = .ok (.aload_n 1, 1) := by decide +kernel
theorem dL_writes_494 : decode cL_writes 494 = .ok (.iconst 0, 1) := by decide +kernel
theorem dL_writes_495 : decode cL_writes 495 = .ok (.iaload, 1) := by decide +kernel
theorem dL_writes_496 : decode cL_writes 496 = .ok (.iconst 1, 1) := by decide +kernel
theorem dL_writes_497 : decode cL_writes 497 = .ok (.if_icmp .eq 10, 3) := by decide +kernel
theorem dL_writes_500 : decode cL_writes 500 = .ok (.aload_n 1, 1) := by decide +kernel
theorem dL_writes_501 : decode cL_writes 501 = .ok (.iconst 0, 1) := by decide +kernel
theorem dL_writes_502 : decode cL_writes 502 = .ok (.iaload, 1) := by decide +kernel
theorem dL_writes_503 : decode cL_writes 503 = .ok (.iconst 2, 1) := by decide +kernel
theorem dL_writes_504 : decode cL_writes 504 = .ok (.if_icmp .ne 12, 3) := by decide +kernel
theorem dL_writes_507 : decode cL_writes 507 = .ok (.aload_n 1, 1) := by decide +kernel
theorem dL_writes_508 : decode cL_writes 508 = .ok (.aload_n 3, 1) := by decide +kernel
theorem dL_writes_509 : decode cL_writes 509 = .ok (.aload 7, 2) := by decide +kernel
theorem dL_writes_511 : decode cL_writes 511 = .ok (.iload 18, 2) := by decide +kernel
theorem dL_writes_513 : decode cL_writes 513 = .ok (.invokestatic 23, 3) := by decide +kernel
theorem dL_writes_516 : decode cL_writes 516 = .ok (.aload_n 0, 1) := by decide +kernel
theorem dL_writes_517 : decode cL_writes 517 = .ok (.iload 17, 2) := by decide +kernel
theorem dL_writes_519 : decode cL_writes 519 = .ok (.iload 14, 2) := by decide +kernel
theorem dL_writes_521 : decode cL_writes 521 = .ok (.invokevirtual 82, 3) := by decide +kernel
theorem dL_writes_524 : decode cL_writes 524 = .ok (.iload 18, 2) := by decide +kernel
theorem dL_writes_526 : decode cL_writes 526 = .ok (.if_icmp .ne 7, 3) := by decide +kernel
theorem dL_writes_529 : decode cL_writes 529 = .ok (.iconst 1, 1) := by decide +kernel
theorem dL_writes_530 : decode cL_writes 530 = .ok (.goto 4, 3) := by decide +kernel
theorem dL_writes_533 : decode cL_writes 533 = .ok (.iconst 0, 1) := by decide +kernel
theorem dL_writes_534 : decode cL_writes 534 = .ok (.ireturn, 1) := by decide +kernel
theorem dL_writes_535 : decode cL_writes 535 = .ok (.iload 9, 2) := by decide +kernel
theorem dL_writes_537 : decode cL_writes 537 = .ok (.iconst 4, 1) := by decide +kernel
theorem dL_writes_538 : decode cL_writes 538 = .ok (.if_icmp .ne 121, 3) := by decide +kernel
theorem dL_writes_541 : decode cL_writes 541 = .ok (.aload_n 3, 1) := by decide +kernel
theorem dL_writes_542 : decode cL_writes 542 = .ok (.iload 12, 2) := by decide +kernel
theorem dL_writes_544 : decode cL_writes 544 = .ok (.iaload, 1) := by decide +kernel
theorem dL_writes_545 : decode cL_writes 545 = .ok (.ifCond .lt 22, 3) := by decide +kernel
theorem dL_writes_548 : decode cL_writes 548 = .ok (.iload 11, 2) := by decide +kernel
theorem dL_writes_550 : decode cL_writes 550 = .ok (.iload 12, 2) := by decide +kernel
theorem dL_writes_552 : decode cL_writes 552 = .ok (.ishr, 1) := by decide +kernel
theorem dL_writes_553 : decode cL_writes 553 = .ok (.iconst 1, 1) := by decide +kernel
theorem dL_writes_554 : decode cL_writes 554 = .ok (.iand, 1) := by decide +kernel
theorem dL_writes_555 : decode cL_writes 555 = .ok (.ifCond .eq 12, 3) := by decide +kernel
theorem dL_writes_558 : decode cL_writes 558 = .ok (.aload 4, 2) := by decide +kernel
theorem dL_writes_560 : decode cL_writes 560 = .ok (.iload 12, 2) := by decide +kernel
theorem dL_writes_562 : decode cL_writes 562 = .ok (.iaload, 1) := by decide +kernel
theorem dL_writes_563 : decode cL_writes 563 = .ok (.iconst 1, 1) := by decide +kernel
theorem dL_writes_564 : decode cL_writes 564 = .ok (.if_icmp .ne 32, 3) := by decide +kernel
theorem dL_writes_567 : decode cL_writes 567 = .ok (.aload_n 0, 1) := by decide +kernel
theorem dL_writes_568 : decode cL_writes 568 = .ok (.iload 12, 2) := by decide +kernel
theorem dL_writes_570 : decode cL_writes 570 = .ok (.invokevirtual 85, 3) := by decide +kernel
theorem dL_writes_573 : decode cL_writes 573 = .ok (.aload_n 3, 1) := by decide +kernel
theorem dL_writes_574 : decode cL_writes 574 = .ok (.iload 12, 2) := by decide +kernel
theorem dL_writes_576 : decode cL_writes 576 = .ok (.iaload, 1) := by decide +kernel
theorem dL_writes_577 : decode cL_writes 577 = .ok (.ifCond .ge 8, 3) := by decide +kernel
theorem dL_writes_580 : decode cL_writes 580 = .ok (.bipush (-11), 2) := by decide +kernel
theorem dL_writes_582 : decode cL_writes 582 = .ok (.goto 5, 3) := by decide +kernel
theorem dL_writes_585 : decode cL_writes 585 = .ok (.bipush (-12), 2) := by decide +kernel
theorem dL_writes_587 : decode cL_writes 587 = .ok (.if_icmp .ne 7, 3) := by decide +kernel
theorem dL_writes_590 : decode cL_writes 590 = .ok (.iconst 1, 1) := by decide +kernel
theorem dL_writes_591 : decode cL_writes 591 = .ok (.goto 4, 3) := by decide +kernel
theorem dL_writes_594 : decode cL_writes 594 = .ok (.iconst 0, 1) := by decide +kernel
theorem dL_writes_595 : decode cL_writes 595 = .ok (.ireturn, 1) := by decide +kernel
theorem dL_writes_596 : decode cL_writes 596 = .ok (.aload 4, 2) := by decide +kernel
theorem dL_writes_598 : decode cL_writes 598 = .ok (.iload 12, 2) := by decide +kernel
theorem dL_writes_600 : decode cL_writes 600 = .ok (.iconst 1, 1) := by decide +kernel
theorem dL_writes_601 : decode cL_writes 601 = .ok (.iastore, 1) := by decide +kernel
theorem dL_writes_602 : decode cL_writes 602 = .ok (.iconst 0, 1) := by decide +kernel
theorem dL_writes_603 : decode cL_writes 603 = .ok (.istore 17, 2) := by decide +kernel
theorem dL_writes_605 : decode cL_writes 605 = .ok (.iconst 0, 1) := by decide +kernel
theorem dL_writes_606 : decode cL_writes 606 = .ok (.istore 18, 2) := by decide +kernel
theorem dL_writes_608 : decode cL_writes 608 = .ok (.iload 18, 2) := by decide +kernel
theorem dL_writes_610 : decode cL_writes 610 = .ok (.bipush 24, 2) := by decide +kernel
theorem dL_writes_612 : decode cL_writes 612 = .ok (.if_icmp .ge 30, 3) := by decide +kernel
theorem dL_writes_615 : decode cL_writes 615 = .ok (.iload 17, 2) := by decide +kernel
theorem dL_writes_617 : decode cL_writes 617 = .ok (.aload_n 3, 1) := by decide +kernel
theorem dL_writes_618 : decode cL_writes 618 = .ok (.iload 18, 2) := by decide +kernel
theorem dL_writes_620 : decode cL_writes 620 = .ok (.iaload, 1) := by decide +kernel
theorem dL_writes_621 : decode cL_writes 621 = .ok (.ifCond .lt 11, 3) := by decide +kernel
theorem dL_writes_624 : decode cL_writes 624 = .ok (.aload 4, 2) := by decide +kernel
theorem dL_writes_626 : decode cL_writes 626 = .ok (.iload 18, 2) := by decide +kernel
theorem dL_writes_628 : decode cL_writes 628 = .ok (.iaload, 1) := by decide +kernel
theorem dL_writes_629 : decode cL_writes 629 = .ok (.goto 4, 3) := by decide +kernel
theorem dL_writes_632 : decode cL_writes 632 = .ok (.iconst 0, 1) := by decide +kernel
theorem dL_writes_633 : decode cL_writes 633 = .ok (.iadd, 1) := by decide +kernel
theorem dL_writes_634 : decode cL_writes 634 = .ok (.istore 17, 2) := by decide +kernel
theorem dL_writes_636 : decode cL_writes 636 = .ok (.iinc 18 1, 3) := by decide +kernel
theorem dL_writes_639 : decode cL_writes 639 = .ok (.goto (-31), 3) := by decide +kernel
theorem dL_writes_642 : decode cL_writes 642 = .ok (.aload_n 0, 1) := by decide +kernel
theorem dL_writes_643 : decode cL_writes 643 = .ok (.iload 12, 2) := by decide +kernel
theorem dL_writes_645 : decode cL_writes 645 = .ok (.invokevirtual 85, 3) := by decide +kernel
theorem dL_writes_648 : decode cL_writes 648 = .ok (.iload 17, 2) := by decide +kernel
theorem dL_writes_650 : decode cL_writes 650 = .ok (.if_icmp .ne 7, 3) := by decide +kernel
theorem dL_writes_653 : decode cL_writes 653 = .ok (.iconst 1, 1) := by decide +kernel
theorem dL_writes_654 : decode cL_writes 654 = .ok (.goto 4, 3) := by decide +kernel
theorem dL_writes_657 : decode cL_writes 657 = .ok (.iconst 0, 1) := by decide +kernel
theorem dL_writes_658 : decode cL_writes 658 = .ok (.ireturn, 1) := by decide +kernel
theorem dL_writes_659 : decode cL_writes 659 = .ok (.iload 10, 2) := by decide +kernel
theorem dL_writes_661 : decode cL_writes 661 = .ok (.iconst 3, 1) := by decide +kernel
theorem dL_writes_662 : decode cL_writes 662 = .ok (.irem, 1) := by decide +kernel
theorem dL_writes_663 : decode cL_writes 663 = .ok (.ifCond .ne 7, 3) := by decide +kernel
theorem dL_writes_666 : decode cL_writes 666 = .ok (.iconst (-1), 1) := by decide +kernel
theorem dL_writes_667 : decode cL_writes 667 = .ok (.goto 5, 3) := by decide +kernel
theorem dL_writes_670 : decode cL_writes 670 = .ok (.iload 14, 2) := by decide +kernel
theorem dL_writes_672 : decode cL_writes 672 = .ok (.istore 17, 2) := by decide +kernel
theorem dL_writes_674 : decode cL_writes 674 = .ok (.aload_n 1, 1) := by decide +kernel
theorem dL_writes_675 : decode cL_writes 675 = .ok (.bipush 9, 2) := by decide +kernel
theorem dL_writes_677 : decode cL_writes 677 = .ok (.iaload, 1) := by decide +kernel
theorem dL_writes_678 : decode cL_writes 678 = .ok (.ifCond .ne 20, 3) := by decide +kernel
theorem dL_writes_681 : decode cL_writes 681 = .ok (.aload_n 0, 1) := by decide +kernel
theorem dL_writes_682 : decode cL_writes 682 = .ok (.iload 17, 2) := by decide +kernel
theorem dL_writes_684 : decode cL_writes 684 = .ok (.invokevirtual 88, 3) := by decide +kernel
theorem dL_writes_687 : decode cL_writes 687 = .ok (.bipush (-12), 2) := by decide +kernel
theorem dL_writes_689 : decode cL_writes 689 = .ok (.if_icmp .ne 7, 3) := by decide +kernel
theorem dL_writes_692 : decode cL_writes 692 = .ok (.iconst 1, 1) := by decide +kernel
theorem dL_writes_693 : decode cL_writes 693 = .ok (.goto 4, 3) := by decide +kernel
theorem dL_writes_696 : decode cL_writes 696 = .ok (.iconst 0, 1) := by decide +kernel
theorem dL_writes_697 : decode cL_writes 697 = .ok (.ireturn, 1) := by decide +kernel
theorem dL_writes_698 : decode cL_writes 698 = .ok (.aload 6, 2) := by decide +kernel
theorem dL_writes_700 : decode cL_writes 700 = .ok (.iconst 0, 1) := by decide +kernel
theorem dL_writes_701 : decode cL_writes 701 = .ok (.iaload, 1) := by decide +kernel
theorem dL_writes_702 : decode cL_writes 702 = .ok (.istore 18, 2) := by decide +kernel
theorem dL_writes_704 : decode cL_writes 704 = .ok (.aload_n 1, 1) := by decide +kernel
theorem dL_writes_705 : decode cL_writes 705 = .ok (.bipush 9, 2) := by decide +kernel
theorem dL_writes_707 : decode cL_writes 707 = .ok (.dup2, 1) := by decide +kernel
theorem dL_writes_708 : decode cL_writes 708 = .ok (.iaload, 1) := by decide +kernel
theorem dL_writes_709 : decode cL_writes 709 = .ok (.iconst 1, 1) := by decide +kernel
theorem dL_writes_710 : decode cL_writes 710 = .ok (.isub, 1) := by decide +kernel
theorem dL_writes_711 : decode cL_writes 711 = .ok (.iastore, 1) := by decide +kernel
theorem dL_writes_712 : decode cL_writes 712 = .ok (.iconst 0, 1) := by decide +kernel
theorem dL_writes_713 : decode cL_writes 713 = .ok (.istore 19, 2) := by decide +kernel
theorem dL_writes_715 : decode cL_writes 715 = .ok (.iload 19, 2) := by decide +kernel
theorem dL_writes_717 : decode cL_writes 717 = .ok (.aload_n 1, 1) := by decide +kernel
theorem dL_writes_718 : decode cL_writes 718 = .ok (.bipush 9, 2) := by decide +kernel
theorem dL_writes_720 : decode cL_writes 720 = .ok (.iaload, 1) := by decide +kernel
theorem dL_writes_721 : decode cL_writes 721 = .ok (.if_icmp .ge 21, 3) := by decide +kernel
theorem dL_writes_724 : decode cL_writes 724 = .ok (.aload 6, 2) := by decide +kernel
theorem dL_writes_726 : decode cL_writes 726 = .ok (.iload 19, 2) := by decide +kernel
theorem dL_writes_728 : decode cL_writes 728 = .ok (.aload 6, 2) := by decide +kernel
theorem dL_writes_730 : decode cL_writes 730 = .ok (.iload 19, 2) := by decide +kernel
theorem dL_writes_732 : decode cL_writes 732 = .ok (.iconst 1, 1) := by decide +kernel
theorem dL_writes_733 : decode cL_writes 733 = .ok (.iadd, 1) := by decide +kernel
theorem dL_writes_734 : decode cL_writes 734 = .ok (.iaload, 1) := by decide +kernel
theorem dL_writes_735 : decode cL_writes 735 = .ok (.iastore, 1) := by decide +kernel
theorem dL_writes_736 : decode cL_writes 736 = .ok (.iinc 19 1, 3) := by decide +kernel
theorem dL_writes_739 : decode cL_writes 739 = .ok (.goto (-24), 3) := by decide +kernel
theorem dL_writes_742 : decode cL_writes 742 = .ok (.iload 17, 2) := by decide +kernel
theorem dL_writes_744 : decode cL_writes 744 = .ok (.ifCond .lt 17, 3) := by decide +kernel
theorem dL_writes_747 : decode cL_writes 747 = .ok (.aload_n 1, 1) := by decide +kernel
theorem dL_writes_748 : decode cL_writes 748 = .ok (.aload_n 3, 1) := by decide +kernel
theorem dL_writes_749 : decode cL_writes 749 = .ok (.aload 7, 2) := by decide +kernel
theorem dL_writes_751 : decode cL_writes 751 = .ok (.aload 8, 2) := by decide +kernel
theorem dL_writes_753 : decode cL_writes 753 = .ok (.iload 17, 2) := by decide +kernel
theorem dL_writes_755 : decode cL_writes 755 = .ok (.iload 18, 2) := by decide +kernel
theorem dL_writes_757 : decode cL_writes 757 = .ok (.invokestatic 75, 3) := by decide +kernel
theorem dL_writes_760 : decode cL_writes 760 = .ok (.pop, 1) := by decide +kernel
theorem dL_writes_761 : decode cL_writes 761 = .ok (.aload_n 1, 1) := by decide +kernel
theorem dL_writes_762 : decode cL_writes 762 = .ok (.iconst 0, 1) := by decide +kernel
theorem dL_writes_763 : decode cL_writes 763 = .ok (.iaload, 1) := by decide +kernel
theorem dL_writes_764 : decode cL_writes 764 = .ok (.iconst 1, 1) := by decide +kernel
theorem dL_writes_765 : decode cL_writes 765 = .ok (.if_icmp .eq 10, 3) := by decide +kernel
theorem dL_writes_768 : decode cL_writes 768 = .ok (.aload_n 1, 1) := by decide +kernel
theorem dL_writes_769 : decode cL_writes 769 = .ok (.iconst 0, 1) := by decide +kernel
theorem dL_writes_770 : decode cL_writes 770 = .ok (.iaload, 1) := by decide +kernel
theorem dL_writes_771 : decode cL_writes 771 = .ok (.iconst 2, 1) := by decide +kernel
theorem dL_writes_772 : decode cL_writes 772 = .ok (.if_icmp .ne 12, 3) := by decide +kernel
theorem dL_writes_775 : decode cL_writes 775 = .ok (.aload_n 1, 1) := by decide +kernel
theorem dL_writes_776 : decode cL_writes 776 = .ok (.aload_n 3, 1) := by decide +kernel
theorem dL_writes_777 : decode cL_writes 777 = .ok (.aload 7, 2) := by decide +kernel
theorem dL_writes_779 : decode cL_writes 779 = .ok (.iload 18, 2) := by decide +kernel
theorem dL_writes_781 : decode cL_writes 781 = .ok (.invokestatic 23, 3) := by decide +kernel
theorem dL_writes_784 : decode cL_writes 784 = .ok (.aload_n 1, 1) := by decide +kernel
theorem dL_writes_785 : decode cL_writes 785 = .ok (.iconst 5, 1) := by decide +kernel
theorem dL_writes_786 : decode cL_writes 786 = .ok (.dup2, 1) := by decide +kernel
theorem dL_writes_787 : decode cL_writes 787 = .ok (.iaload, 1) := by decide +kernel
theorem dL_writes_788 : decode cL_writes 788 = .ok (.iconst 1, 1) := by decide +kernel
theorem dL_writes_789 : decode cL_writes 789 = .ok (.iadd, 1) := by decide +kernel
theorem dL_writes_790 : decode cL_writes 790 = .ok (.iastore, 1) := by decide +kernel
theorem dL_writes_791 : decode cL_writes 791 = .ok (.aload_n 0, 1) := by decide +kernel
theorem dL_writes_792 : decode cL_writes 792 = .ok (.iload 17, 2) := by decide +kernel
theorem dL_writes_794 : decode cL_writes 794 = .ok (.invokevirtual 88, 3) := by decide +kernel
theorem dL_writes_797 : decode cL_writes 797 = .ok (.iload 18, 2) := by decide +kernel
theorem dL_writes_799 : decode cL_writes 799 = .ok (.if_icmp .ne 7, 3) := by decide +kernel
theorem dL_writes_802 : decode cL_writes 802 = .ok (.iconst 1, 1) := by decide +kernel
theorem dL_writes_803 : decode cL_writes 803 = .ok (.goto 4, 3) := by decide +kernel
theorem dL_writes_806 : decode cL_writes 806 = .ok (.iconst 0, 1) := by decide +kernel
theorem dL_writes_807 : decode cL_writes 807 = .ok (.ireturn, 1) := by decide +kernel
theorem dL_acts_0 : decode cL_acts 0 = .ok (.iload 9, 2) := by decide +kernel
theorem dL_acts_2 : decode cL_acts 2 = .ok (.iconst 5, 1) := by decide +kernel
theorem dL_acts_3 : decode cL_acts 3 = .ok (.ishr, 1) := by decide +kernel
theorem dL_acts_4 : decode cL_acts 4 = .ok (.ldc 91, 2) := by decide +kernel
theorem dL_acts_6 : decode cL_acts 6 = .ok (.invokestatic 92, 3) := by decide +kernel
theorem dL_acts_9 : decode cL_acts 9 = .ok (.istore 10, 2) := by decide +kernel
theorem dL_acts_11 : decode cL_acts 11 = .ok (.iload 9, 2) := by decide +kernel
theorem dL_acts_13 : decode cL_acts 13 = .ok (.bipush 32, 2) := by decide +kernel
theorem dL_acts_15 : decode cL_acts 15 = .ok (.invokestatic 92, 3) := by decide +kernel
theorem dL_acts_18 : decode cL_acts 18 = .ok (.istore 11, 2) := by decide +kernel
theorem dL_acts_20 : decode cL_acts 20 = .ok (.iload 11, 2) := by decide +kernel
theorem dL_acts_22 : decode cL_acts 22 = .ok (.bipush 8, 2) := by decide +kernel
theorem dL_acts_24 : decode cL_acts 24 = .ok (.if_icmp .ge 149, 3) := by decide +kernel
theorem dL_acts_27 : decode cL_acts 27 = .ok (.iconst 0, 1) := by decide +kernel
theorem dL_acts_28 : decode cL_acts 28 = .ok (.istore 12, 2) := by decide +kernel
theorem dL_acts_30 : decode cL_acts 30 = .ok (.iload 12, 2) := by decide +kernel
theorem dL_acts_32 : decode cL_acts 32 = .ok (.bipush 24, 2) := by decide +kernel
theorem dL_acts_34 : decode cL_acts 34 = .ok (.if_icmp .ge 16, 3) := by decide +kernel
theorem dL_acts_37 : decode cL_acts 37 = .ok (.aload_n 3, 1) := by decide +kernel
theorem dL_acts_38 : decode cL_acts 38 = .ok (.iload 12, 2) := by decide +kernel
theorem dL_acts_40 : decode cL_acts 40 = .ok (.iaload, 1) := by decide +kernel
theorem dL_acts_41 : decode cL_acts 41 = .ok (.ifCond .lt 9, 3) := by decide +kernel
theorem dL_acts_44 : decode cL_acts 44 = .ok (.iinc 12 1, 3) := by decide +kernel
theorem dL_acts_47 : decode cL_acts 47 = .ok (.goto (-17), 3) := by decide +kernel
theorem dL_acts_50 : decode cL_acts 50 = .ok (.iload 12, 2) := by decide +kernel
theorem dL_acts_52 : decode cL_acts 52 = .ok (.bipush 24, 2) := by decide +kernel
theorem dL_acts_54 : decode cL_acts 54 = .ok (.if_icmp .ne 22, 3) := by decide +kernel
theorem dL_acts_57 : decode cL_acts 57 = .ok (.aload_n 0, 1) := by decide +kernel
theorem dL_acts_58 : decode cL_acts 58 = .ok (.iload 10, 2) := by decide +kernel
theorem dL_acts_60 : decode cL_acts 60 = .ok (.iconst 4, 1) := by decide +kernel
theorem dL_acts_61 : decode cL_acts 61 = .ok (.irem, 1) := by decide +kernel
theorem dL_acts_62 : decode cL_acts 62 = .ok (.invokevirtual 95, 3) := by decide +kernel
theorem dL_acts_65 : decode cL_acts 65 = .ok (.bipush (-13), 2) := by decide +kernel
theorem dL_acts_67 : decode cL_acts 67 = .ok (.if_icmp .ne 7, 3) := by decide +kernel
theorem dL_acts_70 : decode cL_acts 70 = .ok (.iconst 1, 1) := by decide +kernel
theorem dL_acts_71 : decode cL_acts 71 = .ok (.goto 4, 3) := by decide +kernel
theorem dL_acts_74 : decode cL_acts 74 = .ok (.iconst 0, 1) := by decide +kernel
theorem dL_acts_75 : decode cL_acts 75 = .ok (.ireturn, 1) := by decide +kernel
theorem dL_acts_76 : decode cL_acts 76 = .ok (.aload_n 3, 1) := by decide +kernel
theorem dL_acts_77 : decode cL_acts 77 = .ok (.iload 12, 2) := by decide +kernel
theorem dL_acts_79 : decode cL_acts 79 = .ok (.aload_n 1, 1) := by decide +kernel
theorem dL_acts_80 : decode cL_acts 80 = .ok (.iconst 0, 1) := by decide +kernel
theorem dL_acts_81 : decode cL_acts 81 = .ok (.iaload, 1) := by decide +kernel
theorem dL_acts_82 : decode cL_acts 82 = .ok (.iconst 1, 1) := by decide +kernel
theorem dL_acts_83 : decode cL_acts 83 = .ok (.if_icmp .eq 25, 3) := by decide +kernel
theorem dL_acts_86 : decode cL_acts 86 = .ok (.aload_n 1, 1) := by decide +kernel
theorem dL_acts_87 : decode cL_acts 87 = .ok (.iconst 0, 1) := by decide +kernel
theorem dL_acts_88 : decode cL_acts 88 = .ok (.iaload, 1) := by decide +kernel
theorem dL_acts_89 : decode cL_acts 89 = .ok (.iconst 2, 1) := by decide +kernel
theorem dL_acts_90 : decode cL_acts 90 = .ok (.if_icmp .eq 18, 3) := by decide +kernel
theorem dL_acts_93 : decode cL_acts 93 = .ok (.aload_n 1, 1) := by decide +kernel
theorem dL_acts_94 : decode cL_acts 94 = .ok (.iconst 0, 1) := by decide +kernel
theorem dL_acts_95 : decode cL_acts 95 = .ok (.iaload, 1) := by decide +kernel
theorem dL_acts_96 : decode cL_acts 96 = .ok (.iconst 3, 1) := by decide +kernel
theorem dL_acts_97 : decode cL_acts 97 = .ok (.if_icmp .ne 15, 3) := by decide +kernel
theorem dL_acts_100 : decode cL_acts 100 = .ok (.iload 12, 2) := by decide +kernel
theorem dL_acts_102 : decode cL_acts 102 = .ok (.aload_n 1, 1) := by decide +kernel
theorem dL_acts_103 : decode cL_acts 103 = .ok (.iconst 1, 1) := by decide +kernel
theorem dL_acts_104 : decode cL_acts 104 = .ok (.iaload, 1) := by decide +kernel
theorem dL_acts_105 : decode cL_acts 105 = .ok (.if_icmp .lt 7, 3) := by decide +kernel
theorem dL_acts_108 : decode cL_acts 108 = .ok (.iconst 2, 1) := by decide +kernel
theorem dL_acts_109 : decode cL_acts 109 = .ok (.goto 4, 3) := by decide +kernel
theorem dL_acts_112 : decode cL_acts 112 = .ok (.iconst 0, 1) := by decide +kernel
theorem dL_acts_113 : decode cL_acts 113 = .ok (.iastore, 1) := by decide +kernel
theorem dL_acts_114 : decode cL_acts 114 = .ok (.aload 4, 2) := by decide +kernel
theorem dL_acts_116 : decode cL_acts 116 = .ok (.iload 12, 2) := by decide +kernel
theorem dL_acts_118 : decode cL_acts 118 = .ok (.iconst 0, 1) := by decide +kernel
theorem dL_acts_119 : decode cL_acts 119 = .ok (.iastore, 1) := by decide +kernel
theorem dL_acts_120 : decode cL_acts 120 = .ok (.aload 5, 2) := by decide +kernel
theorem dL_acts_122 : decode cL_acts 122 = .ok (.iload 12, 2) := by decide +kernel
theorem dL_acts_124 : decode cL_acts 124 = .ok (.iconst 0, 1) := by decide +kernel
theorem dL_acts_125 : decode cL_acts 125 = .ok (.iastore, 1) := by decide +kernel
theorem dL_acts_126 : decode cL_acts 126 = .ok (.aload_n 2, 1) := by decide +kernel
theorem dL_acts_127 : decode cL_acts 127 = .ok (.iload 12, 2) := by decide +kernel
theorem dL_acts_129 : decode cL_acts 129 = .ok (.iconst 0, 1) := by decide +kernel
theorem dL_acts_130 : decode cL_acts 130 = .ok (.iastore, 1) := by decide +kernel
theorem dL_acts_131 : decode cL_acts 131 = .ok (.aload_n 1, 1) := by decide +kernel
theorem dL_acts_132 : decode cL_acts 132 = .ok (.iconst 3, 1) := by decide +kernel
theorem dL_acts_133 : decode cL_acts 133 = .ok (.dup2, 1) := by decide +kernel
theorem dL_acts_134 : decode cL_acts 134 = .ok (.iaload, 1) := by decide +kernel
theorem dL_acts_135 : decode cL_acts 135 = .ok (.iconst 1, 1) := by decide +kernel
theorem dL_acts_136 : decode cL_acts 136 = .ok (.iadd, 1) := by decide +kernel
theorem dL_acts_137 : decode cL_acts 137 = .ok (.iastore, 1) := by decide +kernel
theorem dL_acts_138 : decode cL_acts 138 = .ok (.aload_n 1, 1) := by decide +kernel
theorem dL_acts_139 : decode cL_acts 139 = .ok (.aload_n 3, 1) := by decide +kernel
theorem dL_acts_140 : decode cL_acts 140 = .ok (.aload 7, 2) := by decide +kernel
theorem dL_acts_142 : decode cL_acts 142 = .ok (.aload 8, 2) := by decide +kernel
theorem dL_acts_144 : decode cL_acts 144 = .ok (.iload 10, 2) := by decide +kernel
theorem dL_acts_146 : decode cL_acts 146 = .ok (.iconst 4, 1) := by decide +kernel
theorem dL_acts_147 : decode cL_acts 147 = .ok (.irem, 1) := by decide +kernel
theorem dL_acts_148 : decode cL_acts 148 = .ok (.iload 12, 2) := by decide +kernel
theorem dL_acts_150 : decode cL_acts 150 = .ok (.invokestatic 75, 3) := by decide +kernel
theorem dL_acts_153 : decode cL_acts 153 = .ok (.pop, 1) := by decide +kernel
theorem dL_acts_154 : decode cL_acts 154 = .ok (.aload_n 0, 1) := by decide +kernel
theorem dL_acts_155 : decode cL_acts 155 = .ok (.iload 10, 2) := by decide +kernel
theorem dL_acts_157 : decode cL_acts 157 = .ok (.iconst 4, 1) := by decide +kernel
theorem dL_acts_158 : decode cL_acts 158 = .ok (.irem, 1) := by decide +kernel
theorem dL_acts_159 : decode cL_acts 159 = .ok (.invokevirtual 95, 3) := by decide +kernel
theorem dL_acts_162 : decode cL_acts 162 = .ok (.iload 12, 2) := by decide +kernel
theorem dL_acts_164 : decode cL_acts 164 = .ok (.if_icmp .ne 7, 3) := by decide +kernel
theorem dL_acts_167 : decode cL_acts 167 = .ok (.iconst 1, 1) := by decide +kernel
theorem dL_acts_168 : decode cL_acts 168 = .ok (.goto 4, 3) := by decide +kernel
theorem dL_acts_171 : decode cL_acts 171 = .ok (.iconst 0, 1) := by decide +kernel
theorem dL_acts_172 : decode cL_acts 172 = .ok (.ireturn, 1) := by decide +kernel
theorem dL_acts_173 : decode cL_acts 173 = .ok (.iload 11, 2) := by decide +kernel
theorem dL_acts_175 : decode cL_acts 175 = .ok (.bipush 25, 2) := by decide +kernel
theorem dL_acts_177 : decode cL_acts 177 = .ok (.if_icmp .ge 79, 3) := by decide +kernel
theorem dL_acts_180 : decode cL_acts 180 = .ok (.aload_n 0, 1) := by decide +kernel
theorem dL_acts_181 : decode cL_acts 181 = .ok (.aload_n 1, 1) := by decide +kernel
theorem dL_acts_182 : decode cL_acts 182 = .ok (.aload_n 2, 1) := by decide +kernel
theorem dL_acts_183 : decode cL_acts 183 = .ok (.aload_n 3, 1) := by decide +kernel
theorem dL_acts_184 : decode cL_acts 184 = .ok (.aload 4, 2) := by decide +kernel
theorem dL_acts_186 : decode cL_acts 186 = .ok (.aload 5, 2) := by decide +kernel
theorem dL_acts_188 : decode cL_acts 188 = .ok (.aload 6, 2) := by decide +kernel
theorem dL_acts_190 : decode cL_acts 190 = .ok (.aload 7, 2) := by decide +kernel
theorem dL_acts_192 : decode cL_acts 192 = .ok (.aload 8, 2) := by decide +kernel
theorem dL_acts_194 : decode cL_acts 194 = .ok (.iload 11, 2) := by decide +kernel
theorem dL_acts_196 : decode cL_acts 196 = .ok (.bipush 15, 2) := by decide +kernel
theorem dL_acts_198 : decode cL_acts 198 = .ok (.if_icmp .ge 7, 3) := by decide +kernel
theorem dL_acts_201 : decode cL_acts 201 = .ok (.iconst 0, 1) := by decide +kernel
theorem dL_acts_202 : decode cL_acts 202 = .ok (.goto 48, 3) := by decide +kernel
theorem dL_acts_205 : decode cL_acts 205 = .ok (.iload 11, 2) := by decide +kernel
theorem dL_acts_207 : decode cL_acts 207 = .ok (.bipush 18, 2) := by decide +kernel
theorem dL_acts_209 : decode cL_acts 209 = .ok (.if_icmp .ge 7, 3) := by decide +kernel
theorem dL_acts_212 : decode cL_acts 212 = .ok (.iconst 1, 1) := by decide +kernel
theorem dL_acts_213 : decode cL_acts 213 = .ok (.goto 37, 3) := by decide +kernel
theorem dL_acts_216 : decode cL_acts 216 = .ok (.iload 11, 2) := by decide +kernel
theorem dL_acts_218 : decode cL_acts 218 = .ok (.bipush 20, 2) := by decide +kernel
theorem dL_acts_220 : decode cL_acts 220 = .ok (.if_icmp .ge 7, 3) := by decide +kernel
theorem dL_acts_223 : decode cL_acts 223 = .ok (.iconst 2, 1) := by decide +kernel
theorem dL_acts_224 : decode cL_acts 224 = .ok (.goto 26, 3) := by decide +kernel
theorem dL_acts_227 : decode cL_acts 227 = .ok (.iload 11, 2) := by decide +kernel
theorem dL_acts_229 : decode cL_acts 229 = .ok (.bipush 20, 2) := by decide +kernel
theorem dL_acts_231 : decode cL_acts 231 = .ok (.if_icmp .ne 7, 3) := by decide +kernel
theorem dL_acts_234 : decode cL_acts 234 = .ok (.iconst 3, 1) := by decide +kernel
theorem dL_acts_235 : decode cL_acts 235 = .ok (.goto 15, 3) := by decide +kernel
theorem dL_acts_238 : decode cL_acts 238 = .ok (.iload 11, 2) := by decide +kernel
theorem dL_acts_240 : decode cL_acts 240 = .ok (.bipush 23, 2) := by decide +kernel
theorem dL_acts_242 : decode cL_acts 242 = .ok (.if_icmp .ge 7, 3) := by decide +kernel
theorem dL_acts_245 : decode cL_acts 245 = .ok (.iconst 4, 1) := by decide +kernel
theorem dL_acts_246 : decode cL_acts 246 = .ok (.goto 4, 3) := by decide +kernel
theorem dL_acts_249 : decode cL_acts 249 = .ok (.iconst 5, 1) := by decide +kernel
theorem dL_acts_250 : decode cL_acts 250 = .ok (.iload 10, 2) := by decide +kernel
theorem dL_acts_252 : decode cL_acts 252 = .ok (.invokestatic 98, 3) := by decide +kernel
theorem dL_acts_255 : decode cL_acts 255 = .ok (.ireturn, 1) := by decide +kernel
theorem dL_acts_256 : decode cL_acts 256 = .ok (.aload_n 0, 1) := by decide +kernel
theorem dL_acts_257 : decode cL_acts 257 = .ok (.aload_n 1, 1) := by decide +kernel
theorem dL_acts_258 : decode cL_acts 258 = .ok (.aload_n 2, 1) := by decide +kernel
theorem dL_acts_259 : decode cL_acts 259 = .ok (.aload_n 3, 1) := by decide +kernel
theorem dL_acts_260 : decode cL_acts 260 = .ok (.aload 4, 2) := by decide +kernel
theorem dL_acts_262 : decode cL_acts 262 = .ok (.aload 5, 2) := by decide +kernel
theorem dL_acts_264 : decode cL_acts 264 = .ok (.aload 6, 2) := by decide +kernel
theorem dL_acts_266 : decode cL_acts 266 = .ok (.aload 7, 2) := by decide +kernel
theorem dL_acts_268 : decode cL_acts 268 = .ok (.aload 8, 2) := by decide +kernel
theorem dL_acts_270 : decode cL_acts 270 = .ok (.iload 11, 2) := by decide +kernel
theorem dL_acts_272 : decode cL_acts 272 = .ok (.bipush 27, 2) := by decide +kernel
theorem dL_acts_274 : decode cL_acts 274 = .ok (.if_icmp .ge 7, 3) := by decide +kernel
theorem dL_acts_277 : decode cL_acts 277 = .ok (.iconst 0, 1) := by decide +kernel
theorem dL_acts_278 : decode cL_acts 278 = .ok (.goto 26, 3) := by decide +kernel
theorem dL_acts_281 : decode cL_acts 281 = .ok (.iload 11, 2) := by decide +kernel
theorem dL_acts_283 : decode cL_acts 283 = .ok (.bipush 30, 2) := by decide +kernel
theorem dL_acts_285 : decode cL_acts 285 = .ok (.if_icmp .ge 7, 3) := by decide +kernel
theorem dL_acts_288 : decode cL_acts 288 = .ok (.iconst 1, 1) := by decide +kernel
theorem dL_acts_289 : decode cL_acts 289 = .ok (.goto 15, 3) := by decide +kernel
theorem dL_acts_292 : decode cL_acts 292 = .ok (.iload 11, 2) := by decide +kernel
theorem dL_acts_294 : decode cL_acts 294 = .ok (.bipush 30, 2) := by decide +kernel
theorem dL_acts_296 : decode cL_acts 296 = .ok (.if_icmp .ne 7, 3) := by decide +kernel
theorem dL_acts_299 : decode cL_acts 299 = .ok (.iconst 2, 1) := by decide +kernel
theorem dL_acts_300 : decode cL_acts 300 = .ok (.goto 4, 3) := by decide +kernel
theorem dL_acts_303 : decode cL_acts 303 = .ok (.iconst 3, 1) := by decide +kernel
theorem dL_acts_304 : decode cL_acts 304 = .ok (.iload 10, 2) := by decide +kernel
theorem dL_acts_306 : decode cL_acts 306 = .ok (.invokestatic 102, 3) := by decide +kernel
theorem dL_acts_309 : decode cL_acts 309 = .ok (.ireturn, 1) := by decide +kernel
theorem dL_areObjects_0 : decode cL_areObjects 0 = .ok (.iconst 1, 1) := by decide +kernel
theorem dL_areObjects_1 : decode cL_areObjects 1 = .ok (.istore 8, 2) := by decide +kernel
theorem dL_areObjects_3 : decode cL_areObjects 3 = .ok (.aload_n 2, 1) := by decide +kernel
theorem dL_areObjects_4 : decode cL_areObjects 4 = .ok (.aload 7, 2) := by decide +kernel
theorem dL_areObjects_6 : decode cL_areObjects 6 = .ok (.iconst (-1), 1) := by decide +kernel
theorem dL_areObjects_7 : decode cL_areObjects 7 = .ok (.invokestatic 19, 3) := by decide +kernel
theorem dL_areObjects_10 : decode cL_areObjects 10 = .ok (.istore 9, 2) := by decide +kernel
theorem dL_areObjects_12 : decode cL_areObjects 12 = .ok (.iconst 0, 1) := by decide +kernel
theorem dL_areObjects_13 : decode cL_areObjects 13 = .ok (.istore 10, 2) := by decide +kernel
theorem dL_areObjects_15 : decode cL_areObjects 15 = .ok (.iload 10, 2) := by decide +kernel
theorem dL_areObjects_17 : decode cL_areObjects 17 = .ok (.bipush 24, 2) := by decide +kernel
theorem dL_areObjects_19 : decode cL_areObjects 19 = .ok (.if_icmp .ge 236, 3) := by decide +kernel
theorem dL_areObjects_22 : decode cL_areObjects 22 = .ok (.iload 8, 2) := by decide +kernel
theorem dL_areObjects_24 : decode cL_areObjects 24 = .ok (.ifCond .eq 231, 3) := by decide +kernel
theorem dL_areObjects_27 : decode cL_areObjects 27 = .ok (.aload_n 3, 1) := by decide +kernel
theorem dL_areObjects_28 : decode cL_areObjects 28 = .ok (.iload 10, 2) := by decide +kernel
theorem dL_areObjects_30 : decode cL_areObjects 30 = .ok (.iaload, 1) := by decide +kernel
theorem dL_areObjects_31 : decode cL_areObjects 31 = .ok (.ifCond .ge 25, 3) := by decide +kernel
theorem dL_areObjects_34 : decode cL_areObjects 34 = .ok (.aload_n 0, 1) := by decide +kernel
theorem dL_areObjects_35 : decode cL_areObjects 35 = .ok (.iload 10, 2) := by decide +kernel
theorem dL_areObjects_37 : decode cL_areObjects 37 = .ok (.iconst 0, 1) := by decide +kernel
theorem dL_areObjects_38 : decode cL_areObjects 38 = .ok (.invokevirtual 105, 3) := by decide +kernel
theorem dL_areObjects_41 : decode cL_areObjects 41 = .ok (.bipush (-11), 2) := by decide +kernel
theorem dL_areObjects_43 : decode cL_areObjects 43 = .ok (.if_icmp .ne 7, 3) := by decide +kernel
theorem dL_areObjects_46 : decode cL_areObjects 46 = .ok (.iconst 1, 1) := by decide +kernel
theorem dL_areObjects_47 : decode cL_areObjects 47 = .ok (.goto 4, 3) := by decide +kernel
theorem dL_areObjects_50 : decode cL_areObjects 50 = .ok (.iconst 0, 1) := by decide +kernel
theorem dL_areObjects_51 : decode cL_areObjects 51 = .ok (.istore 8, 2) := by decide +kernel
theorem dL_areObjects_53 : decode cL_areObjects 53 = .ok (.goto 196, 3) := by decide +kernel
theorem dL_areObjects_56 : decode cL_areObjects 56 = .ok (.iconst (-1), 1) := by decide +kernel
theorem dL_areObjects_57 : decode cL_areObjects 57 = .ok (.istore 11, 2) := by decide +kernel
theorem dL_areObjects_59 : decode cL_areObjects 59 = .ok (.iconst 0, 1) := by decide +kernel
theorem dL_areObjects_60 : decode cL_areObjects 60 = .ok (.istore 12, 2) := by decide +kernel
theorem dL_areObjects_62 : decode cL_areObjects 62 = .ok (.iload 12, 2) := by decide +kernel
theorem dL_areObjects_64 : decode cL_areObjects 64 = .ok (.aload_n 1, 1) := by decide +kernel
theorem dL_areObjects_65 : decode cL_areObjects 65 = .ok (.bipush 9, 2) := by decide +kernel
theorem dL_areObjects_67 : decode cL_areObjects 67 = .ok (.iaload, 1) := by decide +kernel
theorem dL_areObjects_68 : decode cL_areObjects 68 = .ok (.if_icmp .ge 28, 3) := by decide +kernel
theorem dL_areObjects_71 : decode cL_areObjects 71 = .ok (.aload 6, 2) := by decide +kernel
theorem dL_areObjects_73 : decode cL_areObjects 73 = .ok (.iload 12, 2) := by decide +kernel
theorem dL_areObjects_75 : decode cL_areObjects 75 = .ok (.iaload, 1) := by decide +kernel
theorem dL_areObjects_76 : decode cL_areObjects 76 = .ok (.iload 10, 2) := by decide +kernel
theorem dL_areObjects_78 : decode cL_areObjects 78 = .ok (.if_icmp .ne 8, 3) := by decide +kernel
theorem dL_areObjects_81 : decode cL_areObjects 81 = .ok (.iload 12, 2) := by decide +kernel
theorem dL_areObjects_83 : decode cL_areObjects 83 = .ok (.goto 5, 3) := by decide +kernel
theorem dL_areObjects_86 : decode cL_areObjects 86 = .ok (.iload 11, 2) := by decide +kernel
theorem dL_areObjects_88 : decode cL_areObjects 88 = .ok (.istore 11, 2) := by decide +kernel
theorem dL_areObjects_90 : decode cL_areObjects 90 = .ok (.iinc 12 1, 3) := by decide +kernel
theorem dL_areObjects_93 : decode cL_areObjects 93 = .ok (.goto (-31), 3) := by decide +kernel
theorem dL_areObjects_96 : decode cL_areObjects 96 = .ok (.aload_n 0, 1) := by decide +kernel
theorem dL_areObjects_97 : decode cL_areObjects 97 = .ok (.iload 10, 2) := by decide +kernel
theorem dL_areObjects_99 : decode cL_areObjects 99 = .ok (.iconst 0, 1) := by decide +kernel
theorem dL_areObjects_100 : decode cL_areObjects 100 = .ok (.invokevirtual 105, 3) := by decide +kernel
theorem dL_areObjects_103 : decode cL_areObjects 103 = .ok (.aload_n 3, 1) := by decide +kernel
theorem dL_areObjects_104 : decode cL_areObjects 104 = .ok (.iload 10, 2) := by decide +kernel
theorem dL_areObjects_106 : decode cL_areObjects 106 = .ok (.iaload, 1) := by decide +kernel
theorem dL_areObjects_107 : decode cL_areObjects 107 = .ok (.if_icmp .ne 139, 3) := by decide +kernel
theorem dL_areObjects_110 : decode cL_areObjects 110 = .ok (.aload_n 0, 1) := by decide +kernel
theorem dL_areObjects_111 : decode cL_areObjects 111 = .ok (.iload 10, 2) := by decide +kernel
theorem dL_areObjects_113 : decode cL_areObjects 113 = .ok (.iconst 1, 1) := by decide +kernel
theorem dL_areObjects_114 : decode cL_areObjects 114 = .ok (.invokevirtual 105, 3) := by decide +kernel
theorem dL_areObjects_117 : decode cL_areObjects 117 = .ok (.aload_n 2, 1) := by decide +kernel
theorem dL_areObjects_118 : decode cL_areObjects 118 = .ok (.iconst 3, 1) := by decide +kernel
theorem dL_areObjects_119 : decode cL_areObjects 119 = .ok (.iload 10, 2) := by decide +kernel
theorem dL_areObjects_121 : decode cL_areObjects 121 = .ok (.imul, 1) := by decide +kernel
theorem dL_areObjects_122 : decode cL_areObjects 122 = .ok (.invokestatic 9, 3) := by decide +kernel
theorem dL_areObjects_125 : decode cL_areObjects 125 = .ok (.if_icmp .ne 121, 3) := by decide +kernel
theorem dL_areObjects_128 : decode cL_areObjects 128 = .ok (.aload_n 0, 1) := by decide +kernel
theorem dL_areObjects_129 : decode cL_areObjects 129 = .ok (.iload 10, 2) := by decide +kernel
theorem dL_areObjects_131 : decode cL_areObjects 131 = .ok (.iconst 2, 1) := by decide +kernel
theorem dL_areObjects_132 : decode cL_areObjects 132 = .ok (.invokevirtual 105, 3) := by decide +kernel
theorem dL_areObjects_135 : decode cL_areObjects 135 = .ok (.aload_n 2, 1) := by decide +kernel
theorem dL_areObjects_136 : decode cL_areObjects 136 = .ok (.iconst 3, 1) := by decide +kernel
theorem dL_areObjects_137 : decode cL_areObjects 137 = .ok (.iload 10, 2) := by decide +kernel
theorem dL_areObjects_139 : decode cL_areObjects 139 = .ok (.imul, 1) := by decide +kernel
theorem dL_areObjects_140 : decode cL_areObjects 140 = .ok (.iconst 1, 1) := by decide +kernel
theorem dL_areObjects_141 : decode cL_areObjects 141 = .ok (.iadd, 1) := by decide +kernel
theorem dL_areObjects_142 : decode cL_areObjects 142 = .ok (.invokestatic 9, 3) := by decide +kernel
theorem dL_areObjects_145 : decode cL_areObjects 145 = .ok (.if_icmp .ne 101, 3) := by decide +kernel
theorem dL_areObjects_148 : decode cL_areObjects 148 = .ok (.aload_n 0, 1) := by decide +kernel
theorem dL_areObjects_149 : decode cL_areObjects 149 = .ok (.iload 10, 2) := by decide +kernel
theorem dL_areObjects_151 : decode cL_areObjects 151 = .ok (.iconst 3, 1) := by decide +kernel
theorem dL_areObjects_152 : decode cL_areObjects 152 = .ok (.invokevirtual 105, 3) := by decide +kernel
theorem dL_areObjects_155 : decode cL_areObjects 155 = .ok (.aload_n 2, 1) := by decide +kernel
theorem dL_areObjects_156 : decode cL_areObjects 156 = .ok (.iconst 3, 1) := by decide +kernel
theorem dL_areObjects_157 : decode cL_areObjects 157 = .ok (.iload 10, 2) := by decide +kernel
theorem dL_areObjects_159 : decode cL_areObjects 159 = .ok (.imul, 1) := by decide +kernel
theorem dL_areObjects_160 : decode cL_areObjects 160 = .ok (.iconst 2, 1) := by decide +kernel
theorem dL_areObjects_161 : decode cL_areObjects 161 = .ok (.iadd, 1) := by decide +kernel
theorem dL_areObjects_162 : decode cL_areObjects 162 = .ok (.invokestatic 9, 3) := by decide +kernel
theorem dL_areObjects_165 : decode cL_areObjects 165 = .ok (.if_icmp .ne 81, 3) := by decide +kernel
theorem dL_areObjects_168 : decode cL_areObjects 168 = .ok (.aload_n 0, 1) := by decide +kernel
theorem dL_areObjects_169 : decode cL_areObjects 169 = .ok (.iload 10, 2) := by decide +kernel
theorem dL_areObjects_171 : decode cL_areObjects 171 = .ok (.iconst 4, 1) := by decide +kernel
theorem dL_areObjects_172 : decode cL_areObjects 172 = .ok (.invokevirtual 105, 3) := by decide +kernel
theorem dL_areObjects_175 : decode cL_areObjects 175 = .ok (.aload 4, 2) := by decide +kernel
theorem dL_areObjects_177 : decode cL_areObjects 177 = .ok (.iload 10, 2) := by decide +kernel
theorem dL_areObjects_179 : decode cL_areObjects 179 = .ok (.iaload, 1) := by decide +kernel
theorem dL_areObjects_180 : decode cL_areObjects 180 = .ok (.if_icmp .ne 66, 3) := by decide +kernel
theorem dL_areObjects_183 : decode cL_areObjects 183 = .ok (.aload_n 0, 1) := by decide +kernel
theorem dL_areObjects_184 : decode cL_areObjects 184 = .ok (.iload 10, 2) := by decide +kernel
theorem dL_areObjects_186 : decode cL_areObjects 186 = .ok (.iconst 5, 1) := by decide +kernel
theorem dL_areObjects_187 : decode cL_areObjects 187 = .ok (.invokevirtual 105, 3) := by decide +kernel
theorem dL_areObjects_190 : decode cL_areObjects 190 = .ok (.iload 9, 2) := by decide +kernel
theorem dL_areObjects_192 : decode cL_areObjects 192 = .ok (.iload 10, 2) := by decide +kernel
theorem dL_areObjects_194 : decode cL_areObjects 194 = .ok (.ishr, 1) := by decide +kernel
theorem dL_areObjects_195 : decode cL_areObjects 195 = .ok (.iconst 1, 1) := by decide +kernel
theorem dL_areObjects_196 : decode cL_areObjects 196 = .ok (.iand, 1) := by decide +kernel
theorem dL_areObjects_197 : decode cL_areObjects 197 = .ok (.if_icmp .ne 49, 3) := by decide +kernel
theorem dL_areObjects_200 : decode cL_areObjects 200 = .ok (.aload_n 0, 1) := by decide +kernel
theorem dL_areObjects_201 : decode cL_areObjects 201 = .ok (.iload 10, 2) := by decide +kernel
theorem dL_areObjects_203 : decode cL_areObjects 203 = .ok (.bipush 6, 2) := by decide +kernel
theorem dL_areObjects_205 : decode cL_areObjects 205 = .ok (.invokevirtual 105, 3) := by decide +kernel
theorem dL_areObjects_208 : decode cL_areObjects 208 = .ok (.iload 11, 2) := by decide +kernel
theorem dL_areObjects_210 : decode cL_areObjects 210 = .ok (.if_icmp .ne 36, 3) := by decide +kernel
theorem dL_areObjects_213 : decode cL_areObjects 213 = .ok (.aload_n 0, 1) := by decide +kernel
theorem dL_areObjects_214 : decode cL_areObjects 214 = .ok (.iload 10, 2) := by decide +kernel
theorem dL_areObjects_216 : decode cL_areObjects 216 = .ok (.bipush 7, 2) := by decide +kernel
theorem dL_areObjects_218 : decode cL_areObjects 218 = .ok (.invokevirtual 105, 3) := by decide +kernel
theorem dL_areObjects_221 : decode cL_areObjects 221 = .ok (.aload 5, 2) := by decide +kernel
theorem dL_areObjects_223 : decode cL_areObjects 223 = .ok (.iload 10, 2) := by decide +kernel
theorem dL_areObjects_225 : decode cL_areObjects 225 = .ok (.iaload, 1) := by decide +kernel
theorem dL_areObjects_226 : decode cL_areObjects 226 = .ok (.if_icmp .ne 20, 3) := by decide +kernel
theorem dL_areObjects_229 : decode cL_areObjects 229 = .ok (.aload_n 0, 1) := by decide +kernel
theorem dL_areObjects_230 : decode cL_areObjects 230 = .ok (.iload 10, 2) := by decide +kernel
theorem dL_areObjects_232 : decode cL_areObjects 232 = .ok (.bipush 8, 2) := by decide +kernel
theorem dL_areObjects_234 : decode cL_areObjects 234 = .ok (.invokevirtual 105, 3) := by decide +kernel
theorem dL_areObjects_237 : decode cL_areObjects 237 = .ok (.bipush (-11), 2) := by decide +kernel
theorem dL_areObjects_239 : decode cL_areObjects 239 = .ok (.if_icmp .ne 7, 3) := by decide +kernel
theorem dL_areObjects_242 : decode cL_areObjects 242 = .ok (.iconst 1, 1) := by decide +kernel
theorem dL_areObjects_243 : decode cL_areObjects 243 = .ok (.goto 4, 3) := by decide +kernel
theorem dL_areObjects_246 : decode cL_areObjects 246 = .ok (.iconst 0, 1) := by decide +kernel
theorem dL_areObjects_247 : decode cL_areObjects 247 = .ok (.istore 8, 2) := by decide +kernel
theorem dL_areObjects_249 : decode cL_areObjects 249 = .ok (.iinc 10 1, 3) := by decide +kernel
theorem dL_areObjects_252 : decode cL_areObjects 252 = .ok (.goto (-237), 3) := by decide +kernel
theorem dL_areObjects_255 : decode cL_areObjects 255 = .ok (.iload 8, 2) := by decide +kernel
theorem dL_areObjects_257 : decode cL_areObjects 257 = .ok (.ifCond .eq 30, 3) := by decide +kernel
theorem dL_areObjects_260 : decode cL_areObjects 260 = .ok (.aload_n 0, 1) := by decide +kernel
theorem dL_areObjects_261 : decode cL_areObjects 261 = .ok (.bipush 24, 2) := by decide +kernel
theorem dL_areObjects_263 : decode cL_areObjects 263 = .ok (.iconst 0, 1) := by decide +kernel
theorem dL_areObjects_264 : decode cL_areObjects 264 = .ok (.invokevirtual 105, 3) := by decide +kernel
theorem dL_areObjects_267 : decode cL_areObjects 267 = .ok (.bipush (-11), 2) := by decide +kernel
theorem dL_areObjects_269 : decode cL_areObjects 269 = .ok (.if_icmp .ne 18, 3) := by decide +kernel
theorem dL_areObjects_272 : decode cL_areObjects 272 = .ok (.aload_n 0, 1) := by decide +kernel
theorem dL_areObjects_273 : decode cL_areObjects 273 = .ok (.iconst (-1), 1) := by decide +kernel
theorem dL_areObjects_274 : decode cL_areObjects 274 = .ok (.iconst 0, 1) := by decide +kernel
theorem dL_areObjects_275 : decode cL_areObjects 275 = .ok (.invokevirtual 105, 3) := by decide +kernel
theorem dL_areObjects_278 : decode cL_areObjects 278 = .ok (.bipush (-11), 2) := by decide +kernel
theorem dL_areObjects_280 : decode cL_areObjects 280 = .ok (.if_icmp .ne 7, 3) := by decide +kernel
theorem dL_areObjects_283 : decode cL_areObjects 283 = .ok (.iconst 1, 1) := by decide +kernel
theorem dL_areObjects_284 : decode cL_areObjects 284 = .ok (.goto 4, 3) := by decide +kernel
theorem dL_areObjects_287 : decode cL_areObjects 287 = .ok (.iconst 0, 1) := by decide +kernel
theorem dL_areObjects_288 : decode cL_areObjects 288 = .ok (.ireturn, 1) := by decide +kernel
theorem dL_isSo_0 : decode cL_isSo 0 = .ok (.aload_n 0, 1) := by decide +kernel
theorem dL_isSo_1 : decode cL_isSo 1 = .ok (.aload_n 1, 1) := by decide +kernel
theorem dL_isSo_2 : decode cL_isSo 2 = .ok (.aload_n 2, 1) := by decide +kernel
theorem dL_isSo_3 : decode cL_isSo 3 = .ok (.aload_n 3, 1) := by decide +kernel
theorem dL_isSo_4 : decode cL_isSo 4 = .ok (.aload 4, 2) := by decide +kernel
theorem dL_isSo_6 : decode cL_isSo 6 = .ok (.aload 5, 2) := by decide +kernel
theorem dL_isSo_8 : decode cL_isSo 8 = .ok (.aload 6, 2) := by decide +kernel
theorem dL_isSo_10 : decode cL_isSo 10 = .ok (.aload 8, 2) := by decide +kernel
theorem dL_isSo_12 : decode cL_isSo 12 = .ok (.invokestatic 108, 3) := by decide +kernel
theorem dL_isSo_15 : decode cL_isSo 15 = .ok (.istore 9, 2) := by decide +kernel
theorem dL_isSo_17 : decode cL_isSo 17 = .ok (.bipush 7, 2) := by decide +kernel
theorem dL_isSo_19 : decode cL_isSo 19 = .ok (.newarray .int, 2) := by decide +kernel
theorem dL_isSo_21 : decode cL_isSo 21 = .ok (.astore 10, 2) := by decide +kernel
theorem dL_isSo_23 : decode cL_isSo 23 = .ok (.iconst 0, 1) := by decide +kernel
theorem dL_isSo_24 : decode cL_isSo 24 = .ok (.istore 11, 2) := by decide +kernel
theorem dL_isSo_26 : decode cL_isSo 26 = .ok (.iconst 0, 1) := by decide +kernel
theorem dL_isSo_27 : decode cL_isSo 27 = .ok (.istore 12, 2) := by decide +kernel
theorem dL_isSo_29 : decode cL_isSo 29 = .ok (.iload 12, 2) := by decide +kernel
theorem dL_isSo_31 : decode cL_isSo 31 = .ok (.bipush 24, 2) := by decide +kernel
theorem dL_isSo_33 : decode cL_isSo 33 = .ok (.if_icmp .ge 144, 3) := by decide +kernel
theorem dL_isSo_36 : decode cL_isSo 36 = .ok (.iconst 1, 1) := by decide +kernel
theorem dL_isSo_37 : decode cL_isSo 37 = .ok (.iload 12, 2) := by decide +kernel
theorem dL_isSo_39 : decode cL_isSo 39 = .ok (.ishl, 1) := by decide +kernel
theorem dL_isSo_40 : decode cL_isSo 40 = .ok (.istore 13, 2) := by decide +kernel
theorem dL_isSo_42 : decode cL_isSo 42 = .ok (.iload 11, 2) := by decide +kernel
theorem dL_isSo_44 : decode cL_isSo 44 = .ok (.aload_n 3, 1) := by decide +kernel
theorem dL_isSo_45 : decode cL_isSo 45 = .ok (.iload 12, 2) := by decide +kernel
theorem dL_isSo_47 : decode cL_isSo 47 = .ok (.iaload, 1) := by decide +kernel
theorem dL_isSo_48 : decode cL_isSo 48 = .ok (.ifCond .ge 7, 3) := by decide +kernel
theorem dL_isSo_51 : decode cL_isSo 51 = .ok (.iconst 0, 1) := by decide +kernel
theorem dL_isSo_52 : decode cL_isSo 52 = .ok (.goto 4, 3) := by decide +kernel
theorem dL_isSo_55 : decode cL_isSo 55 = .ok (.iconst 1, 1) := by decide +kernel
theorem dL_isSo_56 : decode cL_isSo 56 = .ok (.iadd, 1) := by decide +kernel
theorem dL_isSo_57 : decode cL_isSo 57 = .ok (.istore 11, 2) := by decide +kernel
theorem dL_isSo_59 : decode cL_isSo 59 = .ok (.aload 10, 2) := by decide +kernel
theorem dL_isSo_61 : decode cL_isSo 61 = .ok (.iconst 0, 1) := by decide +kernel
theorem dL_isSo_62 : decode cL_isSo 62 = .ok (.dup2, 1) := by decide +kernel
theorem dL_isSo_63 : decode cL_isSo 63 = .ok (.iaload, 1) := by decide +kernel
theorem dL_isSo_64 : decode cL_isSo 64 = .ok (.aload_n 3, 1) := by decide +kernel
theorem dL_isSo_65 : decode cL_isSo 65 = .ok (.iload 12, 2) := by decide +kernel
theorem dL_isSo_67 : decode cL_isSo 67 = .ok (.iaload, 1) := by decide +kernel
theorem dL_isSo_68 : decode cL_isSo 68 = .ok (.ifCond .ge 7, 3) := by decide +kernel
theorem dL_isSo_71 : decode cL_isSo 71 = .ok (.iconst 0, 1) := by decide +kernel
theorem dL_isSo_72 : decode cL_isSo 72 = .ok (.goto 5, 3) := by decide +kernel
theorem dL_isSo_75 : decode cL_isSo 75 = .ok (.iload 13, 2) := by decide +kernel
theorem dL_isSo_77 : decode cL_isSo 77 = .ok (.ior, 1) := by decide +kernel
theorem dL_isSo_78 : decode cL_isSo 78 = .ok (.iastore, 1) := by decide +kernel
theorem dL_isSo_79 : decode cL_isSo 79 = .ok (.aload 10, 2) := by decide +kernel
theorem dL_isSo_81 : decode cL_isSo 81 = .ok (.iconst 3, 1) := by decide +kernel
theorem dL_isSo_82 : decode cL_isSo 82 = .ok (.dup2, 1) := by decide +kernel
theorem dL_isSo_83 : decode cL_isSo 83 = .ok (.iaload, 1) := by decide +kernel
theorem dL_isSo_84 : decode cL_isSo 84 = .ok (.aload_n 3, 1) := by decide +kernel
theorem dL_isSo_85 : decode cL_isSo 85 = .ok (.iload 12, 2) := by decide +kernel
theorem dL_isSo_87 : decode cL_isSo 87 = .ok (.iaload, 1) := by decide +kernel
theorem dL_isSo_88 : decode cL_isSo 88 = .ok (.ifCond .ne 8, 3) := by decide +kernel
theorem dL_isSo_91 : decode cL_isSo 91 = .ok (.iload 13, 2) := by decide +kernel
theorem dL_isSo_93 : decode cL_isSo 93 = .ok (.goto 4, 3) := by decide +kernel
theorem dL_isSo_96 : decode cL_isSo 96 = .ok (.iconst 0, 1) := by decide +kernel
theorem dL_isSo_97 : decode cL_isSo 97 = .ok (.ior, 1) := by decide +kernel
theorem dL_isSo_98 : decode cL_isSo 98 = .ok (.iastore, 1) := by decide +kernel
theorem dL_isSo_99 : decode cL_isSo 99 = .ok (.aload 10, 2) := by decide +kernel
theorem dL_isSo_101 : decode cL_isSo 101 = .ok (.iconst 4, 1) := by decide +kernel
theorem dL_isSo_102 : decode cL_isSo 102 = .ok (.dup2, 1) := by decide +kernel
theorem dL_isSo_103 : decode cL_isSo 103 = .ok (.iaload, 1) := by decide +kernel
theorem dL_isSo_104 : decode cL_isSo 104 = .ok (.aload_n 3, 1) := by decide +kernel
theorem dL_isSo_105 : decode cL_isSo 105 = .ok (.iload 12, 2) := by decide +kernel
theorem dL_isSo_107 : decode cL_isSo 107 = .ok (.iaload, 1) := by decide +kernel
theorem dL_isSo_108 : decode cL_isSo 108 = .ok (.iconst 1, 1) := by decide +kernel
theorem dL_isSo_109 : decode cL_isSo 109 = .ok (.if_icmp .ne 8, 3) := by decide +kernel
theorem dL_isSo_112 : decode cL_isSo 112 = .ok (.iload 13, 2) := by decide +kernel
theorem dL_isSo_114 : decode cL_isSo 114 = .ok (.goto 4, 3) := by decide +kernel
theorem dL_isSo_117 : decode cL_isSo 117 = .ok (.iconst 0, 1) := by decide +kernel
theorem dL_isSo_118 : decode cL_isSo 118 = .ok (.ior, 1) := by decide +kernel
theorem dL_isSo_119 : decode cL_isSo 119 = .ok (.iastore, 1) := by decide +kernel
theorem dL_isSo_120 : decode cL_isSo 120 = .ok (.aload 10, 2) := by decide +kernel
theorem dL_isSo_122 : decode cL_isSo 122 = .ok (.iconst 5, 1) := by decide +kernel
theorem dL_isSo_123 : decode cL_isSo 123 = .ok (.dup2, 1) := by decide +kernel
theorem dL_isSo_124 : decode cL_isSo 124 = .ok (.iaload, 1) := by decide +kernel
theorem dL_isSo_125 : decode cL_isSo 125 = .ok (.aload_n 3, 1) := by decide +kernel
theorem dL_isSo_126 : decode cL_isSo 126 = .ok (.iload 12, 2) := by decide +kernel
theorem dL_isSo_128 : decode cL_isSo 128 = .ok (.iaload, 1) := by decide +kernel
theorem dL_isSo_129 : decode cL_isSo 129 = .ok (.iconst 2, 1) := by decide +kernel
theorem dL_isSo_130 : decode cL_isSo 130 = .ok (.if_icmp .ne 8, 3) := by decide +kernel
theorem dL_isSo_133 : decode cL_isSo 133 = .ok (.iload 13, 2) := by decide +kernel
theorem dL_isSo_135 : decode cL_isSo 135 = .ok (.goto 4, 3) := by decide +kernel
theorem dL_isSo_138 : decode cL_isSo 138 = .ok (.iconst 0, 1) := by decide +kernel
theorem dL_isSo_139 : decode cL_isSo 139 = .ok (.ior, 1) := by decide +kernel
theorem dL_isSo_140 : decode cL_isSo 140 = .ok (.iastore, 1) := by decide +kernel
theorem dL_isSo_141 : decode cL_isSo 141 = .ok (.aload 10, 2) := by decide +kernel
theorem dL_isSo_143 : decode cL_isSo 143 = .ok (.bipush 6, 2) := by decide +kernel
theorem dL_isSo_145 : decode cL_isSo 145 = .ok (.dup2, 1) := by decide +kernel
theorem dL_isSo_146 : decode cL_isSo 146 = .ok (.iaload, 1) := by decide +kernel
theorem dL_isSo_147 : decode cL_isSo 147 = .ok (.aload_n 3, 1) := by decide +kernel
theorem dL_isSo_148 : decode cL_isSo 148 = .ok (.iload 12, 2) := by decide +kernel
theorem dL_isSo_150 : decode cL_isSo 150 = .ok (.iaload, 1) := by decide +kernel
theorem dL_isSo_151 : decode cL_isSo 151 = .ok (.ifCond .lt 17, 3) := by decide +kernel
theorem dL_isSo_154 : decode cL_isSo 154 = .ok (.aload 4, 2) := by decide +kernel
theorem dL_isSo_156 : decode cL_isSo 156 = .ok (.iload 12, 2) := by decide +kernel
theorem dL_isSo_158 : decode cL_isSo 158 = .ok (.iaload, 1) := by decide +kernel
theorem dL_isSo_159 : decode cL_isSo 159 = .ok (.iconst 1, 1) := by decide +kernel
theorem dL_isSo_160 : decode cL_isSo 160 = .ok (.if_icmp .ne 8, 3) := by decide +kernel
theorem dL_isSo_163 : decode cL_isSo 163 = .ok (.iload 13, 2) := by decide +kernel
theorem dL_isSo_165 : decode cL_isSo 165 = .ok (.goto 4, 3) := by decide +kernel
theorem dL_isSo_168 : decode cL_isSo 168 = .ok (.iconst 0, 1) := by decide +kernel
theorem dL_isSo_169 : decode cL_isSo 169 = .ok (.ior, 1) := by decide +kernel
theorem dL_isSo_170 : decode cL_isSo 170 = .ok (.iastore, 1) := by decide +kernel
theorem dL_isSo_171 : decode cL_isSo 171 = .ok (.iinc 12 1, 3) := by decide +kernel
theorem dL_isSo_174 : decode cL_isSo 174 = .ok (.goto (-145), 3) := by decide +kernel
theorem dL_isSo_177 : decode cL_isSo 177 = .ok (.aload 10, 2) := by decide +kernel
theorem dL_isSo_179 : decode cL_isSo 179 = .ok (.iconst 1, 1) := by decide +kernel
theorem dL_isSo_180 : decode cL_isSo 180 = .ok (.aload_n 2, 1) := by decide +kernel
theorem dL_isSo_181 : decode cL_isSo 181 = .ok (.aload 8, 2) := by decide +kernel
theorem dL_isSo_183 : decode cL_isSo 183 = .ok (.iconst (-1), 1) := by decide +kernel
theorem dL_isSo_184 : decode cL_isSo 184 = .ok (.invokestatic 19, 3) := by decide +kernel
theorem dL_isSo_187 : decode cL_isSo 187 = .ok (.iastore, 1) := by decide +kernel
theorem dL_isSo_188 : decode cL_isSo 188 = .ok (.aload 10, 2) := by decide +kernel
theorem dL_isSo_190 : decode cL_isSo 190 = .ok (.iconst 2, 1) := by decide +kernel
theorem dL_isSo_191 : decode cL_isSo 191 = .ok (.aload_n 1, 1) := by decide +kernel
theorem dL_isSo_192 : decode cL_isSo 192 = .ok (.aload_n 2, 1) := by decide +kernel
theorem dL_isSo_193 : decode cL_isSo 193 = .ok (.aload 6, 2) := by decide +kernel
theorem dL_isSo_195 : decode cL_isSo 195 = .ok (.aload 8, 2) := by decide +kernel
theorem dL_isSo_197 : decode cL_isSo 197 = .ok (.invokestatic 63, 3) := by decide +kernel
theorem dL_isSo_200 : decode cL_isSo 200 = .ok (.iastore, 1) := by decide +kernel
theorem dL_isSo_201 : decode cL_isSo 201 = .ok (.iconst 0, 1) := by decide +kernel
theorem dL_isSo_202 : decode cL_isSo 202 = .ok (.istore 12, 2) := by decide +kernel
theorem dL_isSo_204 : decode cL_isSo 204 = .ok (.iload 12, 2) := by decide +kernel
theorem dL_isSo_206 : decode cL_isSo 206 = .ok (.bipush 7, 2) := by decide +kernel
theorem dL_isSo_208 : decode cL_isSo 208 = .ok (.if_icmp .ge 35, 3) := by decide +kernel
theorem dL_isSo_211 : decode cL_isSo 211 = .ok (.iload 9, 2) := by decide +kernel
theorem dL_isSo_213 : decode cL_isSo 213 = .ok (.ifCond .eq 30, 3) := by decide +kernel
theorem dL_isSo_216 : decode cL_isSo 216 = .ok (.aload_n 0, 1) := by decide +kernel
theorem dL_isSo_217 : decode cL_isSo 217 = .ok (.iload 12, 2) := by decide +kernel
theorem dL_isSo_219 : decode cL_isSo 219 = .ok (.invokevirtual 112, 3) := by decide +kernel
theorem dL_isSo_222 : decode cL_isSo 222 = .ok (.aload 10, 2) := by decide +kernel
theorem dL_isSo_224 : decode cL_isSo 224 = .ok (.iload 12, 2) := by decide +kernel
theorem dL_isSo_226 : decode cL_isSo 226 = .ok (.iaload, 1) := by decide +kernel
theorem dL_isSo_227 : decode cL_isSo 227 = .ok (.if_icmp .ne 7, 3) := by decide +kernel
theorem dL_isSo_230 : decode cL_isSo 230 = .ok (.iconst 1, 1) := by decide +kernel
theorem dL_isSo_231 : decode cL_isSo 231 = .ok (.goto 4, 3) := by decide +kernel
theorem dL_isSo_234 : decode cL_isSo 234 = .ok (.iconst 0, 1) := by decide +kernel
theorem dL_isSo_235 : decode cL_isSo 235 = .ok (.istore 9, 2) := by decide +kernel
theorem dL_isSo_237 : decode cL_isSo 237 = .ok (.iinc 12 1, 3) := by decide +kernel
theorem dL_isSo_240 : decode cL_isSo 240 = .ok (.goto (-36), 3) := by decide +kernel
theorem dL_isSo_243 : decode cL_isSo 243 = .ok (.iconst 0, 1) := by decide +kernel
theorem dL_isSo_244 : decode cL_isSo 244 = .ok (.istore 12, 2) := by decide +kernel
theorem dL_isSo_246 : decode cL_isSo 246 = .ok (.iload 12, 2) := by decide +kernel
theorem dL_isSo_248 : decode cL_isSo 248 = .ok (.bipush 8, 2) := by decide +kernel
theorem dL_isSo_250 : decode cL_isSo 250 = .ok (.if_icmp .ge 54, 3) := by decide +kernel
theorem dL_isSo_253 : decode cL_isSo 253 = .ok (.iload 9, 2) := by decide +kernel
theorem dL_isSo_255 : decode cL_isSo 255 = .ok (.ifCond .eq 49, 3) := by decide +kernel
theorem dL_isSo_258 : decode cL_isSo 258 = .ok (.aload_n 0, 1) := by decide +kernel
theorem dL_isSo_259 : decode cL_isSo 259 = .ok (.iload 12, 2) := by decide +kernel
theorem dL_isSo_261 : decode cL_isSo 261 = .ok (.iconst 4, 1) := by decide +kernel
theorem dL_isSo_262 : decode cL_isSo 262 = .ok (.idiv, 1) := by decide +kernel
theorem dL_isSo_263 : decode cL_isSo 263 = .ok (.iload 12, 2) := by decide +kernel
theorem dL_isSo_265 : decode cL_isSo 265 = .ok (.iconst 4, 1) := by decide +kernel
theorem dL_isSo_266 : decode cL_isSo 266 = .ok (.irem, 1) := by decide +kernel
theorem dL_isSo_267 : decode cL_isSo 267 = .ok (.invokevirtual 115, 3) := by decide +kernel
theorem dL_isSo_270 : decode cL_isSo 270 = .ok (.aload 8, 2) := by decide +kernel
theorem dL_isSo_272 : decode cL_isSo 272 = .ok (.iload 12, 2) := by decide +kernel
theorem dL_isSo_274 : decode cL_isSo 274 = .ok (.iaload, 1) := by decide +kernel
theorem dL_isSo_275 : decode cL_isSo 275 = .ok (.ifCond .ge 8, 3) := by decide +kernel
theorem dL_isSo_278 : decode cL_isSo 278 = .ok (.bipush (-14), 2) := by decide +kernel
theorem dL_isSo_280 : decode cL_isSo 280 = .ok (.goto 8, 3) := by decide +kernel
theorem dL_isSo_283 : decode cL_isSo 283 = .ok (.aload 8, 2) := by decide +kernel
theorem dL_isSo_285 : decode cL_isSo 285 = .ok (.iload 12, 2) := by decide +kernel
theorem dL_isSo_287 : decode cL_isSo 287 = .ok (.iaload, 1) := by decide +kernel
theorem dL_isSo_288 : decode cL_isSo 288 = .ok (.if_icmp .ne 7, 3) := by decide +kernel
theorem dL_isSo_291 : decode cL_isSo 291 = .ok (.iconst 1, 1) := by decide +kernel
theorem dL_isSo_292 : decode cL_isSo 292 = .ok (.goto 4, 3) := by decide +kernel
theorem dL_isSo_295 : decode cL_isSo 295 = .ok (.iconst 0, 1) := by decide +kernel
theorem dL_isSo_296 : decode cL_isSo 296 = .ok (.istore 9, 2) := by decide +kernel
theorem dL_isSo_298 : decode cL_isSo 298 = .ok (.iinc 12 1, 3) := by decide +kernel
theorem dL_isSo_301 : decode cL_isSo 301 = .ok (.goto (-55), 3) := by decide +kernel
theorem dL_isSo_304 : decode cL_isSo 304 = .ok (.iconst 0, 1) := by decide +kernel
theorem dL_isSo_305 : decode cL_isSo 305 = .ok (.istore 12, 2) := by decide +kernel
theorem dL_isSo_307 : decode cL_isSo 307 = .ok (.iload 12, 2) := by decide +kernel
theorem dL_isSo_309 : decode cL_isSo 309 = .ok (.aload_n 1, 1) := by decide +kernel
theorem dL_isSo_310 : decode cL_isSo 310 = .ok (.bipush 10, 2) := by decide +kernel
theorem dL_isSo_312 : decode cL_isSo 312 = .ok (.iaload, 1) := by decide +kernel
theorem dL_isSo_313 : decode cL_isSo 313 = .ok (.if_icmp .ge 35, 3) := by decide +kernel
theorem dL_isSo_316 : decode cL_isSo 316 = .ok (.iload 9, 2) := by decide +kernel
theorem dL_isSo_318 : decode cL_isSo 318 = .ok (.ifCond .eq 30, 3) := by decide +kernel
theorem dL_isSo_321 : decode cL_isSo 321 = .ok (.aload_n 0, 1) := by decide +kernel
theorem dL_isSo_322 : decode cL_isSo 322 = .ok (.iload 12, 2) := by decide +kernel
theorem dL_isSo_324 : decode cL_isSo 324 = .ok (.invokevirtual 118, 3) := by decide +kernel
theorem dL_isSo_327 : decode cL_isSo 327 = .ok (.aload 7, 2) := by decide +kernel
theorem dL_isSo_329 : decode cL_isSo 329 = .ok (.iload 12, 2) := by decide +kernel
theorem dL_isSo_331 : decode cL_isSo 331 = .ok (.iaload, 1) := by decide +kernel
theorem dL_isSo_332 : decode cL_isSo 332 = .ok (.if_icmp .ne 7, 3) := by decide +kernel
theorem dL_isSo_335 : decode cL_isSo 335 = .ok (.iconst 1, 1) := by decide +kernel
theorem dL_isSo_336 : decode cL_isSo 336 = .ok (.goto 4, 3) := by decide +kernel
theorem dL_isSo_339 : decode cL_isSo 339 = .ok (.iconst 0, 1) := by decide +kernel
theorem dL_isSo_340 : decode cL_isSo 340 = .ok (.istore 9, 2) := by decide +kernel
theorem dL_isSo_342 : decode cL_isSo 342 = .ok (.iinc 12 1, 3) := by decide +kernel
theorem dL_isSo_345 : decode cL_isSo 345 = .ok (.goto (-38), 3) := by decide +kernel
theorem dL_isSo_348 : decode cL_isSo 348 = .ok (.iload 9, 2) := by decide +kernel
theorem dL_isSo_350 : decode cL_isSo 350 = .ok (.ifCond .eq 88, 3) := by decide +kernel
theorem dL_isSo_353 : decode cL_isSo 353 = .ok (.aload 10, 2) := by decide +kernel
theorem dL_isSo_355 : decode cL_isSo 355 = .ok (.iconst 2, 1) := by decide +kernel
theorem dL_isSo_356 : decode cL_isSo 356 = .ok (.iaload, 1) := by decide +kernel
theorem dL_isSo_357 : decode cL_isSo 357 = .ok (.aload 10, 2) := by decide +kernel
theorem dL_isSo_359 : decode cL_isSo 359 = .ok (.iconst 0, 1) := by decide +kernel
theorem dL_isSo_360 : decode cL_isSo 360 = .ok (.iaload, 1) := by decide +kernel
theorem dL_isSo_361 : decode cL_isSo 361 = .ok (.iconst (-1), 1) := by decide +kernel
theorem dL_isSo_362 : decode cL_isSo 362 = .ok (.ixor, 1) := by decide +kernel
theorem dL_isSo_363 : decode cL_isSo 363 = .ok (.iand, 1) := by decide +kernel
theorem dL_isSo_364 : decode cL_isSo 364 = .ok (.ifCond .ne 74, 3) := by decide +kernel
theorem dL_isSo_367 : decode cL_isSo 367 = .ok (.aload_n 1, 1) := by decide +kernel
theorem dL_isSo_368 : decode cL_isSo 368 = .ok (.iconst 0, 1) := by decide +kernel
theorem dL_isSo_369 : decode cL_isSo 369 = .ok (.iaload, 1) := by decide +kernel
theorem dL_isSo_370 : decode cL_isSo 370 = .ok (.ifCond .gt 17, 3) := by decide +kernel
theorem dL_isSo_373 : decode cL_isSo 373 = .ok (.aload 10, 2) := by decide +kernel
theorem dL_isSo_375 : decode cL_isSo 375 = .ok (.iconst 4, 1) := by decide +kernel
theorem dL_isSo_376 : decode cL_isSo 376 = .ok (.iaload, 1) := by decide +kernel
theorem dL_isSo_377 : decode cL_isSo 377 = .ok (.ifCond .ne 61, 3) := by decide +kernel
theorem dL_isSo_380 : decode cL_isSo 380 = .ok (.aload 10, 2) := by decide +kernel
theorem dL_isSo_382 : decode cL_isSo 382 = .ok (.iconst 5, 1) := by decide +kernel
theorem dL_isSo_383 : decode cL_isSo 383 = .ok (.iaload, 1) := by decide +kernel
theorem dL_isSo_384 : decode cL_isSo 384 = .ok (.ifCond .ne 54, 3) := by decide +kernel
theorem dL_isSo_387 : decode cL_isSo 387 = .ok (.aload_n 0, 1) := by decide +kernel
theorem dL_isSo_388 : decode cL_isSo 388 = .ok (.aload_n 1, 1) := by decide +kernel
theorem dL_isSo_389 : decode cL_isSo 389 = .ok (.bipush 10, 2) := by decide +kernel
theorem dL_isSo_391 : decode cL_isSo 391 = .ok (.iaload, 1) := by decide +kernel
theorem dL_isSo_392 : decode cL_isSo 392 = .ok (.invokevirtual 118, 3) := by decide +kernel
theorem dL_isSo_395 : decode cL_isSo 395 = .ok (.bipush (-14), 2) := by decide +kernel
theorem dL_isSo_397 : decode cL_isSo 397 = .ok (.if_icmp .ne 41, 3) := by decide +kernel
theorem dL_isSo_400 : decode cL_isSo 400 = .ok (.aload_n 0, 1) := by decide +kernel
theorem dL_isSo_401 : decode cL_isSo 401 = .ok (.iconst (-1), 1) := by decide +kernel
theorem dL_isSo_402 : decode cL_isSo 402 = .ok (.invokevirtual 118, 3) := by decide +kernel
theorem dL_isSo_405 : decode cL_isSo 405 = .ok (.bipush (-11), 2) := by decide +kernel
theorem dL_isSo_407 : decode cL_isSo 407 = .ok (.if_icmp .ne 31, 3) := by decide +kernel
theorem dL_isSo_410 : decode cL_isSo 410 = .ok (.aload_n 0, 1) := by decide +kernel
theorem dL_isSo_411 : decode cL_isSo 411 = .ok (.bipush 7, 2) := by decide +kernel
theorem dL_isSo_413 : decode cL_isSo 413 = .ok (.invokevirtual 112, 3) := by decide +kernel
theorem dL_isSo_416 : decode cL_isSo 416 = .ok (.aload_n 1, 1) := by decide +kernel
theorem dL_isSo_417 : decode cL_isSo 417 = .ok (.bipush 7, 2) := by decide +kernel
theorem dL_isSo_419 : decode cL_isSo 419 = .ok (.iaload, 1) := by decide +kernel
theorem dL_isSo_420 : decode cL_isSo 420 = .ok (.if_icmp .ne 18, 3) := by decide +kernel
theorem dL_isSo_423 : decode cL_isSo 423 = .ok (.aload_n 0, 1) := by decide +kernel
theorem dL_isSo_424 : decode cL_isSo 424 = .ok (.bipush 8, 2) := by decide +kernel
theorem dL_isSo_426 : decode cL_isSo 426 = .ok (.invokevirtual 112, 3) := by decide +kernel
theorem dL_isSo_429 : decode cL_isSo 429 = .ok (.bipush (-11), 2) := by decide +kernel
theorem dL_isSo_431 : decode cL_isSo 431 = .ok (.if_icmp .ne 7, 3) := by decide +kernel
theorem dL_isSo_434 : decode cL_isSo 434 = .ok (.iconst 1, 1) := by decide +kernel
theorem dL_isSo_435 : decode cL_isSo 435 = .ok (.goto 4, 3) := by decide +kernel
theorem dL_isSo_438 : decode cL_isSo 438 = .ok (.iconst 0, 1) := by decide +kernel
theorem dL_isSo_439 : decode cL_isSo 439 = .ok (.istore 9, 2) := by decide +kernel
theorem dL_isSo_441 : decode cL_isSo 441 = .ok (.iload 9, 2) := by decide +kernel
theorem dL_isSo_443 : decode cL_isSo 443 = .ok (.ifCond .eq 171, 3) := by decide +kernel
theorem dL_isSo_446 : decode cL_isSo 446 = .ok (.aload_n 0, 1) := by decide +kernel
theorem dL_isSo_447 : decode cL_isSo 447 = .ok (.iconst 0, 1) := by decide +kernel
theorem dL_isSo_448 : decode cL_isSo 448 = .ok (.invokevirtual 121, 3) := by decide +kernel
theorem dL_isSo_451 : decode cL_isSo 451 = .ok (.iload 11, 2) := by decide +kernel
theorem dL_isSo_453 : decode cL_isSo 453 = .ok (.if_icmp .ne 161, 3) := by decide +kernel
theorem dL_isSo_456 : decode cL_isSo 456 = .ok (.aload_n 0, 1) := by decide +kernel
theorem dL_isSo_457 : decode cL_isSo 457 = .ok (.iconst 1, 1) := by decide +kernel
theorem dL_isSo_458 : decode cL_isSo 458 = .ok (.invokevirtual 121, 3) := by decide +kernel
theorem dL_isSo_461 : decode cL_isSo 461 = .ok (.aload_n 1, 1) := by decide +kernel
theorem dL_isSo_462 : decode cL_isSo 462 = .ok (.iconst 0, 1) := by decide +kernel
theorem dL_isSo_463 : decode cL_isSo 463 = .ok (.iaload, 1) := by decide +kernel
theorem dL_isSo_464 : decode cL_isSo 464 = .ok (.if_icmp .ne 150, 3) := by decide +kernel
theorem dL_isSo_467 : decode cL_isSo 467 = .ok (.aload_n 0, 1) := by decide +kernel
theorem dL_isSo_468 : decode cL_isSo 468 = .ok (.iconst 2, 1) := by decide +kernel
theorem dL_isSo_469 : decode cL_isSo 469 = .ok (.invokevirtual 121, 3) := by decide +kernel
theorem dL_isSo_472 : decode cL_isSo 472 = .ok (.aload_n 1, 1) := by decide +kernel
theorem dL_isSo_473 : decode cL_isSo 473 = .ok (.iconst 2, 1) := by decide +kernel
theorem dL_isSo_474 : decode cL_isSo 474 = .ok (.iaload, 1) := by decide +kernel
theorem dL_isSo_475 : decode cL_isSo 475 = .ok (.if_icmp .ne 139, 3) := by decide +kernel
theorem dL_isSo_478 : decode cL_isSo 478 = .ok (.aload_n 0, 1) := by decide +kernel
theorem dL_isSo_479 : decode cL_isSo 479 = .ok (.iconst 3, 1) := by decide +kernel
theorem dL_isSo_480 : decode cL_isSo 480 = .ok (.invokevirtual 121, 3) := by decide +kernel
theorem dL_isSo_483 : decode cL_isSo 483 = .ok (.aload_n 1, 1) := by decide +kernel
theorem dL_isSo_484 : decode cL_isSo 484 = .ok (.iconst 3, 1) := by decide +kernel
theorem dL_isSo_485 : decode cL_isSo 485 = .ok (.iaload, 1) := by decide +kernel
theorem dL_isSo_486 : decode cL_isSo 486 = .ok (.if_icmp .ne 128, 3) := by decide +kernel
theorem dL_isSo_489 : decode cL_isSo 489 = .ok (.aload_n 0, 1) := by decide +kernel
theorem dL_isSo_490 : decode cL_isSo 490 = .ok (.iconst 4, 1) := by decide +kernel
theorem dL_isSo_491 : decode cL_isSo 491 = .ok (.invokevirtual 121, 3) := by decide +kernel
theorem dL_isSo_494 : decode cL_isSo 494 = .ok (.aload_n 1, 1) := by decide +kernel
theorem dL_isSo_495 : decode cL_isSo 495 = .ok (.iconst 4, 1) := by decide +kernel
theorem dL_isSo_496 : decode cL_isSo 496 = .ok (.iaload, 1) := by decide +kernel
theorem dL_isSo_497 : decode cL_isSo 497 = .ok (.if_icmp .ne 117, 3) := by decide +kernel
theorem dL_isSo_500 : decode cL_isSo 500 = .ok (.aload_n 0, 1) := by decide +kernel
theorem dL_isSo_501 : decode cL_isSo 501 = .ok (.iconst 5, 1) := by decide +kernel
theorem dL_isSo_502 : decode cL_isSo 502 = .ok (.invokevirtual 121, 3) := by decide +kernel
theorem dL_isSo_505 : decode cL_isSo 505 = .ok (.aload_n 1, 1) := by decide +kernel
theorem dL_isSo_506 : decode cL_isSo 506 = .ok (.iconst 5, 1) := by decide +kernel
theorem dL_isSo_507 : decode cL_isSo 507 = .ok (.iaload, 1) := by decide +kernel
theorem dL_isSo_508 : decode cL_isSo 508 = .ok (.if_icmp .ne 106, 3) := by decide +kernel
theorem dL_isSo_511 : decode cL_isSo 511 = .ok (.aload_n 0, 1) := by decide +kernel
theorem dL_isSo_512 : decode cL_isSo 512 = .ok (.bipush 6, 2) := by decide +kernel
theorem dL_isSo_514 : decode cL_isSo 514 = .ok (.invokevirtual 121, 3) := by decide +kernel
theorem dL_isSo_517 : decode cL_isSo 517 = .ok (.aload_n 1, 1) := by decide +kernel
theorem dL_isSo_518 : decode cL_isSo 518 = .ok (.bipush 9, 2) := by decide +kernel
theorem dL_isSo_520 : decode cL_isSo 520 = .ok (.iaload, 1) := by decide +kernel
theorem dL_isSo_521 : decode cL_isSo 521 = .ok (.if_icmp .ne 93, 3) := by decide +kernel
theorem dL_isSo_524 : decode cL_isSo 524 = .ok (.aload_n 0, 1) := by decide +kernel
theorem dL_isSo_525 : decode cL_isSo 525 = .ok (.bipush 7, 2) := by decide +kernel
theorem dL_isSo_527 : decode cL_isSo 527 = .ok (.invokevirtual 121, 3) := by decide +kernel
theorem dL_isSo_530 : decode cL_isSo 530 = .ok (.aload_n 1, 1) := by decide +kernel
theorem dL_isSo_531 : decode cL_isSo 531 = .ok (.iconst 0, 1) := by decide +kernel
theorem dL_isSo_532 : decode cL_isSo 532 = .ok (.iaload, 1) := by decide +kernel
theorem dL_isSo_533 : decode cL_isSo 533 = .ok (.iconst 3, 1) := by decide +kernel
theorem dL_isSo_534 : decode cL_isSo 534 = .ok (.if_icmp .ne 9, 3) := by decide +kernel
theorem dL_isSo_537 : decode cL_isSo 537 = .ok (.aload_n 1, 1) := by decide +kernel
theorem dL_isSo_538 : decode cL_isSo 538 = .ok (.iconst 1, 1) := by decide +kernel
theorem dL_isSo_539 : decode cL_isSo 539 = .ok (.iaload, 1) := by decide +kernel
theorem dL_isSo_540 : decode cL_isSo 540 = .ok (.goto 5, 3) := by decide +kernel
theorem dL_isSo_543 : decode cL_isSo 543 = .ok (.bipush (-14), 2) := by decide +kernel
theorem dL_isSo_545 : decode cL_isSo 545 = .ok (.if_icmp .ne 69, 3) := by decide +kernel
theorem dL_isSo_548 : decode cL_isSo 548 = .ok (.aload_n 0, 1) := by decide +kernel
theorem dL_isSo_549 : decode cL_isSo 549 = .ok (.bipush 8, 2) := by decide +kernel
theorem dL_isSo_551 : decode cL_isSo 551 = .ok (.invokevirtual 121, 3) := by decide +kernel
theorem dL_isSo_554 : decode cL_isSo 554 = .ok (.aload_n 1, 1) := by decide +kernel
theorem dL_isSo_555 : decode cL_isSo 555 = .ok (.iconst 2, 1) := by decide +kernel
theorem dL_isSo_556 : decode cL_isSo 556 = .ok (.iaload, 1) := by decide +kernel
theorem dL_isSo_557 : decode cL_isSo 557 = .ok (.ifCond .ne 8, 3) := by decide +kernel
theorem dL_isSo_560 : decode cL_isSo 560 = .ok (.bipush (-14), 2) := by decide +kernel
theorem dL_isSo_562 : decode cL_isSo 562 = .ok (.goto 7, 3) := by decide +kernel
theorem dL_isSo_565 : decode cL_isSo 565 = .ok (.aload_n 1, 1) := by decide +kernel
theorem dL_isSo_566 : decode cL_isSo 566 = .ok (.bipush 6, 2) := by decide +kernel
theorem dL_isSo_568 : decode cL_isSo 568 = .ok (.iaload, 1) := by decide +kernel
theorem dL_isSo_569 : decode cL_isSo 569 = .ok (.if_icmp .ne 45, 3) := by decide +kernel
theorem dL_isSo_572 : decode cL_isSo 572 = .ok (.aload_n 0, 1) := by decide +kernel
theorem dL_isSo_573 : decode cL_isSo 573 = .ok (.bipush 9, 2) := by decide +kernel
theorem dL_isSo_575 : decode cL_isSo 575 = .ok (.invokevirtual 121, 3) := by decide +kernel
theorem dL_isSo_578 : decode cL_isSo 578 = .ok (.aload_n 1, 1) := by decide +kernel
theorem dL_isSo_579 : decode cL_isSo 579 = .ok (.bipush 8, 2) := by decide +kernel
theorem dL_isSo_581 : decode cL_isSo 581 = .ok (.iaload, 1) := by decide +kernel
theorem dL_isSo_582 : decode cL_isSo 582 = .ok (.if_icmp .ne 32, 3) := by decide +kernel
theorem dL_isSo_585 : decode cL_isSo 585 = .ok (.aload_n 0, 1) := by decide +kernel
theorem dL_isSo_586 : decode cL_isSo 586 = .ok (.bipush 11, 2) := by decide +kernel
theorem dL_isSo_588 : decode cL_isSo 588 = .ok (.invokevirtual 121, 3) := by decide +kernel
theorem dL_isSo_591 : decode cL_isSo 591 = .ok (.ifCond .ne 23, 3) := by decide +kernel
theorem dL_isSo_594 : decode cL_isSo 594 = .ok (.aload_n 0, 1) := by decide +kernel
theorem dL_isSo_595 : decode cL_isSo 595 = .ok (.iconst 3, 1) := by decide +kernel
theorem dL_isSo_596 : decode cL_isSo 596 = .ok (.invokevirtual 121, 3) := by decide +kernel
theorem dL_isSo_599 : decode cL_isSo 599 = .ok (.aload_n 0, 1) := by decide +kernel
theorem dL_isSo_600 : decode cL_isSo 600 = .ok (.iconst 4, 1) := by decide +kernel
theorem dL_isSo_601 : decode cL_isSo 601 = .ok (.invokevirtual 121, 3) := by decide +kernel
theorem dL_isSo_604 : decode cL_isSo 604 = .ok (.isub, 1) := by decide +kernel
theorem dL_isSo_605 : decode cL_isSo 605 = .ok (.iload 11, 2) := by decide +kernel
theorem dL_isSo_607 : decode cL_isSo 607 = .ok (.if_icmp .ne 7, 3) := by decide +kernel
theorem dL_isSo_610 : decode cL_isSo 610 = .ok (.iconst 1, 1) := by decide +kernel
theorem dL_isSo_611 : decode cL_isSo 611 = .ok (.goto 4, 3) := by decide +kernel
theorem dL_isSo_614 : decode cL_isSo 614 = .ok (.iconst 0, 1) := by decide +kernel
theorem dL_isSo_615 : decode cL_isSo 615 = .ok (.ireturn, 1) := by decide +kernel
