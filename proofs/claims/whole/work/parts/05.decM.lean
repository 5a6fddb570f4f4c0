theorem dX7_in_0 : decode cX7_in 0 = .ok (.iload_n 0, 1) := by decide +kernel
theorem dX7_in_1 : decode cX7_in 1 = .ok (.iload_n 1, 1) := by decide +kernel
theorem dX7_in_2 : decode cX7_in 2 = .ok (.if_icmp .lt 12, 3) := by decide +kernel
theorem dX7_in_5 : decode cX7_in 5 = .ok (.iload_n 0, 1) := by decide +kernel
theorem dX7_in_6 : decode cX7_in 6 = .ok (.iload_n 2, 1) := by decide +kernel
theorem dX7_in_7 : decode cX7_in 7 = .ok (.if_icmp .gt 7, 3) := by decide +kernel
theorem dX7_in_10 : decode cX7_in 10 = .ok (.iconst 1, 1) := by decide +kernel
theorem dX7_in_11 : decode cX7_in 11 = .ok (.goto 4, 3) := by decide +kernel
theorem dX7_in_14 : decode cX7_in 14 = .ok (.iconst 0, 1) := by decide +kernel
theorem dX7_in_15 : decode cX7_in 15 = .ok (.ireturn, 1) := by decide +kernel
theorem dX7_isRoot_0 : decode cX7_isRoot 0 = .ok (.iload_n 0, 1) := by decide +kernel
theorem dX7_isRoot_1 : decode cX7_isRoot 1 = .ok (.iconst 0, 1) := by decide +kernel
theorem dX7_isRoot_2 : decode cX7_isRoot 2 = .ok (.iconst 3, 1) := by decide +kernel
theorem dX7_isRoot_3 : decode cX7_isRoot 3 = .ok (.invokestatic 39, 3) := by decide +kernel
theorem dX7_isRoot_6 : decode cX7_isRoot 6 = .ok (.ireturn, 1) := by decide +kernel
theorem dX7_ones_0 : decode cX7_ones 0 = .ok (.iconst 0, 1) := by decide +kernel
theorem dX7_ones_1 : decode cX7_ones 1 = .ok (.istore_n 1, 1) := by decide +kernel
theorem dX7_ones_2 : decode cX7_ones 2 = .ok (.iconst 0, 1) := by decide +kernel
theorem dX7_ones_3 : decode cX7_ones 3 = .ok (.istore_n 2, 1) := by decide +kernel
theorem dX7_ones_4 : decode cX7_ones 4 = .ok (.iload_n 2, 1) := by decide +kernel
theorem dX7_ones_5 : decode cX7_ones 5 = .ok (.bipush 24, 2) := by decide +kernel
theorem dX7_ones_7 : decode cX7_ones 7 = .ok (.if_icmp .ge 17, 3) := by decide +kernel
theorem dX7_ones_10 : decode cX7_ones 10 = .ok (.iload_n 1, 1) := by decide +kernel
theorem dX7_ones_11 : decode cX7_ones 11 = .ok (.iload_n 0, 1) := by decide +kernel
theorem dX7_ones_12 : decode cX7_ones 12 = .ok (.iload_n 2, 1) := by decide +kernel
theorem dX7_ones_13 : decode cX7_ones 13 = .ok (.ishr, 1) := by decide +kernel
theorem dX7_ones_14 : decode cX7_ones 14 = .ok (.iconst 1, 1) := by decide +kernel
theorem dX7_ones_15 : decode cX7_ones 15 = .ok (.iand, 1) := by decide +kernel
theorem dX7_ones_16 : decode cX7_ones 16 = .ok (.iadd, 1) := by decide +kernel
theorem dX7_ones_17 : decode cX7_ones 17 = .ok (.istore_n 1, 1) := by decide +kernel
theorem dX7_ones_18 : decode cX7_ones 18 = .ok (.iinc 2 1, 3) := by decide +kernel
theorem dX7_ones_21 : decode cX7_ones 21 = .ok (.goto (-17), 3) := by decide +kernel
theorem dX7_ones_24 : decode cX7_ones 24 = .ok (.iload_n 1, 1) := by decide +kernel
theorem dX7_ones_25 : decode cX7_ones 25 = .ok (.ireturn, 1) := by decide +kernel
theorem dX7_copies_0 : decode cX7_copies 0 = .ok (.iconst 0, 1) := by decide +kernel
theorem dX7_copies_1 : decode cX7_copies 1 = .ok (.istore_n 2, 1) := by decide +kernel
theorem dX7_copies_2 : decode cX7_copies 2 = .ok (.iload_n 2, 1) := by decide +kernel
theorem dX7_copies_3 : decode cX7_copies 3 = .ok (.sipush 235, 3) := by decide +kernel
theorem dX7_copies_6 : decode cX7_copies 6 = .ok (.if_icmp .ge 15, 3) := by decide +kernel
theorem dX7_copies_9 : decode cX7_copies 9 = .ok (.aload_n 1, 1) := by decide +kernel
theorem dX7_copies_10 : decode cX7_copies 10 = .ok (.iload_n 2, 1) := by decide +kernel
theorem dX7_copies_11 : decode cX7_copies 11 = .ok (.aload_n 0, 1) := by decide +kernel
theorem dX7_copies_12 : decode cX7_copies 12 = .ok (.iload_n 2, 1) := by decide +kernel
theorem dX7_copies_13 : decode cX7_copies 13 = .ok (.iaload, 1) := by decide +kernel
theorem dX7_copies_14 : decode cX7_copies 14 = .ok (.iastore, 1) := by decide +kernel
theorem dX7_copies_15 : decode cX7_copies 15 = .ok (.iinc 2 1, 3) := by decide +kernel
theorem dX7_copies_18 : decode cX7_copies 18 = .ok (.goto (-16), 3) := by decide +kernel
theorem dX7_copies_21 : decode cX7_copies 21 = .ok (.return_, 1) := by decide +kernel
theorem dX7_changes_0 : decode cX7_changes 0 = .ok (.aload_n 0, 1) := by decide +kernel
theorem dX7_changes_1 : decode cX7_changes 1 = .ok (.getfield 31, 3) := by decide +kernel
theorem dX7_changes_4 : decode cX7_changes 4 = .ok (.ifCond .eq 4, 3) := by decide +kernel
theorem dX7_changes_7 : decode cX7_changes 7 = .ok (.return_, 1) := by decide +kernel
theorem dX7_changes_8 : decode cX7_changes 8 = .ok (.aload_n 0, 1) := by decide +kernel
theorem dX7_changes_9 : decode cX7_changes 9 = .ok (.getfield 35, 3) := by decide +kernel
theorem dX7_changes_12 : decode cX7_changes 12 = .ok (.iconst 4, 1) := by decide +kernel
theorem dX7_changes_13 : decode cX7_changes 13 = .ok (.if_icmp .ne 44, 3) := by decide +kernel
theorem dX7_changes_16 : decode cX7_changes 16 = .ok (.iconst 0, 1) := by decide +kernel
theorem dX7_changes_17 : decode cX7_changes 17 = .ok (.istore_n 1, 1) := by decide +kernel
theorem dX7_changes_18 : decode cX7_changes 18 = .ok (.iload_n 1, 1) := by decide +kernel
theorem dX7_changes_19 : decode cX7_changes 19 = .ok (.sipush 705, 3) := by decide +kernel
theorem dX7_changes_22 : decode cX7_changes 22 = .ok (.if_icmp .ge 25, 3) := by decide +kernel
theorem dX7_changes_25 : decode cX7_changes 25 = .ok (.aload_n 0, 1) := by decide +kernel
theorem dX7_changes_26 : decode cX7_changes 26 = .ok (.getfield 13, 3) := by decide +kernel
theorem dX7_changes_29 : decode cX7_changes 29 = .ok (.iload_n 1, 1) := by decide +kernel
theorem dX7_changes_30 : decode cX7_changes 30 = .ok (.aload_n 0, 1) := by decide +kernel
theorem dX7_changes_31 : decode cX7_changes 31 = .ok (.getfield 13, 3) := by decide +kernel
theorem dX7_changes_34 : decode cX7_changes 34 = .ok (.iload_n 1, 1) := by decide +kernel
theorem dX7_changes_35 : decode cX7_changes 35 = .ok (.sipush 235, 3) := by decide +kernel
theorem dX7_changes_38 : decode cX7_changes 38 = .ok (.iadd, 1) := by decide +kernel
theorem dX7_changes_39 : decode cX7_changes 39 = .ok (.iaload, 1) := by decide +kernel
theorem dX7_changes_40 : decode cX7_changes 40 = .ok (.iastore, 1) := by decide +kernel
theorem dX7_changes_41 : decode cX7_changes 41 = .ok (.iinc 1 1, 3) := by decide +kernel
theorem dX7_changes_44 : decode cX7_changes 44 = .ok (.goto (-26), 3) := by decide +kernel
theorem dX7_changes_47 : decode cX7_changes 47 = .ok (.aload_n 0, 1) := by decide +kernel
theorem dX7_changes_48 : decode cX7_changes 48 = .ok (.dup, 1) := by decide +kernel
theorem dX7_changes_49 : decode cX7_changes 49 = .ok (.getfield 35, 3) := by decide +kernel
theorem dX7_changes_52 : decode cX7_changes 52 = .ok (.iconst 1, 1) := by decide +kernel
theorem dX7_changes_53 : decode cX7_changes 53 = .ok (.isub, 1) := by decide +kernel
theorem dX7_changes_54 : decode cX7_changes 54 = .ok (.putfield 35, 3) := by decide +kernel
theorem dX7_changes_57 : decode cX7_changes 57 = .ok (.iconst 0, 1) := by decide +kernel
theorem dX7_changes_58 : decode cX7_changes 58 = .ok (.istore_n 1, 1) := by decide +kernel
theorem dX7_changes_59 : decode cX7_changes 59 = .ok (.iload_n 1, 1) := by decide +kernel
theorem dX7_changes_60 : decode cX7_changes 60 = .ok (.sipush 235, 3) := by decide +kernel
theorem dX7_changes_63 : decode cX7_changes 63 = .ok (.if_icmp .ge 30, 3) := by decide +kernel
theorem dX7_changes_66 : decode cX7_changes 66 = .ok (.aload_n 0, 1) := by decide +kernel
theorem dX7_changes_67 : decode cX7_changes 67 = .ok (.getfield 13, 3) := by decide +kernel
theorem dX7_changes_70 : decode cX7_changes 70 = .ok (.sipush 235, 3) := by decide +kernel
theorem dX7_changes_73 : decode cX7_changes 73 = .ok (.aload_n 0, 1) := by decide +kernel
theorem dX7_changes_74 : decode cX7_changes 74 = .ok (.getfield 35, 3) := by decide +kernel
theorem dX7_changes_77 : decode cX7_changes 77 = .ok (.imul, 1) := by decide +kernel
theorem dX7_changes_78 : decode cX7_changes 78 = .ok (.iload_n 1, 1) := by decide +kernel
theorem dX7_changes_79 : decode cX7_changes 79 = .ok (.iadd, 1) := by decide +kernel
theorem dX7_changes_80 : decode cX7_changes 80 = .ok (.aload_n 0, 1) := by decide +kernel
theorem dX7_changes_81 : decode cX7_changes 81 = .ok (.getfield 7, 3) := by decide +kernel
theorem dX7_changes_84 : decode cX7_changes 84 = .ok (.iload_n 1, 1) := by decide +kernel
theorem dX7_changes_85 : decode cX7_changes 85 = .ok (.iaload, 1) := by decide +kernel
theorem dX7_changes_86 : decode cX7_changes 86 = .ok (.iastore, 1) := by decide +kernel
theorem dX7_changes_87 : decode cX7_changes 87 = .ok (.iinc 1 1, 3) := by decide +kernel
theorem dX7_changes_90 : decode cX7_changes 90 = .ok (.goto (-31), 3) := by decide +kernel
theorem dX7_changes_93 : decode cX7_changes 93 = .ok (.aload_n 0, 1) := by decide +kernel
theorem dX7_changes_94 : decode cX7_changes 94 = .ok (.dup, 1) := by decide +kernel
theorem dX7_changes_95 : decode cX7_changes 95 = .ok (.getfield 35, 3) := by decide +kernel
theorem dX7_changes_98 : decode cX7_changes 98 = .ok (.iconst 1, 1) := by decide +kernel
theorem dX7_changes_99 : decode cX7_changes 99 = .ok (.iadd, 1) := by decide +kernel
theorem dX7_changes_100 : decode cX7_changes 100 = .ok (.putfield 35, 3) := by decide +kernel
theorem dX7_changes_103 : decode cX7_changes 103 = .ok (.return_, 1) := by decide +kernel
theorem dX7_of_0 : decode cX7_of 0 = .ok (.aload_n 0, 1) := by decide +kernel
theorem dX7_of_1 : decode cX7_of 1 = .ok (.getfield 7, 3) := by decide +kernel
theorem dX7_of_4 : decode cX7_of 4 = .ok (.bipush 7, 2) := by decide +kernel
theorem dX7_of_6 : decode cX7_of 6 = .ok (.iload_n 1, 1) := by decide +kernel
theorem dX7_of_7 : decode cX7_of 7 = .ok (.imul, 1) := by decide +kernel
theorem dX7_of_8 : decode cX7_of 8 = .ok (.iload_n 2, 1) := by decide +kernel
theorem dX7_of_9 : decode cX7_of 9 = .ok (.iadd, 1) := by decide +kernel
theorem dX7_of_10 : decode cX7_of 10 = .ok (.iaload, 1) := by decide +kernel
theorem dX7_of_11 : decode cX7_of 11 = .ok (.ireturn, 1) := by decide +kernel
theorem dX7_sets_0 : decode cX7_sets 0 = .ok (.aload_n 0, 1) := by decide +kernel
theorem dX7_sets_1 : decode cX7_sets 1 = .ok (.getfield 7, 3) := by decide +kernel
theorem dX7_sets_4 : decode cX7_sets 4 = .ok (.bipush 7, 2) := by decide +kernel
theorem dX7_sets_6 : decode cX7_sets 6 = .ok (.iload_n 1, 1) := by decide +kernel
theorem dX7_sets_7 : decode cX7_sets 7 = .ok (.imul, 1) := by decide +kernel
theorem dX7_sets_8 : decode cX7_sets 8 = .ok (.iload_n 2, 1) := by decide +kernel
theorem dX7_sets_9 : decode cX7_sets 9 = .ok (.iadd, 1) := by decide +kernel
theorem dX7_sets_10 : decode cX7_sets 10 = .ok (.iload_n 3, 1) := by decide +kernel
theorem dX7_sets_11 : decode cX7_sets 11 = .ok (.iastore, 1) := by decide +kernel
theorem dX7_sets_12 : decode cX7_sets 12 = .ok (.return_, 1) := by decide +kernel
theorem dX7_shades_0 : decode cX7_shades 0 = .ok (.iload_n 1, 1) := by decide +kernel
theorem dX7_shades_1 : decode cX7_shades 1 = .ok (.ifCond .lt 49, 3) := by decide +kernel
theorem dX7_shades_4 : decode cX7_shades 4 = .ok (.aload_n 0, 1) := by decide +kernel
theorem dX7_shades_5 : decode cX7_shades 5 = .ok (.iload_n 1, 1) := by decide +kernel
theorem dX7_shades_6 : decode cX7_shades 6 = .ok (.iconst 5, 1) := by decide +kernel
theorem dX7_shades_7 : decode cX7_shades 7 = .ok (.invokevirtual 43, 3) := by decide +kernel
theorem dX7_shades_10 : decode cX7_shades 10 = .ok (.ifCond .ne 40, 3) := by decide +kernel
theorem dX7_shades_13 : decode cX7_shades 13 = .ok (.aload_n 0, 1) := by decide +kernel
theorem dX7_shades_14 : decode cX7_shades 14 = .ok (.iload_n 1, 1) := by decide +kernel
theorem dX7_shades_15 : decode cX7_shades 15 = .ok (.iconst 5, 1) := by decide +kernel
theorem dX7_shades_16 : decode cX7_shades 16 = .ok (.iconst 1, 1) := by decide +kernel
theorem dX7_shades_17 : decode cX7_shades 17 = .ok (.invokevirtual 58, 3) := by decide +kernel
theorem dX7_shades_20 : decode cX7_shades 20 = .ok (.aload_n 0, 1) := by decide +kernel
theorem dX7_shades_21 : decode cX7_shades 21 = .ok (.getfield 7, 3) := by decide +kernel
theorem dX7_shades_24 : decode cX7_shades 24 = .ok (.sipush 168, 3) := by decide +kernel
theorem dX7_shades_27 : decode cX7_shades 27 = .ok (.dup2, 1) := by decide +kernel
theorem dX7_shades_28 : decode cX7_shades 28 = .ok (.iaload, 1) := by decide +kernel
theorem dX7_shades_29 : decode cX7_shades 29 = .ok (.iconst 1, 1) := by decide +kernel
theorem dX7_shades_30 : decode cX7_shades 30 = .ok (.iadd, 1) := by decide +kernel
theorem dX7_shades_31 : decode cX7_shades 31 = .ok (.iastore, 1) := by decide +kernel
theorem dX7_shades_32 : decode cX7_shades 32 = .ok (.aload_n 0, 1) := by decide +kernel
theorem dX7_shades_33 : decode cX7_shades 33 = .ok (.getfield 7, 3) := by decide +kernel
theorem dX7_shades_36 : decode cX7_shades 36 = .ok (.sipush 168, 3) := by decide +kernel
theorem dX7_shades_39 : decode cX7_shades 39 = .ok (.aload_n 0, 1) := by decide +kernel
theorem dX7_shades_40 : decode cX7_shades 40 = .ok (.getfield 7, 3) := by decide +kernel
theorem dX7_shades_43 : decode cX7_shades 43 = .ok (.sipush 168, 3) := by decide +kernel
theorem dX7_shades_46 : decode cX7_shades 46 = .ok (.iaload, 1) := by decide +kernel
theorem dX7_shades_47 : decode cX7_shades 47 = .ok (.iadd, 1) := by decide +kernel
theorem dX7_shades_48 : decode cX7_shades 48 = .ok (.iload_n 1, 1) := by decide +kernel
theorem dX7_shades_49 : decode cX7_shades 49 = .ok (.iastore, 1) := by decide +kernel
theorem dX7_shades_50 : decode cX7_shades 50 = .ok (.return_, 1) := by decide +kernel
theorem dX7_begins_0 : decode cX7_begins 0 = .ok (.aload_n 0, 1) := by decide +kernel
theorem dX7_begins_1 : decode cX7_begins 1 = .ok (.getfield 7, 3) := by decide +kernel
theorem dX7_begins_4 : decode cX7_begins 4 = .ok (.sipush 226, 3) := by decide +kernel
theorem dX7_begins_7 : decode cX7_begins 7 = .ok (.iconst 1, 1) := by decide +kernel
theorem dX7_begins_8 : decode cX7_begins 8 = .ok (.iastore, 1) := by decide +kernel
theorem dX7_begins_9 : decode cX7_begins 9 = .ok (.aload_n 0, 1) := by decide +kernel
theorem dX7_begins_10 : decode cX7_begins 10 = .ok (.getfield 7, 3) := by decide +kernel
theorem dX7_begins_13 : decode cX7_begins 13 = .ok (.sipush 228, 3) := by decide +kernel
theorem dX7_begins_16 : decode cX7_begins 16 = .ok (.dup2, 1) := by decide +kernel
theorem dX7_begins_17 : decode cX7_begins 17 = .ok (.iaload, 1) := by decide +kernel
theorem dX7_begins_18 : decode cX7_begins 18 = .ok (.iconst 1, 1) := by decide +kernel
theorem dX7_begins_19 : decode cX7_begins 19 = .ok (.iadd, 1) := by decide +kernel
theorem dX7_begins_20 : decode cX7_begins 20 = .ok (.iastore, 1) := by decide +kernel
theorem dX7_begins_21 : decode cX7_begins 21 = .ok (.aload_n 0, 1) := by decide +kernel
theorem dX7_begins_22 : decode cX7_begins 22 = .ok (.getfield 7, 3) := by decide +kernel
theorem dX7_begins_25 : decode cX7_begins 25 = .ok (.sipush 232, 3) := by decide +kernel
theorem dX7_begins_28 : decode cX7_begins 28 = .ok (.iconst 0, 1) := by decide +kernel
theorem dX7_begins_29 : decode cX7_begins 29 = .ok (.iastore, 1) := by decide +kernel
theorem dX7_begins_30 : decode cX7_begins 30 = .ok (.aload_n 0, 1) := by decide +kernel
theorem dX7_begins_31 : decode cX7_begins 31 = .ok (.getfield 7, 3) := by decide +kernel
theorem dX7_begins_34 : decode cX7_begins 34 = .ok (.sipush 233, 3) := by decide +kernel
theorem dX7_begins_37 : decode cX7_begins 37 = .ok (.iconst 0, 1) := by decide +kernel
theorem dX7_begins_38 : decode cX7_begins 38 = .ok (.iastore, 1) := by decide +kernel
theorem dX7_begins_39 : decode cX7_begins 39 = .ok (.aload_n 0, 1) := by decide +kernel
theorem dX7_begins_40 : decode cX7_begins 40 = .ok (.getfield 7, 3) := by decide +kernel
theorem dX7_begins_43 : decode cX7_begins 43 = .ok (.sipush 168, 3) := by decide +kernel
theorem dX7_begins_46 : decode cX7_begins 46 = .ok (.iconst 0, 1) := by decide +kernel
theorem dX7_begins_47 : decode cX7_begins 47 = .ok (.iastore, 1) := by decide +kernel
theorem dX7_begins_48 : decode cX7_begins 48 = .ok (.iconst 0, 1) := by decide +kernel
theorem dX7_begins_49 : decode cX7_begins 49 = .ok (.istore_n 1, 1) := by decide +kernel
theorem dX7_begins_50 : decode cX7_begins 50 = .ok (.iload_n 1, 1) := by decide +kernel
theorem dX7_begins_51 : decode cX7_begins 51 = .ok (.bipush 24, 2) := by decide +kernel
theorem dX7_begins_53 : decode cX7_begins 53 = .ok (.if_icmp .ge 32, 3) := by decide +kernel
theorem dX7_begins_56 : decode cX7_begins 56 = .ok (.aload_n 0, 1) := by decide +kernel
theorem dX7_begins_57 : decode cX7_begins 57 = .ok (.iload_n 1, 1) := by decide +kernel
theorem dX7_begins_58 : decode cX7_begins 58 = .ok (.iconst 5, 1) := by decide +kernel
theorem dX7_begins_59 : decode cX7_begins 59 = .ok (.iconst 0, 1) := by decide +kernel
theorem dX7_begins_60 : decode cX7_begins 60 = .ok (.invokevirtual 58, 3) := by decide +kernel
theorem dX7_begins_63 : decode cX7_begins 63 = .ok (.aload_n 0, 1) := by decide +kernel
theorem dX7_begins_64 : decode cX7_begins 64 = .ok (.iload_n 1, 1) := by decide +kernel
theorem dX7_begins_65 : decode cX7_begins 65 = .ok (.bipush 6, 2) := by decide +kernel
theorem dX7_begins_67 : decode cX7_begins 67 = .ok (.aload_n 0, 1) := by decide +kernel
theorem dX7_begins_68 : decode cX7_begins 68 = .ok (.iload_n 1, 1) := by decide +kernel
theorem dX7_begins_69 : decode cX7_begins 69 = .ok (.bipush 6, 2) := by decide +kernel
theorem dX7_begins_71 : decode cX7_begins 71 = .ok (.invokevirtual 43, 3) := by decide +kernel
theorem dX7_begins_74 : decode cX7_begins 74 = .ok (.iconst 1, 1) := by decide +kernel
theorem dX7_begins_75 : decode cX7_begins 75 = .ok (.iadd, 1) := by decide +kernel
theorem dX7_begins_76 : decode cX7_begins 76 = .ok (.invokevirtual 58, 3) := by decide +kernel
theorem dX7_begins_79 : decode cX7_begins 79 = .ok (.iinc 1 1, 3) := by decide +kernel
theorem dX7_begins_82 : decode cX7_begins 82 = .ok (.goto (-32), 3) := by decide +kernel
theorem dX7_begins_85 : decode cX7_begins 85 = .ok (.iconst 0, 1) := by decide +kernel
theorem dX7_begins_86 : decode cX7_begins 86 = .ok (.istore_n 1, 1) := by decide +kernel
theorem dX7_begins_87 : decode cX7_begins 87 = .ok (.iload_n 1, 1) := by decide +kernel
theorem dX7_begins_88 : decode cX7_begins 88 = .ok (.iconst 4, 1) := by decide +kernel
theorem dX7_begins_89 : decode cX7_begins 89 = .ok (.if_icmp .ge 23, 3) := by decide +kernel
theorem dX7_begins_92 : decode cX7_begins 92 = .ok (.aload_n 0, 1) := by decide +kernel
theorem dX7_begins_93 : decode cX7_begins 93 = .ok (.aload_n 0, 1) := by decide +kernel
theorem dX7_begins_94 : decode cX7_begins 94 = .ok (.getfield 7, 3) := by decide +kernel
theorem dX7_begins_97 : decode cX7_begins 97 = .ok (.sipush 218, 3) := by decide +kernel
theorem dX7_begins_100 : decode cX7_begins 100 = .ok (.iload_n 1, 1) := by decide +kernel
theorem dX7_begins_101 : decode cX7_begins 101 = .ok (.iadd, 1) := by decide +kernel
theorem dX7_begins_102 : decode cX7_begins 102 = .ok (.iaload, 1) := by decide +kernel
theorem dX7_begins_103 : decode cX7_begins 103 = .ok (.invokevirtual 66, 3) := by decide +kernel
theorem dX7_begins_106 : decode cX7_begins 106 = .ok (.iinc 1 1, 3) := by decide +kernel
theorem dX7_begins_109 : decode cX7_begins 109 = .ok (.goto (-22), 3) := by decide +kernel
theorem dX7_begins_112 : decode cX7_begins 112 = .ok (.iconst 0, 1) := by decide +kernel
theorem dX7_begins_113 : decode cX7_begins 113 = .ok (.istore_n 1, 1) := by decide +kernel
theorem dX7_begins_114 : decode cX7_begins 114 = .ok (.iload_n 1, 1) := by decide +kernel
theorem dX7_begins_115 : decode cX7_begins 115 = .ok (.aload_n 0, 1) := by decide +kernel
theorem dX7_begins_116 : decode cX7_begins 116 = .ok (.getfield 7, 3) := by decide +kernel
theorem dX7_begins_119 : decode cX7_begins 119 = .ok (.sipush 193, 3) := by decide +kernel
theorem dX7_begins_122 : decode cX7_begins 122 = .ok (.iaload, 1) := by decide +kernel
theorem dX7_begins_123 : decode cX7_begins 123 = .ok (.if_icmp .ge 23, 3) := by decide +kernel
theorem dX7_begins_126 : decode cX7_begins 126 = .ok (.aload_n 0, 1) := by decide +kernel
theorem dX7_begins_127 : decode cX7_begins 127 = .ok (.aload_n 0, 1) := by decide +kernel
theorem dX7_begins_128 : decode cX7_begins 128 = .ok (.getfield 7, 3) := by decide +kernel
theorem dX7_begins_131 : decode cX7_begins 131 = .ok (.sipush 194, 3) := by decide +kernel
theorem dX7_begins_134 : decode cX7_begins 134 = .ok (.iload_n 1, 1) := by decide +kernel
theorem dX7_begins_135 : decode cX7_begins 135 = .ok (.iadd, 1) := by decide +kernel
theorem dX7_begins_136 : decode cX7_begins 136 = .ok (.iaload, 1) := by decide +kernel
theorem dX7_begins_137 : decode cX7_begins 137 = .ok (.invokevirtual 66, 3) := by decide +kernel
theorem dX7_begins_140 : decode cX7_begins 140 = .ok (.iinc 1 1, 3) := by decide +kernel
theorem dX7_begins_143 : decode cX7_begins 143 = .ok (.goto (-29), 3) := by decide +kernel
theorem dX7_begins_146 : decode cX7_begins 146 = .ok (.return_, 1) := by decide +kernel
theorem dX7_takes_0 : decode cX7_takes 0 = .ok (.aload_n 0, 1) := by decide +kernel
theorem dX7_takes_1 : decode cX7_takes 1 = .ok (.getfield 7, 3) := by decide +kernel
theorem dX7_takes_4 : decode cX7_takes 4 = .ok (.iload_n 1, 1) := by decide +kernel
theorem dX7_takes_5 : decode cX7_takes 5 = .ok (.iconst 1, 1) := by decide +kernel
theorem dX7_takes_6 : decode cX7_takes 6 = .ok (.iadd, 1) := by decide +kernel
theorem dX7_takes_7 : decode cX7_takes 7 = .ok (.iaload, 1) := by decide +kernel
theorem dX7_takes_8 : decode cX7_takes 8 = .ok (.istore_n 2, 1) := by decide +kernel
theorem dX7_takes_9 : decode cX7_takes 9 = .ok (.aload_n 0, 1) := by decide +kernel
theorem dX7_takes_10 : decode cX7_takes 10 = .ok (.getfield 7, 3) := by decide +kernel
theorem dX7_takes_13 : decode cX7_takes 13 = .ok (.iload_n 1, 1) := by decide +kernel
theorem dX7_takes_14 : decode cX7_takes 14 = .ok (.dup2, 1) := by decide +kernel
theorem dX7_takes_15 : decode cX7_takes 15 = .ok (.iaload, 1) := by decide +kernel
theorem dX7_takes_16 : decode cX7_takes 16 = .ok (.iconst 1, 1) := by decide +kernel
theorem dX7_takes_17 : decode cX7_takes 17 = .ok (.isub, 1) := by decide +kernel
theorem dX7_takes_18 : decode cX7_takes 18 = .ok (.iastore, 1) := by decide +kernel
theorem dX7_takes_19 : decode cX7_takes 19 = .ok (.iconst 1, 1) := by decide +kernel
theorem dX7_takes_20 : decode cX7_takes 20 = .ok (.istore_n 3, 1) := by decide +kernel
theorem dX7_takes_21 : decode cX7_takes 21 = .ok (.iload_n 3, 1) := by decide +kernel
theorem dX7_takes_22 : decode cX7_takes 22 = .ok (.aload_n 0, 1) := by decide +kernel
theorem dX7_takes_23 : decode cX7_takes 23 = .ok (.getfield 7, 3) := by decide +kernel
theorem dX7_takes_26 : decode cX7_takes 26 = .ok (.iload_n 1, 1) := by decide +kernel
theorem dX7_takes_27 : decode cX7_takes 27 = .ok (.iaload, 1) := by decide +kernel
theorem dX7_takes_28 : decode cX7_takes 28 = .ok (.if_icmp .gt 27, 3) := by decide +kernel
theorem dX7_takes_31 : decode cX7_takes 31 = .ok (.aload_n 0, 1) := by decide +kernel
theorem dX7_takes_32 : decode cX7_takes 32 = .ok (.getfield 7, 3) := by decide +kernel
theorem dX7_takes_35 : decode cX7_takes 35 = .ok (.iload_n 1, 1) := by decide +kernel
theorem dX7_takes_36 : decode cX7_takes 36 = .ok (.iload_n 3, 1) := by decide +kernel
theorem dX7_takes_37 : decode cX7_takes 37 = .ok (.iadd, 1) := by decide +kernel
theorem dX7_takes_38 : decode cX7_takes 38 = .ok (.aload_n 0, 1) := by decide +kernel
theorem dX7_takes_39 : decode cX7_takes 39 = .ok (.getfield 7, 3) := by decide +kernel
theorem dX7_takes_42 : decode cX7_takes 42 = .ok (.iload_n 1, 1) := by decide +kernel
theorem dX7_takes_43 : decode cX7_takes 43 = .ok (.iload_n 3, 1) := by decide +kernel
theorem dX7_takes_44 : decode cX7_takes 44 = .ok (.iadd, 1) := by decide +kernel
theorem dX7_takes_45 : decode cX7_takes 45 = .ok (.iconst 1, 1) := by decide +kernel
theorem dX7_takes_46 : decode cX7_takes 46 = .ok (.iadd, 1) := by decide +kernel
theorem dX7_takes_47 : decode cX7_takes 47 = .ok (.iaload, 1) := by decide +kernel
theorem dX7_takes_48 : decode cX7_takes 48 = .ok (.iastore, 1) := by decide +kernel
theorem dX7_takes_49 : decode cX7_takes 49 = .ok (.iinc 3 1, 3) := by decide +kernel
theorem dX7_takes_52 : decode cX7_takes 52 = .ok (.goto (-31), 3) := by decide +kernel
theorem dX7_takes_55 : decode cX7_takes 55 = .ok (.iload_n 2, 1) := by decide +kernel
theorem dX7_takes_56 : decode cX7_takes 56 = .ok (.ireturn, 1) := by decide +kernel
theorem dX7_blackens_0 : decode cX7_blackens 0 = .ok (.aload_n 0, 1) := by decide +kernel
theorem dX7_blackens_1 : decode cX7_blackens 1 = .ok (.sipush 168, 3) := by decide +kernel
theorem dX7_blackens_4 : decode cX7_blackens 4 = .ok (.invokevirtual 96, 3) := by decide +kernel
theorem dX7_blackens_7 : decode cX7_blackens 7 = .ok (.istore_n 1, 1) := by decide +kernel
theorem dX7_blackens_8 : decode cX7_blackens 8 = .ok (.iconst 0, 1) := by decide +kernel
theorem dX7_blackens_9 : decode cX7_blackens 9 = .ok (.istore_n 2, 1) := by decide +kernel
theorem dX7_blackens_10 : decode cX7_blackens 10 = .ok (.iload_n 2, 1) := by decide +kernel
theorem dX7_blackens_11 : decode cX7_blackens 11 = .ok (.iconst 3, 1) := by decide +kernel
theorem dX7_blackens_12 : decode cX7_blackens 12 = .ok (.if_icmp .ge 21, 3) := by decide +kernel
theorem dX7_blackens_15 : decode cX7_blackens 15 = .ok (.aload_n 0, 1) := by decide +kernel
theorem dX7_blackens_16 : decode cX7_blackens 16 = .ok (.aload_n 0, 1) := by decide +kernel
theorem dX7_blackens_17 : decode cX7_blackens 17 = .ok (.iload_n 1, 1) := by decide +kernel
theorem dX7_blackens_18 : decode cX7_blackens 18 = .ok (.iconst 1, 1) := by decide +kernel
theorem dX7_blackens_19 : decode cX7_blackens 19 = .ok (.iload_n 2, 1) := by decide +kernel
theorem dX7_blackens_20 : decode cX7_blackens 20 = .ok (.iadd, 1) := by decide +kernel
theorem dX7_blackens_21 : decode cX7_blackens 21 = .ok (.invokevirtual 43, 3) := by decide +kernel
theorem dX7_blackens_24 : decode cX7_blackens 24 = .ok (.invokevirtual 66, 3) := by decide +kernel
theorem dX7_blackens_27 : decode cX7_blackens 27 = .ok (.iinc 2 1, 3) := by decide +kernel
theorem dX7_blackens_30 : decode cX7_blackens 30 = .ok (.goto (-20), 3) := by decide +kernel
theorem dX7_blackens_33 : decode cX7_blackens 33 = .ok (.aload_n 0, 1) := by decide +kernel
theorem dX7_blackens_34 : decode cX7_blackens 34 = .ok (.iload_n 1, 1) := by decide +kernel
theorem dX7_blackens_35 : decode cX7_blackens 35 = .ok (.iconst 5, 1) := by decide +kernel
theorem dX7_blackens_36 : decode cX7_blackens 36 = .ok (.iconst 2, 1) := by decide +kernel
theorem dX7_blackens_37 : decode cX7_blackens 37 = .ok (.invokevirtual 58, 3) := by decide +kernel
theorem dX7_blackens_40 : decode cX7_blackens 40 = .ok (.return_, 1) := by decide +kernel
theorem dX7_clears_0 : decode cX7_clears 0 = .ok (.iconst 0, 1) := by decide +kernel
theorem dX7_clears_1 : decode cX7_clears 1 = .ok (.istore_n 1, 1) := by decide +kernel
theorem dX7_clears_2 : decode cX7_clears 2 = .ok (.iload_n 1, 1) := by decide +kernel
theorem dX7_clears_3 : decode cX7_clears 3 = .ok (.iconst 4, 1) := by decide +kernel
theorem dX7_clears_4 : decode cX7_clears 4 = .ok (.if_icmp .ge 48, 3) := by decide +kernel
theorem dX7_clears_7 : decode cX7_clears 7 = .ok (.aload_n 0, 1) := by decide +kernel
theorem dX7_clears_8 : decode cX7_clears 8 = .ok (.getfield 7, 3) := by decide +kernel
theorem dX7_clears_11 : decode cX7_clears 11 = .ok (.sipush 222, 3) := by decide +kernel
theorem dX7_clears_14 : decode cX7_clears 14 = .ok (.iload_n 1, 1) := by decide +kernel
theorem dX7_clears_15 : decode cX7_clears 15 = .ok (.iadd, 1) := by decide +kernel
theorem dX7_clears_16 : decode cX7_clears 16 = .ok (.iaload, 1) := by decide +kernel
theorem dX7_clears_17 : decode cX7_clears 17 = .ok (.istore_n 2, 1) := by decide +kernel
theorem dX7_clears_18 : decode cX7_clears 18 = .ok (.aload_n 0, 1) := by decide +kernel
theorem dX7_clears_19 : decode cX7_clears 19 = .ok (.getfield 7, 3) := by decide +kernel
theorem dX7_clears_22 : decode cX7_clears 22 = .ok (.sipush 222, 3) := by decide +kernel
theorem dX7_clears_25 : decode cX7_clears 25 = .ok (.iload_n 1, 1) := by decide +kernel
theorem dX7_clears_26 : decode cX7_clears 26 = .ok (.iadd, 1) := by decide +kernel
theorem dX7_clears_27 : decode cX7_clears 27 = .ok (.iload_n 2, 1) := by decide +kernel
theorem dX7_clears_28 : decode cX7_clears 28 = .ok (.ifCond .lt 16, 3) := by decide +kernel
theorem dX7_clears_31 : decode cX7_clears 31 = .ok (.aload_n 0, 1) := by decide +kernel
theorem dX7_clears_32 : decode cX7_clears 32 = .ok (.iload_n 2, 1) := by decide +kernel
theorem dX7_clears_33 : decode cX7_clears 33 = .ok (.iconst 5, 1) := by decide +kernel
theorem dX7_clears_34 : decode cX7_clears 34 = .ok (.invokevirtual 43, 3) := by decide +kernel
theorem dX7_clears_37 : decode cX7_clears 37 = .ok (.ifCond .ne 7, 3) := by decide +kernel
theorem dX7_clears_40 : decode cX7_clears 40 = .ok (.iconst (-1), 1) := by decide +kernel
theorem dX7_clears_41 : decode cX7_clears 41 = .ok (.goto 4, 3) := by decide +kernel
theorem dX7_clears_44 : decode cX7_clears 44 = .ok (.iload_n 2, 1) := by decide +kernel
theorem dX7_clears_45 : decode cX7_clears 45 = .ok (.iastore, 1) := by decide +kernel
theorem dX7_clears_46 : decode cX7_clears 46 = .ok (.iinc 1 1, 3) := by decide +kernel
theorem dX7_clears_49 : decode cX7_clears 49 = .ok (.goto (-47), 3) := by decide +kernel
theorem dX7_clears_52 : decode cX7_clears 52 = .ok (.return_, 1) := by decide +kernel
theorem dX7_isObject_0 : decode cX7_isObject 0 = .ok (.iload_n 1, 1) := by decide +kernel
theorem dX7_isObject_1 : decode cX7_isObject 1 = .ok (.iconst 0, 1) := by decide +kernel
theorem dX7_isObject_2 : decode cX7_isObject 2 = .ok (.bipush 23, 2) := by decide +kernel
theorem dX7_isObject_4 : decode cX7_isObject 4 = .ok (.invokestatic 39, 3) := by decide +kernel
theorem dX7_isObject_7 : decode cX7_isObject 7 = .ok (.ifCond .eq 17, 3) := by decide +kernel
theorem dX7_isObject_10 : decode cX7_isObject 10 = .ok (.aload_n 0, 1) := by decide +kernel
theorem dX7_isObject_11 : decode cX7_isObject 11 = .ok (.iload_n 1, 1) := by decide +kernel
theorem dX7_isObject_12 : decode cX7_isObject 12 = .ok (.iconst 0, 1) := by decide +kernel
theorem dX7_isObject_13 : decode cX7_isObject 13 = .ok (.invokevirtual 43, 3) := by decide +kernel
theorem dX7_isObject_16 : decode cX7_isObject 16 = .ok (.iconst 1, 1) := by decide +kernel
theorem dX7_isObject_17 : decode cX7_isObject 17 = .ok (.if_icmp .ne 7, 3) := by decide +kernel
theorem dX7_isObject_20 : decode cX7_isObject 20 = .ok (.iconst 1, 1) := by decide +kernel
theorem dX7_isObject_21 : decode cX7_isObject 21 = .ok (.goto 4, 3) := by decide +kernel
theorem dX7_isObject_24 : decode cX7_isObject 24 = .ok (.iconst 0, 1) := by decide +kernel
theorem dX7_isObject_25 : decode cX7_isObject 25 = .ok (.ireturn, 1) := by decide +kernel
theorem dX7_looksForFinish_0 : decode cX7_looksForFinish 0 = .ok (.iconst (-1), 1) := by decide +kernel
theorem dX7_looksForFinish_1 : decode cX7_looksForFinish 1 = .ok (.istore_n 1, 1) := by decide +kernel
theorem dX7_looksForFinish_2 : decode cX7_looksForFinish 2 = .ok (.bipush 23, 2) := by decide +kernel
theorem dX7_looksForFinish_4 : decode cX7_looksForFinish 4 = .ok (.istore_n 2, 1) := by decide +kernel
theorem dX7_looksForFinish_5 : decode cX7_looksForFinish 5 = .ok (.iload_n 2, 1) := by decide +kernel
theorem dX7_looksForFinish_6 : decode cX7_looksForFinish 6 = .ok (.ifCond .lt 42, 3) := by decide +kernel
theorem dX7_looksForFinish_9 : decode cX7_looksForFinish 9 = .ok (.aload_n 0, 1) := by decide +kernel
theorem dX7_looksForFinish_10 : decode cX7_looksForFinish 10 = .ok (.iload_n 2, 1) := by decide +kernel
theorem dX7_looksForFinish_11 : decode cX7_looksForFinish 11 = .ok (.invokevirtual 87, 3) := by decide +kernel
theorem dX7_looksForFinish_14 : decode cX7_looksForFinish 14 = .ok (.ifCond .eq 26, 3) := by decide +kernel
theorem dX7_looksForFinish_17 : decode cX7_looksForFinish 17 = .ok (.aload_n 0, 1) := by decide +kernel
theorem dX7_looksForFinish_18 : decode cX7_looksForFinish 18 = .ok (.iload_n 2, 1) := by decide +kernel
theorem dX7_looksForFinish_19 : decode cX7_looksForFinish 19 = .ok (.iconst 5, 1) := by decide +kernel
theorem dX7_looksForFinish_20 : decode cX7_looksForFinish 20 = .ok (.invokevirtual 43, 3) := by decide +kernel
theorem dX7_looksForFinish_23 : decode cX7_looksForFinish 23 = .ok (.ifCond .ne 17, 3) := by decide +kernel
theorem dX7_looksForFinish_26 : decode cX7_looksForFinish 26 = .ok (.aload_n 0, 1) := by decide +kernel
theorem dX7_looksForFinish_27 : decode cX7_looksForFinish 27 = .ok (.iload_n 2, 1) := by decide +kernel
theorem dX7_looksForFinish_28 : decode cX7_looksForFinish 28 = .ok (.iconst 4, 1) := by decide +kernel
theorem dX7_looksForFinish_29 : decode cX7_looksForFinish 29 = .ok (.invokevirtual 43, 3) := by decide +kernel
theorem dX7_looksForFinish_32 : decode cX7_looksForFinish 32 = .ok (.iconst 1, 1) := by decide +kernel
theorem dX7_looksForFinish_33 : decode cX7_looksForFinish 33 = .ok (.if_icmp .ne 7, 3) := by decide +kernel
theorem dX7_looksForFinish_36 : decode cX7_looksForFinish 36 = .ok (.iload_n 2, 1) := by decide +kernel
theorem dX7_looksForFinish_37 : decode cX7_looksForFinish 37 = .ok (.goto 4, 3) := by decide +kernel
theorem dX7_looksForFinish_40 : decode cX7_looksForFinish 40 = .ok (.iload_n 1, 1) := by decide +kernel
theorem dX7_looksForFinish_41 : decode cX7_looksForFinish 41 = .ok (.istore_n 1, 1) := by decide +kernel
theorem dX7_looksForFinish_42 : decode cX7_looksForFinish 42 = .ok (.iinc 2 (-1), 3) := by decide +kernel
theorem dX7_looksForFinish_45 : decode cX7_looksForFinish 45 = .ok (.goto (-40), 3) := by decide +kernel
theorem dX7_looksForFinish_48 : decode cX7_looksForFinish 48 = .ok (.iload_n 1, 1) := by decide +kernel
theorem dX7_looksForFinish_49 : decode cX7_looksForFinish 49 = .ok (.ifCond .ge 26, 3) := by decide +kernel
theorem dX7_looksForFinish_52 : decode cX7_looksForFinish 52 = .ok (.aload_n 0, 1) := by decide +kernel
theorem dX7_looksForFinish_53 : decode cX7_looksForFinish 53 = .ok (.invokevirtual 102, 3) := by decide +kernel
theorem dX7_looksForFinish_56 : decode cX7_looksForFinish 56 = .ok (.aload_n 0, 1) := by decide +kernel
theorem dX7_looksForFinish_57 : decode cX7_looksForFinish 57 = .ok (.getfield 7, 3) := by decide +kernel
theorem dX7_looksForFinish_60 : decode cX7_looksForFinish 60 = .ok (.sipush 226, 3) := by decide +kernel
theorem dX7_looksForFinish_63 : decode cX7_looksForFinish 63 = .ok (.iconst 3, 1) := by decide +kernel
theorem dX7_looksForFinish_64 : decode cX7_looksForFinish 64 = .ok (.iastore, 1) := by decide +kernel
theorem dX7_looksForFinish_65 : decode cX7_looksForFinish 65 = .ok (.aload_n 0, 1) := by decide +kernel
theorem dX7_looksForFinish_66 : decode cX7_looksForFinish 66 = .ok (.getfield 7, 3) := by decide +kernel
theorem dX7_looksForFinish_69 : decode cX7_looksForFinish 69 = .ok (.sipush 227, 3) := by decide +kernel
theorem dX7_looksForFinish_72 : decode cX7_looksForFinish 72 = .ok (.iconst 0, 1) := by decide +kernel
theorem dX7_looksForFinish_73 : decode cX7_looksForFinish 73 = .ok (.iastore, 1) := by decide +kernel
theorem dX7_looksForFinish_74 : decode cX7_looksForFinish 74 = .ok (.return_, 1) := by decide +kernel
theorem dX7_looksForFinish_75 : decode cX7_looksForFinish 75 = .ok (.aload_n 0, 1) := by decide +kernel
theorem dX7_looksForFinish_76 : decode cX7_looksForFinish 76 = .ok (.iload_n 1, 1) := by decide +kernel
theorem dX7_looksForFinish_77 : decode cX7_looksForFinish 77 = .ok (.iconst 4, 1) := by decide +kernel
theorem dX7_looksForFinish_78 : decode cX7_looksForFinish 78 = .ok (.iconst 0, 1) := by decide +kernel
theorem dX7_looksForFinish_79 : decode cX7_looksForFinish 79 = .ok (.invokevirtual 58, 3) := by decide +kernel
theorem dX7_looksForFinish_82 : decode cX7_looksForFinish 82 = .ok (.aload_n 0, 1) := by decide +kernel
theorem dX7_looksForFinish_83 : decode cX7_looksForFinish 83 = .ok (.getfield 7, 3) := by decide +kernel
theorem dX7_looksForFinish_86 : decode cX7_looksForFinish 86 = .ok (.sipush 193, 3) := by decide +kernel
theorem dX7_looksForFinish_89 : decode cX7_looksForFinish 89 = .ok (.dup2, 1) := by decide +kernel
theorem dX7_looksForFinish_90 : decode cX7_looksForFinish 90 = .ok (.iaload, 1) := by decide +kernel
theorem dX7_looksForFinish_91 : decode cX7_looksForFinish 91 = .ok (.iconst 1, 1) := by decide +kernel
theorem dX7_looksForFinish_92 : decode cX7_looksForFinish 92 = .ok (.iadd, 1) := by decide +kernel
theorem dX7_looksForFinish_93 : decode cX7_looksForFinish 93 = .ok (.iastore, 1) := by decide +kernel
theorem dX7_looksForFinish_94 : decode cX7_looksForFinish 94 = .ok (.aload_n 0, 1) := by decide +kernel
theorem dX7_looksForFinish_95 : decode cX7_looksForFinish 95 = .ok (.getfield 7, 3) := by decide +kernel
theorem dX7_looksForFinish_98 : decode cX7_looksForFinish 98 = .ok (.sipush 193, 3) := by decide +kernel
theorem dX7_looksForFinish_101 : decode cX7_looksForFinish 101 = .ok (.aload_n 0, 1) := by decide +kernel
theorem dX7_looksForFinish_102 : decode cX7_looksForFinish 102 = .ok (.getfield 7, 3) := by decide +kernel
theorem dX7_looksForFinish_105 : decode cX7_looksForFinish 105 = .ok (.sipush 193, 3) := by decide +kernel
theorem dX7_looksForFinish_108 : decode cX7_looksForFinish 108 = .ok (.iaload, 1) := by decide +kernel
theorem dX7_looksForFinish_109 : decode cX7_looksForFinish 109 = .ok (.iadd, 1) := by decide +kernel
theorem dX7_looksForFinish_110 : decode cX7_looksForFinish 110 = .ok (.iload_n 1, 1) := by decide +kernel
theorem dX7_looksForFinish_111 : decode cX7_looksForFinish 111 = .ok (.iastore, 1) := by decide +kernel
theorem dX7_looksForFinish_112 : decode cX7_looksForFinish 112 = .ok (.aload_n 0, 1) := by decide +kernel
theorem dX7_looksForFinish_113 : decode cX7_looksForFinish 113 = .ok (.iload_n 1, 1) := by decide +kernel
theorem dX7_looksForFinish_114 : decode cX7_looksForFinish 114 = .ok (.invokevirtual 66, 3) := by decide +kernel
theorem dX7_looksForFinish_117 : decode cX7_looksForFinish 117 = .ok (.return_, 1) := by decide +kernel
theorem dX7_letsGo_0 : decode cX7_letsGo 0 = .ok (.aload_n 0, 1) := by decide +kernel
theorem dX7_letsGo_1 : decode cX7_letsGo 1 = .ok (.iload_n 1, 1) := by decide +kernel
theorem dX7_letsGo_2 : decode cX7_letsGo 2 = .ok (.iconst 0, 1) := by decide +kernel
theorem dX7_letsGo_3 : decode cX7_letsGo 3 = .ok (.iconst 0, 1) := by decide +kernel
theorem dX7_letsGo_4 : decode cX7_letsGo 4 = .ok (.invokevirtual 58, 3) := by decide +kernel
theorem dX7_letsGo_7 : decode cX7_letsGo 7 = .ok (.iconst 0, 1) := by decide +kernel
theorem dX7_letsGo_8 : decode cX7_letsGo 8 = .ok (.istore_n 2, 1) := by decide +kernel
theorem dX7_letsGo_9 : decode cX7_letsGo 9 = .ok (.iload_n 2, 1) := by decide +kernel
theorem dX7_letsGo_10 : decode cX7_letsGo 10 = .ok (.bipush 24, 2) := by decide +kernel
theorem dX7_letsGo_12 : decode cX7_letsGo 12 = .ok (.if_icmp .ge 54, 3) := by decide +kernel
theorem dX7_letsGo_15 : decode cX7_letsGo 15 = .ok (.iconst 0, 1) := by decide +kernel
theorem dX7_letsGo_16 : decode cX7_letsGo 16 = .ok (.istore_n 3, 1) := by decide +kernel
theorem dX7_letsGo_17 : decode cX7_letsGo 17 = .ok (.iload_n 3, 1) := by decide +kernel
theorem dX7_letsGo_18 : decode cX7_letsGo 18 = .ok (.iconst 3, 1) := by decide +kernel
theorem dX7_letsGo_19 : decode cX7_letsGo 19 = .ok (.if_icmp .ge 41, 3) := by decide +kernel
theorem dX7_letsGo_22 : decode cX7_letsGo 22 = .ok (.aload_n 0, 1) := by decide +kernel
theorem dX7_letsGo_23 : decode cX7_letsGo 23 = .ok (.iload_n 2, 1) := by decide +kernel
theorem dX7_letsGo_24 : decode cX7_letsGo 24 = .ok (.iconst 1, 1) := by decide +kernel
theorem dX7_letsGo_25 : decode cX7_letsGo 25 = .ok (.iload_n 3, 1) := by decide +kernel
theorem dX7_letsGo_26 : decode cX7_letsGo 26 = .ok (.iadd, 1) := by decide +kernel
theorem dX7_letsGo_27 : decode cX7_letsGo 27 = .ok (.aload_n 0, 1) := by decide +kernel
theorem dX7_letsGo_28 : decode cX7_letsGo 28 = .ok (.iload_n 2, 1) := by decide +kernel
theorem dX7_letsGo_29 : decode cX7_letsGo 29 = .ok (.iconst 1, 1) := by decide +kernel
theorem dX7_letsGo_30 : decode cX7_letsGo 30 = .ok (.iload_n 3, 1) := by decide +kernel
theorem dX7_letsGo_31 : decode cX7_letsGo 31 = .ok (.iadd, 1) := by decide +kernel
theorem dX7_letsGo_32 : decode cX7_letsGo 32 = .ok (.invokevirtual 43, 3) := by decide +kernel
theorem dX7_letsGo_35 : decode cX7_letsGo 35 = .ok (.iload_n 1, 1) := by decide +kernel
theorem dX7_letsGo_36 : decode cX7_letsGo 36 = .ok (.if_icmp .ne 7, 3) := by decide +kernel
theorem dX7_letsGo_39 : decode cX7_letsGo 39 = .ok (.iconst (-1), 1) := by decide +kernel
theorem dX7_letsGo_40 : decode cX7_letsGo 40 = .ok (.goto 11, 3) := by decide +kernel
theorem dX7_letsGo_43 : decode cX7_letsGo 43 = .ok (.aload_n 0, 1) := by decide +kernel
theorem dX7_letsGo_44 : decode cX7_letsGo 44 = .ok (.iload_n 2, 1) := by decide +kernel
theorem dX7_letsGo_45 : decode cX7_letsGo 45 = .ok (.iconst 1, 1) := by decide +kernel
theorem dX7_letsGo_46 : decode cX7_letsGo 46 = .ok (.iload_n 3, 1) := by decide +kernel
theorem dX7_letsGo_47 : decode cX7_letsGo 47 = .ok (.iadd, 1) := by decide +kernel
theorem dX7_letsGo_48 : decode cX7_letsGo 48 = .ok (.invokevirtual 43, 3) := by decide +kernel
theorem dX7_letsGo_51 : decode cX7_letsGo 51 = .ok (.invokevirtual 58, 3) := by decide +kernel
theorem dX7_letsGo_54 : decode cX7_letsGo 54 = .ok (.iinc 3 1, 3) := by decide +kernel
theorem dX7_letsGo_57 : decode cX7_letsGo 57 = .ok (.goto (-40), 3) := by decide +kernel
theorem dX7_letsGo_60 : decode cX7_letsGo 60 = .ok (.iinc 2 1, 3) := by decide +kernel
theorem dX7_letsGo_63 : decode cX7_letsGo 63 = .ok (.goto (-54), 3) := by decide +kernel
theorem dX7_letsGo_66 : decode cX7_letsGo 66 = .ok (.iconst 0, 1) := by decide +kernel
theorem dX7_letsGo_67 : decode cX7_letsGo 67 = .ok (.istore_n 2, 1) := by decide +kernel
theorem dX7_letsGo_68 : decode cX7_letsGo 68 = .ok (.iload_n 2, 1) := by decide +kernel
theorem dX7_letsGo_69 : decode cX7_letsGo 69 = .ok (.bipush 8, 2) := by decide +kernel
theorem dX7_letsGo_71 : decode cX7_letsGo 71 = .ok (.if_icmp .ge 47, 3) := by decide +kernel
theorem dX7_letsGo_74 : decode cX7_letsGo 74 = .ok (.aload_n 0, 1) := by decide +kernel
theorem dX7_letsGo_75 : decode cX7_letsGo 75 = .ok (.getfield 7, 3) := by decide +kernel
theorem dX7_letsGo_78 : decode cX7_letsGo 78 = .ok (.sipush 218, 3) := by decide +kernel
theorem dX7_letsGo_81 : decode cX7_letsGo 81 = .ok (.iload_n 2, 1) := by decide +kernel
theorem dX7_letsGo_82 : decode cX7_letsGo 82 = .ok (.iadd, 1) := by decide +kernel
theorem dX7_letsGo_83 : decode cX7_letsGo 83 = .ok (.aload_n 0, 1) := by decide +kernel
theorem dX7_letsGo_84 : decode cX7_letsGo 84 = .ok (.getfield 7, 3) := by decide +kernel
theorem dX7_letsGo_87 : decode cX7_letsGo 87 = .ok (.sipush 218, 3) := by decide +kernel
theorem dX7_letsGo_90 : decode cX7_letsGo 90 = .ok (.iload_n 2, 1) := by decide +kernel
theorem dX7_letsGo_91 : decode cX7_letsGo 91 = .ok (.iadd, 1) := by decide +kernel
theorem dX7_letsGo_92 : decode cX7_letsGo 92 = .ok (.iaload, 1) := by decide +kernel
theorem dX7_letsGo_93 : decode cX7_letsGo 93 = .ok (.iload_n 1, 1) := by decide +kernel
theorem dX7_letsGo_94 : decode cX7_letsGo 94 = .ok (.if_icmp .ne 7, 3) := by decide +kernel
theorem dX7_letsGo_97 : decode cX7_letsGo 97 = .ok (.iconst (-1), 1) := by decide +kernel
theorem dX7_letsGo_98 : decode cX7_letsGo 98 = .ok (.goto 13, 3) := by decide +kernel
theorem dX7_letsGo_101 : decode cX7_letsGo 101 = .ok (.aload_n 0, 1) := by decide +kernel
theorem dX7_letsGo_102 : decode cX7_letsGo 102 = .ok (.getfield 7, 3) := by decide +kernel
theorem dX7_letsGo_105 : decode cX7_letsGo 105 = .ok (.sipush 218, 3) := by decide +kernel
theorem dX7_letsGo_108 : decode cX7_letsGo 108 = .ok (.iload_n 2, 1) := by decide +kernel
theorem dX7_letsGo_109 : decode cX7_letsGo 109 = .ok (.iadd, 1) := by decide +kernel
theorem dX7_letsGo_110 : decode cX7_letsGo 110 = .ok (.iaload, 1) := by decide +kernel
theorem dX7_letsGo_111 : decode cX7_letsGo 111 = .ok (.iastore, 1) := by decide +kernel
theorem dX7_letsGo_112 : decode cX7_letsGo 112 = .ok (.iinc 2 1, 3) := by decide +kernel
theorem dX7_letsGo_115 : decode cX7_letsGo 115 = .ok (.goto (-47), 3) := by decide +kernel
theorem dX7_letsGo_118 : decode cX7_letsGo 118 = .ok (.aload_n 0, 1) := by decide +kernel
theorem dX7_letsGo_119 : decode cX7_letsGo 119 = .ok (.getfield 7, 3) := by decide +kernel
theorem dX7_letsGo_122 : decode cX7_letsGo 122 = .ok (.sipush 230, 3) := by decide +kernel
theorem dX7_letsGo_125 : decode cX7_letsGo 125 = .ok (.dup2, 1) := by decide +kernel
theorem dX7_letsGo_126 : decode cX7_letsGo 126 = .ok (.iaload, 1) := by decide +kernel
theorem dX7_letsGo_127 : decode cX7_letsGo 127 = .ok (.iconst 1, 1) := by decide +kernel
theorem dX7_letsGo_128 : decode cX7_letsGo 128 = .ok (.iadd, 1) := by decide +kernel
theorem dX7_letsGo_129 : decode cX7_letsGo 129 = .ok (.iastore, 1) := by decide +kernel
theorem dX7_letsGo_130 : decode cX7_letsGo 130 = .ok (.aload_n 0, 1) := by decide +kernel
theorem dX7_letsGo_131 : decode cX7_letsGo 131 = .ok (.getfield 7, 3) := by decide +kernel
theorem dX7_letsGo_134 : decode cX7_letsGo 134 = .ok (.sipush 233, 3) := by decide +kernel
theorem dX7_letsGo_137 : decode cX7_letsGo 137 = .ok (.dup2, 1) := by decide +kernel
theorem dX7_letsGo_138 : decode cX7_letsGo 138 = .ok (.iaload, 1) := by decide +kernel
theorem dX7_letsGo_139 : decode cX7_letsGo 139 = .ok (.iconst 1, 1) := by decide +kernel
theorem dX7_letsGo_140 : decode cX7_letsGo 140 = .ok (.iload_n 1, 1) := by decide +kernel
theorem dX7_letsGo_141 : decode cX7_letsGo 141 = .ok (.ishl, 1) := by decide +kernel
theorem dX7_letsGo_142 : decode cX7_letsGo 142 = .ok (.ior, 1) := by decide +kernel
theorem dX7_letsGo_143 : decode cX7_letsGo 143 = .ok (.iastore, 1) := by decide +kernel
theorem dX7_letsGo_144 : decode cX7_letsGo 144 = .ok (.return_, 1) := by decide +kernel
theorem dX7_sweeps_0 : decode cX7_sweeps 0 = .ok (.aload_n 0, 1) := by decide +kernel
theorem dX7_sweeps_1 : decode cX7_sweeps 1 = .ok (.getfield 7, 3) := by decide +kernel
theorem dX7_sweeps_4 : decode cX7_sweeps 4 = .ok (.sipush 227, 3) := by decide +kernel
theorem dX7_sweeps_7 : decode cX7_sweeps 7 = .ok (.iaload, 1) := by decide +kernel
theorem dX7_sweeps_8 : decode cX7_sweeps 8 = .ok (.istore_n 1, 1) := by decide +kernel
theorem dX7_sweeps_9 : decode cX7_sweeps 9 = .ok (.iload_n 1, 1) := by decide +kernel
theorem dX7_sweeps_10 : decode cX7_sweeps 10 = .ok (.bipush 24, 2) := by decide +kernel
theorem dX7_sweeps_12 : decode cX7_sweeps 12 = .ok (.if_icmp .ge 18, 3) := by decide +kernel
theorem dX7_sweeps_15 : decode cX7_sweeps 15 = .ok (.aload_n 0, 1) := by decide +kernel
theorem dX7_sweeps_16 : decode cX7_sweeps 16 = .ok (.iload_n 1, 1) := by decide +kernel
theorem dX7_sweeps_17 : decode cX7_sweeps 17 = .ok (.iconst 0, 1) := by decide +kernel
theorem dX7_sweeps_18 : decode cX7_sweeps 18 = .ok (.invokevirtual 43, 3) := by decide +kernel
theorem dX7_sweeps_21 : decode cX7_sweeps 21 = .ok (.ifCond .ne 9, 3) := by decide +kernel
theorem dX7_sweeps_24 : decode cX7_sweeps 24 = .ok (.iinc 1 1, 3) := by decide +kernel
theorem dX7_sweeps_27 : decode cX7_sweeps 27 = .ok (.goto (-18), 3) := by decide +kernel
theorem dX7_sweeps_30 : decode cX7_sweeps 30 = .ok (.iload_n 1, 1) := by decide +kernel
theorem dX7_sweeps_31 : decode cX7_sweeps 31 = .ok (.bipush 24, 2) := by decide +kernel
theorem dX7_sweeps_33 : decode cX7_sweeps 33 = .ok (.if_icmp .ne 13, 3) := by decide +kernel
theorem dX7_sweeps_36 : decode cX7_sweeps 36 = .ok (.aload_n 0, 1) := by decide +kernel
theorem dX7_sweeps_37 : decode cX7_sweeps 37 = .ok (.getfield 7, 3) := by decide +kernel
theorem dX7_sweeps_40 : decode cX7_sweeps 40 = .ok (.sipush 226, 3) := by decide +kernel
theorem dX7_sweeps_43 : decode cX7_sweeps 43 = .ok (.iconst 0, 1) := by decide +kernel
theorem dX7_sweeps_44 : decode cX7_sweeps 44 = .ok (.iastore, 1) := by decide +kernel
theorem dX7_sweeps_45 : decode cX7_sweeps 45 = .ok (.return_, 1) := by decide +kernel
theorem dX7_sweeps_46 : decode cX7_sweeps 46 = .ok (.aload_n 0, 1) := by decide +kernel
theorem dX7_sweeps_47 : decode cX7_sweeps 47 = .ok (.iload_n 1, 1) := by decide +kernel
theorem dX7_sweeps_48 : decode cX7_sweeps 48 = .ok (.iconst 5, 1) := by decide +kernel
theorem dX7_sweeps_49 : decode cX7_sweeps 49 = .ok (.invokevirtual 43, 3) := by decide +kernel
theorem dX7_sweeps_52 : decode cX7_sweeps 52 = .ok (.ifCond .ne 11, 3) := by decide +kernel
theorem dX7_sweeps_55 : decode cX7_sweeps 55 = .ok (.aload_n 0, 1) := by decide +kernel
theorem dX7_sweeps_56 : decode cX7_sweeps 56 = .ok (.iload_n 1, 1) := by decide +kernel
theorem dX7_sweeps_57 : decode cX7_sweeps 57 = .ok (.invokevirtual 105, 3) := by decide +kernel
theorem dX7_sweeps_60 : decode cX7_sweeps 60 = .ok (.goto 10, 3) := by decide +kernel
theorem dX7_sweeps_63 : decode cX7_sweeps 63 = .ok (.aload_n 0, 1) := by decide +kernel
theorem dX7_sweeps_64 : decode cX7_sweeps 64 = .ok (.iload_n 1, 1) := by decide +kernel
theorem dX7_sweeps_65 : decode cX7_sweeps 65 = .ok (.iconst 5, 1) := by decide +kernel
theorem dX7_sweeps_66 : decode cX7_sweeps 66 = .ok (.iconst 0, 1) := by decide +kernel
theorem dX7_sweeps_67 : decode cX7_sweeps 67 = .ok (.invokevirtual 58, 3) := by decide +kernel
theorem dX7_sweeps_70 : decode cX7_sweeps 70 = .ok (.aload_n 0, 1) := by decide +kernel
theorem dX7_sweeps_71 : decode cX7_sweeps 71 = .ok (.getfield 7, 3) := by decide +kernel
theorem dX7_sweeps_74 : decode cX7_sweeps 74 = .ok (.sipush 227, 3) := by decide +kernel
theorem dX7_sweeps_77 : decode cX7_sweeps 77 = .ok (.iload_n 1, 1) := by decide +kernel
theorem dX7_sweeps_78 : decode cX7_sweeps 78 = .ok (.iconst 1, 1) := by decide +kernel
theorem dX7_sweeps_79 : decode cX7_sweeps 79 = .ok (.iadd, 1) := by decide +kernel
theorem dX7_sweeps_80 : decode cX7_sweeps 80 = .ok (.iastore, 1) := by decide +kernel
theorem dX7_sweeps_81 : decode cX7_sweeps 81 = .ok (.return_, 1) := by decide +kernel
theorem dX7_steps_0 : decode cX7_steps 0 = .ok (.aload_n 0, 1) := by decide +kernel
theorem dX7_steps_1 : decode cX7_steps 1 = .ok (.getfield 7, 3) := by decide +kernel
theorem dX7_steps_4 : decode cX7_steps 4 = .ok (.sipush 232, 3) := by decide +kernel
theorem dX7_steps_7 : decode cX7_steps 7 = .ok (.dup2, 1) := by decide +kernel
theorem dX7_steps_8 : decode cX7_steps 8 = .ok (.iaload, 1) := by decide +kernel
theorem dX7_steps_9 : decode cX7_steps 9 = .ok (.iconst 1, 1) := by decide +kernel
theorem dX7_steps_10 : decode cX7_steps 10 = .ok (.iadd, 1) := by decide +kernel
theorem dX7_steps_11 : decode cX7_steps 11 = .ok (.iastore, 1) := by decide +kernel
theorem dX7_steps_12 : decode cX7_steps 12 = .ok (.aload_n 0, 1) := by decide +kernel
theorem dX7_steps_13 : decode cX7_steps 13 = .ok (.getfield 7, 3) := by decide +kernel
theorem dX7_steps_16 : decode cX7_steps 16 = .ok (.sipush 226, 3) := by decide +kernel
theorem dX7_steps_19 : decode cX7_steps 19 = .ok (.iaload, 1) := by decide +kernel
theorem dX7_steps_20 : decode cX7_steps 20 = .ok (.iconst 3, 1) := by decide +kernel
theorem dX7_steps_21 : decode cX7_steps 21 = .ok (.if_icmp .ne 10, 3) := by decide +kernel
theorem dX7_steps_24 : decode cX7_steps 24 = .ok (.aload_n 0, 1) := by decide +kernel
theorem dX7_steps_25 : decode cX7_steps 25 = .ok (.invokevirtual 108, 3) := by decide +kernel
theorem dX7_steps_28 : decode cX7_steps 28 = .ok (.goto 53, 3) := by decide +kernel
theorem dX7_steps_31 : decode cX7_steps 31 = .ok (.aload_n 0, 1) := by decide +kernel
theorem dX7_steps_32 : decode cX7_steps 32 = .ok (.getfield 7, 3) := by decide +kernel
theorem dX7_steps_35 : decode cX7_steps 35 = .ok (.sipush 168, 3) := by decide +kernel
theorem dX7_steps_38 : decode cX7_steps 38 = .ok (.iaload, 1) := by decide +kernel
theorem dX7_steps_39 : decode cX7_steps 39 = .ok (.ifCond .le 10, 3) := by decide +kernel
theorem dX7_steps_42 : decode cX7_steps 42 = .ok (.aload_n 0, 1) := by decide +kernel
theorem dX7_steps_43 : decode cX7_steps 43 = .ok (.invokevirtual 111, 3) := by decide +kernel
theorem dX7_steps_46 : decode cX7_steps 46 = .ok (.goto 35, 3) := by decide +kernel
theorem dX7_steps_49 : decode cX7_steps 49 = .ok (.aload_n 0, 1) := by decide +kernel
theorem dX7_steps_50 : decode cX7_steps 50 = .ok (.getfield 7, 3) := by decide +kernel
theorem dX7_steps_53 : decode cX7_steps 53 = .ok (.sipush 226, 3) := by decide +kernel
theorem dX7_steps_56 : decode cX7_steps 56 = .ok (.iaload, 1) := by decide +kernel
theorem dX7_steps_57 : decode cX7_steps 57 = .ok (.iconst 1, 1) := by decide +kernel
theorem dX7_steps_58 : decode cX7_steps 58 = .ok (.if_icmp .ne 19, 3) := by decide +kernel
theorem dX7_steps_61 : decode cX7_steps 61 = .ok (.aload_n 0, 1) := by decide +kernel
theorem dX7_steps_62 : decode cX7_steps 62 = .ok (.invokevirtual 102, 3) := by decide +kernel
theorem dX7_steps_65 : decode cX7_steps 65 = .ok (.aload_n 0, 1) := by decide +kernel
theorem dX7_steps_66 : decode cX7_steps 66 = .ok (.getfield 7, 3) := by decide +kernel
theorem dX7_steps_69 : decode cX7_steps 69 = .ok (.sipush 226, 3) := by decide +kernel
theorem dX7_steps_72 : decode cX7_steps 72 = .ok (.iconst 2, 1) := by decide +kernel
theorem dX7_steps_73 : decode cX7_steps 73 = .ok (.iastore, 1) := by decide +kernel
theorem dX7_steps_74 : decode cX7_steps 74 = .ok (.goto 7, 3) := by decide +kernel
theorem dX7_steps_77 : decode cX7_steps 77 = .ok (.aload_n 0, 1) := by decide +kernel
theorem dX7_steps_78 : decode cX7_steps 78 = .ok (.invokevirtual 114, 3) := by decide +kernel
theorem dX7_steps_81 : decode cX7_steps 81 = .ok (.return_, 1) := by decide +kernel
theorem dX7_doesAll_0 : decode cX7_doesAll 0 = .ok (.aload_n 0, 1) := by decide +kernel
theorem dX7_doesAll_1 : decode cX7_doesAll 1 = .ok (.getfield 7, 3) := by decide +kernel
theorem dX7_doesAll_4 : decode cX7_doesAll 4 = .ok (.sipush 226, 3) := by decide +kernel
theorem dX7_doesAll_7 : decode cX7_doesAll 7 = .ok (.iaload, 1) := by decide +kernel
theorem dX7_doesAll_8 : decode cX7_doesAll 8 = .ok (.ifCond .ne 7, 3) := by decide +kernel
theorem dX7_doesAll_11 : decode cX7_doesAll 11 = .ok (.aload_n 0, 1) := by decide +kernel
theorem dX7_doesAll_12 : decode cX7_doesAll 12 = .ok (.invokevirtual 99, 3) := by decide +kernel
theorem dX7_doesAll_15 : decode cX7_doesAll 15 = .ok (.iconst 0, 1) := by decide +kernel
theorem dX7_doesAll_16 : decode cX7_doesAll 16 = .ok (.istore_n 1, 1) := by decide +kernel
theorem dX7_doesAll_17 : decode cX7_doesAll 17 = .ok (.aload_n 0, 1) := by decide +kernel
theorem dX7_doesAll_18 : decode cX7_doesAll 18 = .ok (.getfield 7, 3) := by decide +kernel
theorem dX7_doesAll_21 : decode cX7_doesAll 21 = .ok (.sipush 226, 3) := by decide +kernel
theorem dX7_doesAll_24 : decode cX7_doesAll 24 = .ok (.iaload, 1) := by decide +kernel
theorem dX7_doesAll_25 : decode cX7_doesAll 25 = .ok (.ifCond .le 13, 3) := by decide +kernel
theorem dX7_doesAll_28 : decode cX7_doesAll 28 = .ok (.aload_n 0, 1) := by decide +kernel
theorem dX7_doesAll_29 : decode cX7_doesAll 29 = .ok (.invokevirtual 117, 3) := by decide +kernel
theorem dX7_doesAll_32 : decode cX7_doesAll 32 = .ok (.iinc 1 1, 3) := by decide +kernel
theorem dX7_doesAll_35 : decode cX7_doesAll 35 = .ok (.goto (-18), 3) := by decide +kernel
theorem dX7_doesAll_38 : decode cX7_doesAll 38 = .ok (.iload_n 1, 1) := by decide +kernel
theorem dX7_doesAll_39 : decode cX7_doesAll 39 = .ok (.ireturn, 1) := by decide +kernel
theorem dX7_all_0 : decode cX7_all 0 = .ok (.aload_n 0, 1) := by decide +kernel
theorem dX7_all_1 : decode cX7_all 1 = .ok (.invokevirtual 81, 3) := by decide +kernel
theorem dX7_all_4 : decode cX7_all 4 = .ok (.aload_n 0, 1) := by decide +kernel
theorem dX7_all_5 : decode cX7_all 5 = .ok (.invokevirtual 120, 3) := by decide +kernel
theorem dX7_all_8 : decode cX7_all 8 = .ok (.ireturn, 1) := by decide +kernel
theorem dX7_isMarking_0 : decode cX7_isMarking 0 = .ok (.aload_n 0, 1) := by decide +kernel
theorem dX7_isMarking_1 : decode cX7_isMarking 1 = .ok (.getfield 7, 3) := by decide +kernel
theorem dX7_isMarking_4 : decode cX7_isMarking 4 = .ok (.sipush 226, 3) := by decide +kernel
theorem dX7_isMarking_7 : decode cX7_isMarking 7 = .ok (.iaload, 1) := by decide +kernel
theorem dX7_isMarking_8 : decode cX7_isMarking 8 = .ok (.iconst 1, 1) := by decide +kernel
theorem dX7_isMarking_9 : decode cX7_isMarking 9 = .ok (.if_icmp .eq 15, 3) := by decide +kernel
theorem dX7_isMarking_12 : decode cX7_isMarking 12 = .ok (.aload_n 0, 1) := by decide +kernel
theorem dX7_isMarking_13 : decode cX7_isMarking 13 = .ok (.getfield 7, 3) := by decide +kernel
theorem dX7_isMarking_16 : decode cX7_isMarking 16 = .ok (.sipush 226, 3) := by decide +kernel
theorem dX7_isMarking_19 : decode cX7_isMarking 19 = .ok (.iaload, 1) := by decide +kernel
theorem dX7_isMarking_20 : decode cX7_isMarking 20 = .ok (.iconst 2, 1) := by decide +kernel
theorem dX7_isMarking_21 : decode cX7_isMarking 21 = .ok (.if_icmp .ne 7, 3) := by decide +kernel
theorem dX7_isMarking_24 : decode cX7_isMarking 24 = .ok (.iconst 1, 1) := by decide +kernel
theorem dX7_isMarking_25 : decode cX7_isMarking 25 = .ok (.goto 4, 3) := by decide +kernel
theorem dX7_isMarking_28 : decode cX7_isMarking 28 = .ok (.iconst 0, 1) := by decide +kernel
theorem dX7_isMarking_29 : decode cX7_isMarking 29 = .ok (.ireturn, 1) := by decide +kernel
theorem dX7_cares_0 : decode cX7_cares 0 = .ok (.aload_n 0, 1) := by decide +kernel
theorem dX7_cares_1 : decode cX7_cares 1 = .ok (.invokevirtual 62, 3) := by decide +kernel
theorem dX7_cares_4 : decode cX7_cares 4 = .ok (.ifCond .ne 4, 3) := by decide +kernel
theorem dX7_cares_7 : decode cX7_cares 7 = .ok (.return_, 1) := by decide +kernel
theorem dX7_cares_8 : decode cX7_cares 8 = .ok (.aload_n 0, 1) := by decide +kernel
theorem dX7_cares_9 : decode cX7_cares 9 = .ok (.getfield 7, 3) := by decide +kernel
theorem dX7_cares_12 : decode cX7_cares 12 = .ok (.sipush 234, 3) := by decide +kernel
theorem dX7_cares_15 : decode cX7_cares 15 = .ok (.iaload, 1) := by decide +kernel
theorem dX7_cares_16 : decode cX7_cares 16 = .ok (.iconst 1, 1) := by decide +kernel
theorem dX7_cares_17 : decode cX7_cares 17 = .ok (.if_icmp .ne 12, 3) := by decide +kernel
theorem dX7_cares_20 : decode cX7_cares 20 = .ok (.iload_n 3, 1) := by decide +kernel
theorem dX7_cares_21 : decode cX7_cares 21 = .ok (.ifCond .eq 8, 3) := by decide +kernel
theorem dX7_cares_24 : decode cX7_cares 24 = .ok (.aload_n 0, 1) := by decide +kernel
theorem dX7_cares_25 : decode cX7_cares 25 = .ok (.iload_n 2, 1) := by decide +kernel
theorem dX7_cares_26 : decode cX7_cares 26 = .ok (.invokevirtual 66, 3) := by decide +kernel
theorem dX7_cares_29 : decode cX7_cares 29 = .ok (.aload_n 0, 1) := by decide +kernel
theorem dX7_cares_30 : decode cX7_cares 30 = .ok (.getfield 7, 3) := by decide +kernel
theorem dX7_cares_33 : decode cX7_cares 33 = .ok (.sipush 234, 3) := by decide +kernel
theorem dX7_cares_36 : decode cX7_cares 36 = .ok (.iaload, 1) := by decide +kernel
theorem dX7_cares_37 : decode cX7_cares 37 = .ok (.iconst 2, 1) := by decide +kernel
theorem dX7_cares_38 : decode cX7_cares 38 = .ok (.if_icmp .ne 13, 3) := by decide +kernel
theorem dX7_cares_41 : decode cX7_cares 41 = .ok (.iload_n 1, 1) := by decide +kernel
theorem dX7_cares_42 : decode cX7_cares 42 = .ok (.iload_n 2, 1) := by decide +kernel
theorem dX7_cares_43 : decode cX7_cares 43 = .ok (.if_icmp .eq 8, 3) := by decide +kernel
theorem dX7_cares_46 : decode cX7_cares 46 = .ok (.aload_n 0, 1) := by decide +kernel
theorem dX7_cares_47 : decode cX7_cares 47 = .ok (.iload_n 1, 1) := by decide +kernel
theorem dX7_cares_48 : decode cX7_cares 48 = .ok (.invokevirtual 66, 3) := by decide +kernel
theorem dX7_cares_51 : decode cX7_cares 51 = .ok (.return_, 1) := by decide +kernel
theorem dX7_writesRoot_0 : decode cX7_writesRoot 0 = .ok (.aload_n 0, 1) := by decide +kernel
theorem dX7_writesRoot_1 : decode cX7_writesRoot 1 = .ok (.getfield 7, 3) := by decide +kernel
theorem dX7_writesRoot_4 : decode cX7_writesRoot 4 = .ok (.sipush 218, 3) := by decide +kernel
theorem dX7_writesRoot_7 : decode cX7_writesRoot 7 = .ok (.iload_n 1, 1) := by decide +kernel
theorem dX7_writesRoot_8 : decode cX7_writesRoot 8 = .ok (.iadd, 1) := by decide +kernel
theorem dX7_writesRoot_9 : decode cX7_writesRoot 9 = .ok (.iaload, 1) := by decide +kernel
theorem dX7_writesRoot_10 : decode cX7_writesRoot 10 = .ok (.istore_n 3, 1) := by decide +kernel
theorem dX7_writesRoot_11 : decode cX7_writesRoot 11 = .ok (.aload_n 0, 1) := by decide +kernel
theorem dX7_writesRoot_12 : decode cX7_writesRoot 12 = .ok (.getfield 7, 3) := by decide +kernel
theorem dX7_writesRoot_15 : decode cX7_writesRoot 15 = .ok (.sipush 218, 3) := by decide +kernel
theorem dX7_writesRoot_18 : decode cX7_writesRoot 18 = .ok (.iload_n 1, 1) := by decide +kernel
theorem dX7_writesRoot_19 : decode cX7_writesRoot 19 = .ok (.iadd, 1) := by decide +kernel
theorem dX7_writesRoot_20 : decode cX7_writesRoot 20 = .ok (.iload_n 2, 1) := by decide +kernel
theorem dX7_writesRoot_21 : decode cX7_writesRoot 21 = .ok (.iastore, 1) := by decide +kernel
theorem dX7_writesRoot_22 : decode cX7_writesRoot 22 = .ok (.aload_n 0, 1) := by decide +kernel
theorem dX7_writesRoot_23 : decode cX7_writesRoot 23 = .ok (.iload_n 3, 1) := by decide +kernel
theorem dX7_writesRoot_24 : decode cX7_writesRoot 24 = .ok (.iload_n 2, 1) := by decide +kernel
theorem dX7_writesRoot_25 : decode cX7_writesRoot 25 = .ok (.iconst 1, 1) := by decide +kernel
theorem dX7_writesRoot_26 : decode cX7_writesRoot 26 = .ok (.invokevirtual 70, 3) := by decide +kernel
theorem dX7_writesRoot_29 : decode cX7_writesRoot 29 = .ok (.iload_n 3, 1) := by decide +kernel
theorem dX7_writesRoot_30 : decode cX7_writesRoot 30 = .ok (.ireturn, 1) := by decide +kernel
theorem dX7_ask_0 : decode cX7_ask 0 = .ok (.iload_n 1, 1) := by decide +kernel
theorem dX7_ask_1 : decode cX7_ask 1 = .ok (.invokestatic 74, 3) := by decide +kernel
theorem dX7_ask_4 : decode cX7_ask 4 = .ok (.ifCond .eq 10, 3) := by decide +kernel
theorem dX7_ask_7 : decode cX7_ask 7 = .ok (.iload_n 2, 1) := by decide +kernel
theorem dX7_ask_8 : decode cX7_ask 8 = .ok (.invokestatic 74, 3) := by decide +kernel
theorem dX7_ask_11 : decode cX7_ask 11 = .ok (.ifCond .ne 6, 3) := by decide +kernel
theorem dX7_ask_14 : decode cX7_ask 14 = .ok (.bipush (-11), 2) := by decide +kernel
theorem dX7_ask_16 : decode cX7_ask 16 = .ok (.ireturn, 1) := by decide +kernel
theorem dX7_ask_17 : decode cX7_ask 17 = .ok (.aload_n 0, 1) := by decide +kernel
theorem dX7_ask_18 : decode cX7_ask 18 = .ok (.getfield 7, 3) := by decide +kernel
theorem dX7_ask_21 : decode cX7_ask 21 = .ok (.sipush 222, 3) := by decide +kernel
theorem dX7_ask_24 : decode cX7_ask 24 = .ok (.iload_n 1, 1) := by decide +kernel
theorem dX7_ask_25 : decode cX7_ask 25 = .ok (.iadd, 1) := by decide +kernel
theorem dX7_ask_26 : decode cX7_ask 26 = .ok (.iaload, 1) := by decide +kernel
theorem dX7_ask_27 : decode cX7_ask 27 = .ok (.istore_n 3, 1) := by decide +kernel
theorem dX7_ask_28 : decode cX7_ask 28 = .ok (.iload_n 3, 1) := by decide +kernel
theorem dX7_ask_29 : decode cX7_ask 29 = .ok (.ifCond .ge 6, 3) := by decide +kernel
theorem dX7_ask_32 : decode cX7_ask 32 = .ok (.bipush (-14), 2) := by decide +kernel
theorem dX7_ask_34 : decode cX7_ask 34 = .ok (.ireturn, 1) := by decide +kernel
theorem dX7_ask_35 : decode cX7_ask 35 = .ok (.aload_n 0, 1) := by decide +kernel
theorem dX7_ask_36 : decode cX7_ask 36 = .ok (.invokevirtual 81, 3) := by decide +kernel
theorem dX7_ask_39 : decode cX7_ask 39 = .ok (.aload_n 0, 1) := by decide +kernel
theorem dX7_ask_40 : decode cX7_ask 40 = .ok (.iload_n 2, 1) := by decide +kernel
theorem dX7_ask_41 : decode cX7_ask 41 = .ok (.iload_n 3, 1) := by decide +kernel
theorem dX7_ask_42 : decode cX7_ask 42 = .ok (.invokevirtual 84, 3) := by decide +kernel
theorem dX7_ask_45 : decode cX7_ask 45 = .ok (.istore 4, 2) := by decide +kernel
theorem dX7_ask_47 : decode cX7_ask 47 = .ok (.aload_n 0, 1) := by decide +kernel
theorem dX7_ask_48 : decode cX7_ask 48 = .ok (.invokevirtual 62, 3) := by decide +kernel
theorem dX7_ask_51 : decode cX7_ask 51 = .ok (.ifCond .eq 15, 3) := by decide +kernel
theorem dX7_ask_54 : decode cX7_ask 54 = .ok (.iload 4, 2) := by decide +kernel
theorem dX7_ask_56 : decode cX7_ask 56 = .ok (.bipush 24, 2) := by decide +kernel
theorem dX7_ask_58 : decode cX7_ask 58 = .ok (.if_icmp .ge 8, 3) := by decide +kernel
theorem dX7_ask_61 : decode cX7_ask 61 = .ok (.aload_n 0, 1) := by decide +kernel
theorem dX7_ask_62 : decode cX7_ask 62 = .ok (.iload_n 3, 1) := by decide +kernel
theorem dX7_ask_63 : decode cX7_ask 63 = .ok (.invokevirtual 66, 3) := by decide +kernel
theorem dX7_ask_66 : decode cX7_ask 66 = .ok (.iload_n 3, 1) := by decide +kernel
theorem dX7_ask_67 : decode cX7_ask 67 = .ok (.ireturn, 1) := by decide +kernel
theorem dX7_begin_0 : decode cX7_begin 0 = .ok (.aload_n 0, 1) := by decide +kernel
theorem dX7_begin_1 : decode cX7_begin 1 = .ok (.getfield 7, 3) := by decide +kernel
theorem dX7_begin_4 : decode cX7_begin 4 = .ok (.sipush 226, 3) := by decide +kernel
theorem dX7_begin_7 : decode cX7_begin 7 = .ok (.iaload, 1) := by decide +kernel
theorem dX7_begin_8 : decode cX7_begin 8 = .ok (.ifCond .le 6, 3) := by decide +kernel
theorem dX7_begin_11 : decode cX7_begin 11 = .ok (.bipush (-12), 2) := by decide +kernel
theorem dX7_begin_13 : decode cX7_begin 13 = .ok (.ireturn, 1) := by decide +kernel
theorem dX7_begin_14 : decode cX7_begin 14 = .ok (.aload_n 0, 1) := by decide +kernel
theorem dX7_begin_15 : decode cX7_begin 15 = .ok (.invokevirtual 81, 3) := by decide +kernel
theorem dX7_begin_18 : decode cX7_begin 18 = .ok (.aload_n 0, 1) := by decide +kernel
theorem dX7_begin_19 : decode cX7_begin 19 = .ok (.invokevirtual 99, 3) := by decide +kernel
theorem dX7_begin_22 : decode cX7_begin 22 = .ok (.aload_n 0, 1) := by decide +kernel
theorem dX7_begin_23 : decode cX7_begin 23 = .ok (.getfield 7, 3) := by decide +kernel
theorem dX7_begin_26 : decode cX7_begin 26 = .ok (.sipush 168, 3) := by decide +kernel
theorem dX7_begin_29 : decode cX7_begin 29 = .ok (.iaload, 1) := by decide +kernel
theorem dX7_begin_30 : decode cX7_begin 30 = .ok (.ireturn, 1) := by decide +kernel
theorem dX7_spreads_0 : decode cX7_spreads 0 = .ok (.iload_n 1, 1) := by decide +kernel
theorem dX7_spreads_1 : decode cX7_spreads 1 = .ok (.istore_n 3, 1) := by decide +kernel
theorem dX7_spreads_2 : decode cX7_spreads 2 = .ok (.iconst 1, 1) := by decide +kernel
theorem dX7_spreads_3 : decode cX7_spreads 3 = .ok (.istore 4, 2) := by decide +kernel
theorem dX7_spreads_5 : decode cX7_spreads 5 = .ok (.iload 4, 2) := by decide +kernel
theorem dX7_spreads_7 : decode cX7_spreads 7 = .ok (.ifCond .eq 97, 3) := by decide +kernel
theorem dX7_spreads_10 : decode cX7_spreads 10 = .ok (.iload_n 3, 1) := by decide +kernel
theorem dX7_spreads_11 : decode cX7_spreads 11 = .ok (.istore 5, 2) := by decide +kernel
theorem dX7_spreads_13 : decode cX7_spreads 13 = .ok (.iconst 0, 1) := by decide +kernel
theorem dX7_spreads_14 : decode cX7_spreads 14 = .ok (.istore 6, 2) := by decide +kernel
theorem dX7_spreads_16 : decode cX7_spreads 16 = .ok (.iload 6, 2) := by decide +kernel
theorem dX7_spreads_18 : decode cX7_spreads 18 = .ok (.bipush 24, 2) := by decide +kernel
theorem dX7_spreads_20 : decode cX7_spreads 20 = .ok (.if_icmp .ge 68, 3) := by decide +kernel
theorem dX7_spreads_23 : decode cX7_spreads 23 = .ok (.iconst 0, 1) := by decide +kernel
theorem dX7_spreads_24 : decode cX7_spreads 24 = .ok (.istore 7, 2) := by decide +kernel
theorem dX7_spreads_26 : decode cX7_spreads 26 = .ok (.iload 7, 2) := by decide +kernel
theorem dX7_spreads_28 : decode cX7_spreads 28 = .ok (.iconst 3, 1) := by decide +kernel
theorem dX7_spreads_29 : decode cX7_spreads 29 = .ok (.if_icmp .ge 53, 3) := by decide +kernel
theorem dX7_spreads_32 : decode cX7_spreads 32 = .ok (.iload_n 3, 1) := by decide +kernel
theorem dX7_spreads_33 : decode cX7_spreads 33 = .ok (.iload 6, 2) := by decide +kernel
theorem dX7_spreads_35 : decode cX7_spreads 35 = .ok (.ishr, 1) := by decide +kernel
theorem dX7_spreads_36 : decode cX7_spreads 36 = .ok (.iconst 1, 1) := by decide +kernel
theorem dX7_spreads_37 : decode cX7_spreads 37 = .ok (.iand, 1) := by decide +kernel
theorem dX7_spreads_38 : decode cX7_spreads 38 = .ok (.iconst 1, 1) := by decide +kernel
theorem dX7_spreads_39 : decode cX7_spreads 39 = .ok (.if_icmp .ne 43, 3) := by decide +kernel
theorem dX7_spreads_42 : decode cX7_spreads 42 = .ok (.aload_n 0, 1) := by decide +kernel
theorem dX7_spreads_43 : decode cX7_spreads 43 = .ok (.iload 6, 2) := by decide +kernel
theorem dX7_spreads_45 : decode cX7_spreads 45 = .ok (.iconst 1, 1) := by decide +kernel
theorem dX7_spreads_46 : decode cX7_spreads 46 = .ok (.iload 7, 2) := by decide +kernel
theorem dX7_spreads_48 : decode cX7_spreads 48 = .ok (.iadd, 1) := by decide +kernel
theorem dX7_spreads_49 : decode cX7_spreads 49 = .ok (.invokevirtual 43, 3) := by decide +kernel
theorem dX7_spreads_52 : decode cX7_spreads 52 = .ok (.istore 8, 2) := by decide +kernel
theorem dX7_spreads_54 : decode cX7_spreads 54 = .ok (.iload_n 3, 1) := by decide +kernel
theorem dX7_spreads_55 : decode cX7_spreads 55 = .ok (.iload 8, 2) := by decide +kernel
theorem dX7_spreads_57 : decode cX7_spreads 57 = .ok (.ifCond .lt 16, 3) := by decide +kernel
theorem dX7_spreads_60 : decode cX7_spreads 60 = .ok (.iload 8, 2) := by decide +kernel
theorem dX7_spreads_62 : decode cX7_spreads 62 = .ok (.iload_n 2, 1) := by decide +kernel
theorem dX7_spreads_63 : decode cX7_spreads 63 = .ok (.if_icmp .eq 10, 3) := by decide +kernel
theorem dX7_spreads_66 : decode cX7_spreads 66 = .ok (.iconst 1, 1) := by decide +kernel
theorem dX7_spreads_67 : decode cX7_spreads 67 = .ok (.iload 8, 2) := by decide +kernel
theorem dX7_spreads_69 : decode cX7_spreads 69 = .ok (.ishl, 1) := by decide +kernel
theorem dX7_spreads_70 : decode cX7_spreads 70 = .ok (.goto 4, 3) := by decide +kernel
theorem dX7_spreads_73 : decode cX7_spreads 73 = .ok (.iconst 0, 1) := by decide +kernel
theorem dX7_spreads_74 : decode cX7_spreads 74 = .ok (.ior, 1) := by decide +kernel
theorem dX7_spreads_75 : decode cX7_spreads 75 = .ok (.istore_n 3, 1) := by decide +kernel
theorem dX7_spreads_76 : decode cX7_spreads 76 = .ok (.iinc 7 1, 3) := by decide +kernel
theorem dX7_spreads_79 : decode cX7_spreads 79 = .ok (.goto (-53), 3) := by decide +kernel
theorem dX7_spreads_82 : decode cX7_spreads 82 = .ok (.iinc 6 1, 3) := by decide +kernel
theorem dX7_spreads_85 : decode cX7_spreads 85 = .ok (.goto (-69), 3) := by decide +kernel
theorem dX7_spreads_88 : decode cX7_spreads 88 = .ok (.iload_n 3, 1) := by decide +kernel
theorem dX7_spreads_89 : decode cX7_spreads 89 = .ok (.iload 5, 2) := by decide +kernel
theorem dX7_spreads_91 : decode cX7_spreads 91 = .ok (.if_icmp .eq 7, 3) := by decide +kernel
theorem dX7_spreads_94 : decode cX7_spreads 94 = .ok (.iconst 1, 1) := by decide +kernel
theorem dX7_spreads_95 : decode cX7_spreads 95 = .ok (.goto 4, 3) := by decide +kernel
theorem dX7_spreads_98 : decode cX7_spreads 98 = .ok (.iconst 0, 1) := by decide +kernel
theorem dX7_spreads_99 : decode cX7_spreads 99 = .ok (.istore 4, 2) := by decide +kernel
theorem dX7_spreads_101 : decode cX7_spreads 101 = .ok (.goto (-96), 3) := by decide +kernel
theorem dX7_spreads_104 : decode cX7_spreads 104 = .ok (.iload_n 3, 1) := by decide +kernel
theorem dX7_spreads_105 : decode cX7_spreads 105 = .ok (.ireturn, 1) := by decide +kernel
theorem dX7_rooted_0 : decode cX7_rooted 0 = .ok (.iconst 0, 1) := by decide +kernel
theorem dX7_rooted_1 : decode cX7_rooted 1 = .ok (.istore_n 2, 1) := by decide +kernel
theorem dX7_rooted_2 : decode cX7_rooted 2 = .ok (.iconst 0, 1) := by decide +kernel
theorem dX7_rooted_3 : decode cX7_rooted 3 = .ok (.istore_n 3, 1) := by decide +kernel
theorem dX7_rooted_4 : decode cX7_rooted 4 = .ok (.iload_n 3, 1) := by decide +kernel
theorem dX7_rooted_5 : decode cX7_rooted 5 = .ok (.iconst 4, 1) := by decide +kernel
theorem dX7_rooted_6 : decode cX7_rooted 6 = .ok (.if_icmp .ge 43, 3) := by decide +kernel
theorem dX7_rooted_9 : decode cX7_rooted 9 = .ok (.aload_n 0, 1) := by decide +kernel
theorem dX7_rooted_10 : decode cX7_rooted 10 = .ok (.getfield 7, 3) := by decide +kernel
theorem dX7_rooted_13 : decode cX7_rooted 13 = .ok (.sipush 218, 3) := by decide +kernel
theorem dX7_rooted_16 : decode cX7_rooted 16 = .ok (.iload_n 3, 1) := by decide +kernel
theorem dX7_rooted_17 : decode cX7_rooted 17 = .ok (.iadd, 1) := by decide +kernel
theorem dX7_rooted_18 : decode cX7_rooted 18 = .ok (.iaload, 1) := by decide +kernel
theorem dX7_rooted_19 : decode cX7_rooted 19 = .ok (.istore 4, 2) := by decide +kernel
theorem dX7_rooted_21 : decode cX7_rooted 21 = .ok (.iload_n 2, 1) := by decide +kernel
theorem dX7_rooted_22 : decode cX7_rooted 22 = .ok (.iload 4, 2) := by decide +kernel
theorem dX7_rooted_24 : decode cX7_rooted 24 = .ok (.ifCond .lt 16, 3) := by decide +kernel
theorem dX7_rooted_27 : decode cX7_rooted 27 = .ok (.iload 4, 2) := by decide +kernel
theorem dX7_rooted_29 : decode cX7_rooted 29 = .ok (.iload_n 1, 1) := by decide +kernel
theorem dX7_rooted_30 : decode cX7_rooted 30 = .ok (.if_icmp .eq 10, 3) := by decide +kernel
theorem dX7_rooted_33 : decode cX7_rooted 33 = .ok (.iconst 1, 1) := by decide +kernel
theorem dX7_rooted_34 : decode cX7_rooted 34 = .ok (.iload 4, 2) := by decide +kernel
theorem dX7_rooted_36 : decode cX7_rooted 36 = .ok (.ishl, 1) := by decide +kernel
theorem dX7_rooted_37 : decode cX7_rooted 37 = .ok (.goto 4, 3) := by decide +kernel
theorem dX7_rooted_40 : decode cX7_rooted 40 = .ok (.iconst 0, 1) := by decide +kernel
theorem dX7_rooted_41 : decode cX7_rooted 41 = .ok (.ior, 1) := by decide +kernel
theorem dX7_rooted_42 : decode cX7_rooted 42 = .ok (.istore_n 2, 1) := by decide +kernel
theorem dX7_rooted_43 : decode cX7_rooted 43 = .ok (.iinc 3 1, 3) := by decide +kernel
theorem dX7_rooted_46 : decode cX7_rooted 46 = .ok (.goto (-42), 3) := by decide +kernel
theorem dX7_rooted_49 : decode cX7_rooted 49 = .ok (.aload_n 0, 1) := by decide +kernel
theorem dX7_rooted_50 : decode cX7_rooted 50 = .ok (.iload_n 2, 1) := by decide +kernel
theorem dX7_rooted_51 : decode cX7_rooted 51 = .ok (.iload_n 1, 1) := by decide +kernel
theorem dX7_rooted_52 : decode cX7_rooted 52 = .ok (.invokevirtual 47, 3) := by decide +kernel
theorem dX7_rooted_55 : decode cX7_rooted 55 = .ok (.ireturn, 1) := by decide +kernel
theorem dX7_reached_0 : decode cX7_reached 0 = .ok (.aload_n 0, 1) := by decide +kernel
theorem dX7_reached_1 : decode cX7_reached 1 = .ok (.iconst (-1), 1) := by decide +kernel
theorem dX7_reached_2 : decode cX7_reached 2 = .ok (.invokevirtual 50, 3) := by decide +kernel
theorem dX7_reached_5 : decode cX7_reached 5 = .ok (.istore_n 1, 1) := by decide +kernel
theorem dX7_reached_6 : decode cX7_reached 6 = .ok (.iconst 0, 1) := by decide +kernel
theorem dX7_reached_7 : decode cX7_reached 7 = .ok (.istore_n 2, 1) := by decide +kernel
theorem dX7_reached_8 : decode cX7_reached 8 = .ok (.iload_n 2, 1) := by decide +kernel
theorem dX7_reached_9 : decode cX7_reached 9 = .ok (.aload_n 0, 1) := by decide +kernel
theorem dX7_reached_10 : decode cX7_reached 10 = .ok (.getfield 7, 3) := by decide +kernel
theorem dX7_reached_13 : decode cX7_reached 13 = .ok (.sipush 193, 3) := by decide +kernel
theorem dX7_reached_16 : decode cX7_reached 16 = .ok (.iaload, 1) := by decide +kernel
theorem dX7_reached_17 : decode cX7_reached 17 = .ok (.if_icmp .ge 24, 3) := by decide +kernel
theorem dX7_reached_20 : decode cX7_reached 20 = .ok (.iload_n 1, 1) := by decide +kernel
theorem dX7_reached_21 : decode cX7_reached 21 = .ok (.iconst 1, 1) := by decide +kernel
theorem dX7_reached_22 : decode cX7_reached 22 = .ok (.aload_n 0, 1) := by decide +kernel
theorem dX7_reached_23 : decode cX7_reached 23 = .ok (.getfield 7, 3) := by decide +kernel
theorem dX7_reached_26 : decode cX7_reached 26 = .ok (.sipush 194, 3) := by decide +kernel
theorem dX7_reached_29 : decode cX7_reached 29 = .ok (.iload_n 2, 1) := by decide +kernel
theorem dX7_reached_30 : decode cX7_reached 30 = .ok (.iadd, 1) := by decide +kernel
theorem dX7_reached_31 : decode cX7_reached 31 = .ok (.iaload, 1) := by decide +kernel
theorem dX7_reached_32 : decode cX7_reached 32 = .ok (.ishl, 1) := by decide +kernel
theorem dX7_reached_33 : decode cX7_reached 33 = .ok (.ior, 1) := by decide +kernel
theorem dX7_reached_34 : decode cX7_reached 34 = .ok (.istore_n 1, 1) := by decide +kernel
theorem dX7_reached_35 : decode cX7_reached 35 = .ok (.iinc 2 1, 3) := by decide +kernel
theorem dX7_reached_38 : decode cX7_reached 38 = .ok (.goto (-30), 3) := by decide +kernel
theorem dX7_reached_41 : decode cX7_reached 41 = .ok (.aload_n 0, 1) := by decide +kernel
theorem dX7_reached_42 : decode cX7_reached 42 = .ok (.iload_n 1, 1) := by decide +kernel
theorem dX7_reached_43 : decode cX7_reached 43 = .ok (.iconst (-1), 1) := by decide +kernel
theorem dX7_reached_44 : decode cX7_reached 44 = .ok (.invokevirtual 47, 3) := by decide +kernel
theorem dX7_reached_47 : decode cX7_reached 47 = .ok (.ireturn, 1) := by decide +kernel
theorem dX7_isReached_0 : decode cX7_isReached 0 = .ok (.aload_n 0, 1) := by decide +kernel
theorem dX7_isReached_1 : decode cX7_isReached 1 = .ok (.invokevirtual 54, 3) := by decide +kernel
theorem dX7_isReached_4 : decode cX7_isReached 4 = .ok (.iload_n 1, 1) := by decide +kernel
theorem dX7_isReached_5 : decode cX7_isReached 5 = .ok (.ishr, 1) := by decide +kernel
theorem dX7_isReached_6 : decode cX7_isReached 6 = .ok (.iconst 1, 1) := by decide +kernel
theorem dX7_isReached_7 : decode cX7_isReached 7 = .ok (.iand, 1) := by decide +kernel
theorem dX7_isReached_8 : decode cX7_isReached 8 = .ok (.iconst 1, 1) := by decide +kernel
theorem dX7_isReached_9 : decode cX7_isReached 9 = .ok (.if_icmp .ne 7, 3) := by decide +kernel
theorem dX7_isReached_12 : decode cX7_isReached 12 = .ok (.iconst 1, 1) := by decide +kernel
theorem dX7_isReached_13 : decode cX7_isReached 13 = .ok (.goto 4, 3) := by decide +kernel
theorem dX7_isReached_16 : decode cX7_isReached 16 = .ok (.iconst 0, 1) := by decide +kernel
theorem dX7_isReached_17 : decode cX7_isReached 17 = .ok (.ireturn, 1) := by decide +kernel
theorem dX7_field_0 : decode cX7_field 0 = .ok (.aload_n 0, 1) := by decide +kernel
theorem dX7_field_1 : decode cX7_field 1 = .ok (.iload_n 1, 1) := by decide +kernel
theorem dX7_field_2 : decode cX7_field 2 = .ok (.invokevirtual 87, 3) := by decide +kernel
theorem dX7_field_5 : decode cX7_field 5 = .ok (.ifCond .eq 25, 3) := by decide +kernel
theorem dX7_field_8 : decode cX7_field 8 = .ok (.iload_n 2, 1) := by decide +kernel
theorem dX7_field_9 : decode cX7_field 9 = .ok (.iconst 0, 1) := by decide +kernel
theorem dX7_field_10 : decode cX7_field 10 = .ok (.iconst 2, 1) := by decide +kernel
theorem dX7_field_11 : decode cX7_field 11 = .ok (.invokestatic 39, 3) := by decide +kernel
theorem dX7_field_14 : decode cX7_field 14 = .ok (.ifCond .eq 16, 3) := by decide +kernel
theorem dX7_field_17 : decode cX7_field 17 = .ok (.iload_n 3, 1) := by decide +kernel
theorem dX7_field_18 : decode cX7_field 18 = .ok (.iconst (-1), 1) := by decide +kernel
theorem dX7_field_19 : decode cX7_field 19 = .ok (.if_icmp .eq 14, 3) := by decide +kernel
theorem dX7_field_22 : decode cX7_field 22 = .ok (.aload_n 0, 1) := by decide +kernel
theorem dX7_field_23 : decode cX7_field 23 = .ok (.iload_n 3, 1) := by decide +kernel
theorem dX7_field_24 : decode cX7_field 24 = .ok (.invokevirtual 87, 3) := by decide +kernel
theorem dX7_field_27 : decode cX7_field 27 = .ok (.ifCond .ne 6, 3) := by decide +kernel
theorem dX7_field_30 : decode cX7_field 30 = .ok (.bipush (-11), 2) := by decide +kernel
theorem dX7_field_32 : decode cX7_field 32 = .ok (.ireturn, 1) := by decide +kernel
theorem dX7_field_33 : decode cX7_field 33 = .ok (.aload_n 0, 1) := by decide +kernel
theorem dX7_field_34 : decode cX7_field 34 = .ok (.iload_n 1, 1) := by decide +kernel
theorem dX7_field_35 : decode cX7_field 35 = .ok (.invokevirtual 90, 3) := by decide +kernel
theorem dX7_field_38 : decode cX7_field 38 = .ok (.ifCond .eq 15, 3) := by decide +kernel
theorem dX7_field_41 : decode cX7_field 41 = .ok (.iload_n 3, 1) := by decide +kernel
theorem dX7_field_42 : decode cX7_field 42 = .ok (.ifCond .lt 14, 3) := by decide +kernel
theorem dX7_field_45 : decode cX7_field 45 = .ok (.aload_n 0, 1) := by decide +kernel
theorem dX7_field_46 : decode cX7_field 46 = .ok (.iload_n 3, 1) := by decide +kernel
theorem dX7_field_47 : decode cX7_field 47 = .ok (.invokevirtual 90, 3) := by decide +kernel
theorem dX7_field_50 : decode cX7_field 50 = .ok (.ifCond .ne 6, 3) := by decide +kernel
theorem dX7_field_53 : decode cX7_field 53 = .ok (.bipush (-12), 2) := by decide +kernel
theorem dX7_field_55 : decode cX7_field 55 = .ok (.ireturn, 1) := by decide +kernel
theorem dX7_field_56 : decode cX7_field 56 = .ok (.aload_n 0, 1) := by decide +kernel
theorem dX7_field_57 : decode cX7_field 57 = .ok (.invokevirtual 81, 3) := by decide +kernel
theorem dX7_field_60 : decode cX7_field 60 = .ok (.aload_n 0, 1) := by decide +kernel
theorem dX7_field_61 : decode cX7_field 61 = .ok (.iload_n 1, 1) := by decide +kernel
theorem dX7_field_62 : decode cX7_field 62 = .ok (.iconst 1, 1) := by decide +kernel
theorem dX7_field_63 : decode cX7_field 63 = .ok (.iload_n 2, 1) := by decide +kernel
theorem dX7_field_64 : decode cX7_field 64 = .ok (.iadd, 1) := by decide +kernel
theorem dX7_field_65 : decode cX7_field 65 = .ok (.invokevirtual 43, 3) := by decide +kernel
theorem dX7_field_68 : decode cX7_field 68 = .ok (.istore 4, 2) := by decide +kernel
theorem dX7_field_70 : decode cX7_field 70 = .ok (.aload_n 0, 1) := by decide +kernel
theorem dX7_field_71 : decode cX7_field 71 = .ok (.iload_n 1, 1) := by decide +kernel
theorem dX7_field_72 : decode cX7_field 72 = .ok (.iconst 1, 1) := by decide +kernel
theorem dX7_field_73 : decode cX7_field 73 = .ok (.iload_n 2, 1) := by decide +kernel
theorem dX7_field_74 : decode cX7_field 74 = .ok (.iadd, 1) := by decide +kernel
theorem dX7_field_75 : decode cX7_field 75 = .ok (.iload_n 3, 1) := by decide +kernel
theorem dX7_field_76 : decode cX7_field 76 = .ok (.invokevirtual 58, 3) := by decide +kernel
theorem dX7_field_79 : decode cX7_field 79 = .ok (.aload_n 0, 1) := by decide +kernel
theorem dX7_field_80 : decode cX7_field 80 = .ok (.iload 4, 2) := by decide +kernel
theorem dX7_field_82 : decode cX7_field 82 = .ok (.iload_n 3, 1) := by decide +kernel
theorem dX7_field_83 : decode cX7_field 83 = .ok (.aload_n 0, 1) := by decide +kernel
theorem dX7_field_84 : decode cX7_field 84 = .ok (.iload_n 1, 1) := by decide +kernel
theorem dX7_field_85 : decode cX7_field 85 = .ok (.iconst 5, 1) := by decide +kernel
theorem dX7_field_86 : decode cX7_field 86 = .ok (.invokevirtual 43, 3) := by decide +kernel
theorem dX7_field_89 : decode cX7_field 89 = .ok (.iconst 2, 1) := by decide +kernel
theorem dX7_field_90 : decode cX7_field 90 = .ok (.if_icmp .ne 7, 3) := by decide +kernel
theorem dX7_field_93 : decode cX7_field 93 = .ok (.iconst 1, 1) := by decide +kernel
theorem dX7_field_94 : decode cX7_field 94 = .ok (.goto 4, 3) := by decide +kernel
theorem dX7_field_97 : decode cX7_field 97 = .ok (.iconst 0, 1) := by decide +kernel
theorem dX7_field_98 : decode cX7_field 98 = .ok (.invokevirtual 70, 3) := by decide +kernel
theorem dX7_field_101 : decode cX7_field 101 = .ok (.iload 4, 2) := by decide +kernel
theorem dX7_field_103 : decode cX7_field 103 = .ok (.ireturn, 1) := by decide +kernel
theorem dX7_lowestFree_0 : decode cX7_lowestFree 0 = .ok (.iconst 0, 1) := by decide +kernel
theorem dX7_lowestFree_1 : decode cX7_lowestFree 1 = .ok (.istore_n 1, 1) := by decide +kernel
theorem dX7_lowestFree_2 : decode cX7_lowestFree 2 = .ok (.iload_n 1, 1) := by decide +kernel
theorem dX7_lowestFree_3 : decode cX7_lowestFree 3 = .ok (.bipush 24, 2) := by decide +kernel
theorem dX7_lowestFree_5 : decode cX7_lowestFree 5 = .ok (.if_icmp .ge 20, 3) := by decide +kernel
theorem dX7_lowestFree_8 : decode cX7_lowestFree 8 = .ok (.aload_n 0, 1) := by decide +kernel
theorem dX7_lowestFree_9 : decode cX7_lowestFree 9 = .ok (.iload_n 1, 1) := by decide +kernel
theorem dX7_lowestFree_10 : decode cX7_lowestFree 10 = .ok (.iconst 0, 1) := by decide +kernel
theorem dX7_lowestFree_11 : decode cX7_lowestFree 11 = .ok (.invokevirtual 43, 3) := by decide +kernel
theorem dX7_lowestFree_14 : decode cX7_lowestFree 14 = .ok (.ifCond .ne 5, 3) := by decide +kernel
theorem dX7_lowestFree_17 : decode cX7_lowestFree 17 = .ok (.iload_n 1, 1) := by decide +kernel
theorem dX7_lowestFree_18 : decode cX7_lowestFree 18 = .ok (.ireturn, 1) := by decide +kernel
theorem dX7_lowestFree_19 : decode cX7_lowestFree 19 = .ok (.iinc 1 1, 3) := by decide +kernel
theorem dX7_lowestFree_22 : decode cX7_lowestFree 22 = .ok (.goto (-20), 3) := by decide +kernel
theorem dX7_lowestFree_25 : decode cX7_lowestFree 25 = .ok (.bipush (-14), 2) := by decide +kernel
theorem dX7_lowestFree_27 : decode cX7_lowestFree 27 = .ok (.ireturn, 1) := by decide +kernel
theorem dX7_make_0 : decode cX7_make 0 = .ok (.iload_n 1, 1) := by decide +kernel
theorem dX7_make_1 : decode cX7_make 1 = .ok (.invokestatic 74, 3) := by decide +kernel
theorem dX7_make_4 : decode cX7_make 4 = .ok (.ifCond .ne 6, 3) := by decide +kernel
theorem dX7_make_7 : decode cX7_make 7 = .ok (.bipush (-11), 2) := by decide +kernel
theorem dX7_make_9 : decode cX7_make 9 = .ok (.ireturn, 1) := by decide +kernel
theorem dX7_make_10 : decode cX7_make 10 = .ok (.aload_n 0, 1) := by decide +kernel
theorem dX7_make_11 : decode cX7_make 11 = .ok (.invokevirtual 78, 3) := by decide +kernel
theorem dX7_make_14 : decode cX7_make 14 = .ok (.istore_n 2, 1) := by decide +kernel
theorem dX7_make_15 : decode cX7_make 15 = .ok (.iload_n 2, 1) := by decide +kernel
theorem dX7_make_16 : decode cX7_make 16 = .ok (.ifCond .ge 6, 3) := by decide +kernel
theorem dX7_make_19 : decode cX7_make 19 = .ok (.bipush (-13), 2) := by decide +kernel
theorem dX7_make_21 : decode cX7_make 21 = .ok (.ireturn, 1) := by decide +kernel
theorem dX7_make_22 : decode cX7_make 22 = .ok (.aload_n 0, 1) := by decide +kernel
theorem dX7_make_23 : decode cX7_make 23 = .ok (.invokevirtual 81, 3) := by decide +kernel
theorem dX7_make_26 : decode cX7_make 26 = .ok (.aload_n 0, 1) := by decide +kernel
theorem dX7_make_27 : decode cX7_make 27 = .ok (.iload_n 2, 1) := by decide +kernel
theorem dX7_make_28 : decode cX7_make 28 = .ok (.iconst 0, 1) := by decide +kernel
theorem dX7_make_29 : decode cX7_make 29 = .ok (.iconst 1, 1) := by decide +kernel
theorem dX7_make_30 : decode cX7_make 30 = .ok (.invokevirtual 58, 3) := by decide +kernel
theorem dX7_make_33 : decode cX7_make 33 = .ok (.iconst 0, 1) := by decide +kernel
theorem dX7_make_34 : decode cX7_make 34 = .ok (.istore_n 3, 1) := by decide +kernel
theorem dX7_make_35 : decode cX7_make 35 = .ok (.iload_n 3, 1) := by decide +kernel
theorem dX7_make_36 : decode cX7_make 36 = .ok (.iconst 3, 1) := by decide +kernel
theorem dX7_make_37 : decode cX7_make 37 = .ok (.if_icmp .ge 18, 3) := by decide +kernel
theorem dX7_make_40 : decode cX7_make 40 = .ok (.aload_n 0, 1) := by decide +kernel
theorem dX7_make_41 : decode cX7_make 41 = .ok (.iload_n 2, 1) := by decide +kernel
theorem dX7_make_42 : decode cX7_make 42 = .ok (.iconst 1, 1) := by decide +kernel
theorem dX7_make_43 : decode cX7_make 43 = .ok (.iload_n 3, 1) := by decide +kernel
theorem dX7_make_44 : decode cX7_make 44 = .ok (.iadd, 1) := by decide +kernel
theorem dX7_make_45 : decode cX7_make 45 = .ok (.iconst (-1), 1) := by decide +kernel
theorem dX7_make_46 : decode cX7_make 46 = .ok (.invokevirtual 58, 3) := by decide +kernel
theorem dX7_make_49 : decode cX7_make 49 = .ok (.iinc 3 1, 3) := by decide +kernel
theorem dX7_make_52 : decode cX7_make 52 = .ok (.goto (-17), 3) := by decide +kernel
theorem dX7_make_55 : decode cX7_make 55 = .ok (.aload_n 0, 1) := by decide +kernel
theorem dX7_make_56 : decode cX7_make 56 = .ok (.iload_n 2, 1) := by decide +kernel
theorem dX7_make_57 : decode cX7_make 57 = .ok (.iconst 4, 1) := by decide +kernel
theorem dX7_make_58 : decode cX7_make 58 = .ok (.iconst 0, 1) := by decide +kernel
theorem dX7_make_59 : decode cX7_make 59 = .ok (.invokevirtual 58, 3) := by decide +kernel
theorem dX7_make_62 : decode cX7_make 62 = .ok (.aload_n 0, 1) := by decide +kernel
theorem dX7_make_63 : decode cX7_make 63 = .ok (.iload_n 2, 1) := by decide +kernel
theorem dX7_make_64 : decode cX7_make 64 = .ok (.iconst 5, 1) := by decide +kernel
theorem dX7_make_65 : decode cX7_make 65 = .ok (.aload_n 0, 1) := by decide +kernel
theorem dX7_make_66 : decode cX7_make 66 = .ok (.invokevirtual 62, 3) := by decide +kernel
theorem dX7_make_69 : decode cX7_make 69 = .ok (.ifCond .ne 27, 3) := by decide +kernel
theorem dX7_make_72 : decode cX7_make 72 = .ok (.aload_n 0, 1) := by decide +kernel
theorem dX7_make_73 : decode cX7_make 73 = .ok (.getfield 7, 3) := by decide +kernel
theorem dX7_make_76 : decode cX7_make 76 = .ok (.sipush 226, 3) := by decide +kernel
theorem dX7_make_79 : decode cX7_make 79 = .ok (.iaload, 1) := by decide +kernel
theorem dX7_make_80 : decode cX7_make 80 = .ok (.iconst 3, 1) := by decide +kernel
theorem dX7_make_81 : decode cX7_make 81 = .ok (.if_icmp .ne 19, 3) := by decide +kernel
theorem dX7_make_84 : decode cX7_make 84 = .ok (.iload_n 2, 1) := by decide +kernel
theorem dX7_make_85 : decode cX7_make 85 = .ok (.aload_n 0, 1) := by decide +kernel
theorem dX7_make_86 : decode cX7_make 86 = .ok (.getfield 7, 3) := by decide +kernel
theorem dX7_make_89 : decode cX7_make 89 = .ok (.sipush 227, 3) := by decide +kernel
theorem dX7_make_92 : decode cX7_make 92 = .ok (.iaload, 1) := by decide +kernel
theorem dX7_make_93 : decode cX7_make 93 = .ok (.if_icmp .lt 7, 3) := by decide +kernel
theorem dX7_make_96 : decode cX7_make 96 = .ok (.iconst 2, 1) := by decide +kernel
theorem dX7_make_97 : decode cX7_make 97 = .ok (.goto 4, 3) := by decide +kernel
theorem dX7_make_100 : decode cX7_make 100 = .ok (.iconst 0, 1) := by decide +kernel
theorem dX7_make_101 : decode cX7_make 101 = .ok (.invokevirtual 58, 3) := by decide +kernel
theorem dX7_make_104 : decode cX7_make 104 = .ok (.aload_n 0, 1) := by decide +kernel
theorem dX7_make_105 : decode cX7_make 105 = .ok (.iload_n 2, 1) := by decide +kernel
theorem dX7_make_106 : decode cX7_make 106 = .ok (.bipush 6, 2) := by decide +kernel
theorem dX7_make_108 : decode cX7_make 108 = .ok (.iconst 0, 1) := by decide +kernel
theorem dX7_make_109 : decode cX7_make 109 = .ok (.invokevirtual 58, 3) := by decide +kernel
theorem dX7_make_112 : decode cX7_make 112 = .ok (.aload_n 0, 1) := by decide +kernel
theorem dX7_make_113 : decode cX7_make 113 = .ok (.getfield 7, 3) := by decide +kernel
theorem dX7_make_116 : decode cX7_make 116 = .ok (.sipush 229, 3) := by decide +kernel
theorem dX7_make_119 : decode cX7_make 119 = .ok (.dup2, 1) := by decide +kernel
theorem dX7_make_120 : decode cX7_make 120 = .ok (.iaload, 1) := by decide +kernel
theorem dX7_make_121 : decode cX7_make 121 = .ok (.iconst 1, 1) := by decide +kernel
theorem dX7_make_122 : decode cX7_make 122 = .ok (.iadd, 1) := by decide +kernel
theorem dX7_make_123 : decode cX7_make 123 = .ok (.iastore, 1) := by decide +kernel
theorem dX7_make_124 : decode cX7_make 124 = .ok (.aload_n 0, 1) := by decide +kernel
theorem dX7_make_125 : decode cX7_make 125 = .ok (.iload_n 1, 1) := by decide +kernel
theorem dX7_make_126 : decode cX7_make 126 = .ok (.iload_n 2, 1) := by decide +kernel
theorem dX7_make_127 : decode cX7_make 127 = .ok (.invokevirtual 84, 3) := by decide +kernel
theorem dX7_make_130 : decode cX7_make 130 = .ok (.istore_n 3, 1) := by decide +kernel
theorem dX7_make_131 : decode cX7_make 131 = .ok (.iload_n 3, 1) := by decide +kernel
theorem dX7_make_132 : decode cX7_make 132 = .ok (.bipush 24, 2) := by decide +kernel
theorem dX7_make_134 : decode cX7_make 134 = .ok (.if_icmp .ge 7, 3) := by decide +kernel
theorem dX7_make_137 : decode cX7_make 137 = .ok (.iload_n 2, 1) := by decide +kernel
theorem dX7_make_138 : decode cX7_make 138 = .ok (.goto 4, 3) := by decide +kernel
theorem dX7_make_141 : decode cX7_make 141 = .ok (.iload_n 3, 1) := by decide +kernel
theorem dX7_make_142 : decode cX7_make 142 = .ok (.ireturn, 1) := by decide +kernel
theorem dX7_root_0 : decode cX7_root 0 = .ok (.iload_n 1, 1) := by decide +kernel
theorem dX7_root_1 : decode cX7_root 1 = .ok (.invokestatic 74, 3) := by decide +kernel
theorem dX7_root_4 : decode cX7_root 4 = .ok (.ifCond .eq 16, 3) := by decide +kernel
theorem dX7_root_7 : decode cX7_root 7 = .ok (.iload_n 2, 1) := by decide +kernel
theorem dX7_root_8 : decode cX7_root 8 = .ok (.iconst (-1), 1) := by decide +kernel
theorem dX7_root_9 : decode cX7_root 9 = .ok (.if_icmp .eq 14, 3) := by decide +kernel
theorem dX7_root_12 : decode cX7_root 12 = .ok (.aload_n 0, 1) := by decide +kernel
theorem dX7_root_13 : decode cX7_root 13 = .ok (.iload_n 2, 1) := by decide +kernel
theorem dX7_root_14 : decode cX7_root 14 = .ok (.invokevirtual 87, 3) := by decide +kernel
theorem dX7_root_17 : decode cX7_root 17 = .ok (.ifCond .ne 6, 3) := by decide +kernel
theorem dX7_root_20 : decode cX7_root 20 = .ok (.bipush (-11), 2) := by decide +kernel
theorem dX7_root_22 : decode cX7_root 22 = .ok (.ireturn, 1) := by decide +kernel
theorem dX7_root_23 : decode cX7_root 23 = .ok (.iload_n 2, 1) := by decide +kernel
theorem dX7_root_24 : decode cX7_root 24 = .ok (.ifCond .lt 14, 3) := by decide +kernel
theorem dX7_root_27 : decode cX7_root 27 = .ok (.aload_n 0, 1) := by decide +kernel
theorem dX7_root_28 : decode cX7_root 28 = .ok (.iload_n 2, 1) := by decide +kernel
theorem dX7_root_29 : decode cX7_root 29 = .ok (.invokevirtual 90, 3) := by decide +kernel
theorem dX7_root_32 : decode cX7_root 32 = .ok (.ifCond .ne 6, 3) := by decide +kernel
theorem dX7_root_35 : decode cX7_root 35 = .ok (.bipush (-12), 2) := by decide +kernel
theorem dX7_root_37 : decode cX7_root 37 = .ok (.ireturn, 1) := by decide +kernel
theorem dX7_root_38 : decode cX7_root 38 = .ok (.aload_n 0, 1) := by decide +kernel
theorem dX7_root_39 : decode cX7_root 39 = .ok (.invokevirtual 81, 3) := by decide +kernel
theorem dX7_root_42 : decode cX7_root 42 = .ok (.aload_n 0, 1) := by decide +kernel
theorem dX7_root_43 : decode cX7_root 43 = .ok (.iload_n 1, 1) := by decide +kernel
theorem dX7_root_44 : decode cX7_root 44 = .ok (.iload_n 2, 1) := by decide +kernel
theorem dX7_root_45 : decode cX7_root 45 = .ok (.invokevirtual 84, 3) := by decide +kernel
theorem dX7_root_48 : decode cX7_root 48 = .ok (.ireturn, 1) := by decide +kernel
theorem dX7_step_0 : decode cX7_step 0 = .ok (.iload_n 1, 1) := by decide +kernel
theorem dX7_step_1 : decode cX7_step 1 = .ok (.iconst 1, 1) := by decide +kernel
theorem dX7_step_2 : decode cX7_step 2 = .ok (.bipush 99, 2) := by decide +kernel
theorem dX7_step_4 : decode cX7_step 4 = .ok (.invokestatic 39, 3) := by decide +kernel
theorem dX7_step_7 : decode cX7_step 7 = .ok (.ifCond .ne 6, 3) := by decide +kernel
theorem dX7_step_10 : decode cX7_step 10 = .ok (.bipush (-11), 2) := by decide +kernel
theorem dX7_step_12 : decode cX7_step 12 = .ok (.ireturn, 1) := by decide +kernel
theorem dX7_step_13 : decode cX7_step 13 = .ok (.aload_n 0, 1) := by decide +kernel
theorem dX7_step_14 : decode cX7_step 14 = .ok (.getfield 7, 3) := by decide +kernel
theorem dX7_step_17 : decode cX7_step 17 = .ok (.sipush 226, 3) := by decide +kernel
theorem dX7_step_20 : decode cX7_step 20 = .ok (.iaload, 1) := by decide +kernel
theorem dX7_step_21 : decode cX7_step 21 = .ok (.ifCond .ne 6, 3) := by decide +kernel
theorem dX7_step_24 : decode cX7_step 24 = .ok (.bipush (-12), 2) := by decide +kernel
theorem dX7_step_26 : decode cX7_step 26 = .ok (.ireturn, 1) := by decide +kernel
theorem dX7_step_27 : decode cX7_step 27 = .ok (.aload_n 0, 1) := by decide +kernel
theorem dX7_step_28 : decode cX7_step 28 = .ok (.invokevirtual 81, 3) := by decide +kernel
theorem dX7_step_31 : decode cX7_step 31 = .ok (.aload_n 0, 1) := by decide +kernel
theorem dX7_step_32 : decode cX7_step 32 = .ok (.getfield 7, 3) := by decide +kernel
theorem dX7_step_35 : decode cX7_step 35 = .ok (.sipush 230, 3) := by decide +kernel
theorem dX7_step_38 : decode cX7_step 38 = .ok (.iaload, 1) := by decide +kernel
theorem dX7_step_39 : decode cX7_step 39 = .ok (.istore_n 2, 1) := by decide +kernel
theorem dX7_step_40 : decode cX7_step 40 = .ok (.iconst 0, 1) := by decide +kernel
theorem dX7_step_41 : decode cX7_step 41 = .ok (.istore_n 3, 1) := by decide +kernel
theorem dX7_step_42 : decode cX7_step 42 = .ok (.iload_n 3, 1) := by decide +kernel
theorem dX7_step_43 : decode cX7_step 43 = .ok (.iload_n 1, 1) := by decide +kernel
theorem dX7_step_44 : decode cX7_step 44 = .ok (.if_icmp .ge 24, 3) := by decide +kernel
theorem dX7_step_47 : decode cX7_step 47 = .ok (.aload_n 0, 1) := by decide +kernel
theorem dX7_step_48 : decode cX7_step 48 = .ok (.getfield 7, 3) := by decide +kernel
theorem dX7_step_51 : decode cX7_step 51 = .ok (.sipush 226, 3) := by decide +kernel
theorem dX7_step_54 : decode cX7_step 54 = .ok (.iaload, 1) := by decide +kernel
theorem dX7_step_55 : decode cX7_step 55 = .ok (.ifCond .le 13, 3) := by decide +kernel
theorem dX7_step_58 : decode cX7_step 58 = .ok (.aload_n 0, 1) := by decide +kernel
theorem dX7_step_59 : decode cX7_step 59 = .ok (.invokevirtual 117, 3) := by decide +kernel
theorem dX7_step_62 : decode cX7_step 62 = .ok (.iinc 3 1, 3) := by decide +kernel
theorem dX7_step_65 : decode cX7_step 65 = .ok (.goto (-23), 3) := by decide +kernel
theorem dX7_step_68 : decode cX7_step 68 = .ok (.aload_n 0, 1) := by decide +kernel
theorem dX7_step_69 : decode cX7_step 69 = .ok (.getfield 7, 3) := by decide +kernel
theorem dX7_step_72 : decode cX7_step 72 = .ok (.sipush 230, 3) := by decide +kernel
theorem dX7_step_75 : decode cX7_step 75 = .ok (.iaload, 1) := by decide +kernel
theorem dX7_step_76 : decode cX7_step 76 = .ok (.iload_n 2, 1) := by decide +kernel
theorem dX7_step_77 : decode cX7_step 77 = .ok (.isub, 1) := by decide +kernel
theorem dX7_step_78 : decode cX7_step 78 = .ok (.ireturn, 1) := by decide +kernel
theorem dX7_calls_0 : decode cX7_calls 0 = .ok (.aload_n 0, 1) := by decide +kernel
theorem dX7_calls_1 : decode cX7_calls 1 = .ok (.getfield 158, 3) := by decide +kernel
theorem dX7_calls_4 : decode cX7_calls 4 = .ok (.lookupswitch 88 #[(98, 44), (110, 49), (114, 71), (115, 60)], 44) := by decide +kernel
theorem dX7_calls_48 : decode cX7_calls 48 = .ok (.aload_n 0, 1) := by decide +kernel
theorem dX7_calls_49 : decode cX7_calls 49 = .ok (.invokevirtual 164, 3) := by decide +kernel
theorem dX7_calls_52 : decode cX7_calls 52 = .ok (.ireturn, 1) := by decide +kernel
theorem dX7_calls_53 : decode cX7_calls 53 = .ok (.aload_n 0, 1) := by decide +kernel
theorem dX7_calls_54 : decode cX7_calls 54 = .ok (.aload_n 0, 1) := by decide +kernel
theorem dX7_calls_55 : decode cX7_calls 55 = .ok (.getfield 28, 3) := by decide +kernel
theorem dX7_calls_58 : decode cX7_calls 58 = .ok (.iconst 0, 1) := by decide +kernel
theorem dX7_calls_59 : decode cX7_calls 59 = .ok (.iaload, 1) := by decide +kernel
theorem dX7_calls_60 : decode cX7_calls 60 = .ok (.invokevirtual 167, 3) := by decide +kernel
theorem dX7_calls_63 : decode cX7_calls 63 = .ok (.ireturn, 1) := by decide +kernel
theorem dX7_calls_64 : decode cX7_calls 64 = .ok (.aload_n 0, 1) := by decide +kernel
theorem dX7_calls_65 : decode cX7_calls 65 = .ok (.aload_n 0, 1) := by decide +kernel
theorem dX7_calls_66 : decode cX7_calls 66 = .ok (.getfield 28, 3) := by decide +kernel
theorem dX7_calls_69 : decode cX7_calls 69 = .ok (.iconst 0, 1) := by decide +kernel
theorem dX7_calls_70 : decode cX7_calls 70 = .ok (.iaload, 1) := by decide +kernel
theorem dX7_calls_71 : decode cX7_calls 71 = .ok (.invokevirtual 170, 3) := by decide +kernel
theorem dX7_calls_74 : decode cX7_calls 74 = .ok (.ireturn, 1) := by decide +kernel
theorem dX7_calls_75 : decode cX7_calls 75 = .ok (.aload_n 0, 1) := by decide +kernel
theorem dX7_calls_76 : decode cX7_calls 76 = .ok (.aload_n 0, 1) := by decide +kernel
theorem dX7_calls_77 : decode cX7_calls 77 = .ok (.getfield 28, 3) := by decide +kernel
theorem dX7_calls_80 : decode cX7_calls 80 = .ok (.iconst 0, 1) := by decide +kernel
theorem dX7_calls_81 : decode cX7_calls 81 = .ok (.iaload, 1) := by decide +kernel
theorem dX7_calls_82 : decode cX7_calls 82 = .ok (.aload_n 0, 1) := by decide +kernel
theorem dX7_calls_83 : decode cX7_calls 83 = .ok (.getfield 28, 3) := by decide +kernel
theorem dX7_calls_86 : decode cX7_calls 86 = .ok (.iconst 1, 1) := by decide +kernel
theorem dX7_calls_87 : decode cX7_calls 87 = .ok (.iaload, 1) := by decide +kernel
theorem dX7_calls_88 : decode cX7_calls 88 = .ok (.invokevirtual 173, 3) := by decide +kernel
theorem dX7_calls_91 : decode cX7_calls 91 = .ok (.ireturn, 1) := by decide +kernel
theorem dX7_calls_92 : decode cX7_calls 92 = .ok (.aload_n 0, 1) := by decide +kernel
theorem dX7_calls_93 : decode cX7_calls 93 = .ok (.aload_n 0, 1) := by decide +kernel
theorem dX7_calls_94 : decode cX7_calls 94 = .ok (.getfield 28, 3) := by decide +kernel
theorem dX7_calls_97 : decode cX7_calls 97 = .ok (.iconst 0, 1) := by decide +kernel
theorem dX7_calls_98 : decode cX7_calls 98 = .ok (.iaload, 1) := by decide +kernel
theorem dX7_calls_99 : decode cX7_calls 99 = .ok (.aload_n 0, 1) := by decide +kernel
theorem dX7_calls_100 : decode cX7_calls 100 = .ok (.getfield 28, 3) := by decide +kernel
theorem dX7_calls_103 : decode cX7_calls 103 = .ok (.iconst 1, 1) := by decide +kernel
theorem dX7_calls_104 : decode cX7_calls 104 = .ok (.iaload, 1) := by decide +kernel
theorem dX7_calls_105 : decode cX7_calls 105 = .ok (.aload_n 0, 1) := by decide +kernel
theorem dX7_calls_106 : decode cX7_calls 106 = .ok (.getfield 28, 3) := by decide +kernel
theorem dX7_calls_109 : decode cX7_calls 109 = .ok (.iconst 2, 1) := by decide +kernel
theorem dX7_calls_110 : decode cX7_calls 110 = .ok (.iaload, 1) := by decide +kernel
theorem dX7_calls_111 : decode cX7_calls 111 = .ok (.invokevirtual 176, 3) := by decide +kernel
theorem dX7_calls_114 : decode cX7_calls 114 = .ok (.ireturn, 1) := by decide +kernel
theorem dX7_clearText_0 : decode cX7_clearText 0 = .ok (.aload_n 0, 1) := by decide +kernel
theorem dX7_clearText_1 : decode cX7_clearText 1 = .ok (.getfield 132, 3) := by decide +kernel
theorem dX7_clearText_4 : decode cX7_clearText 4 = .ok (.istore_n 1, 1) := by decide +kernel
theorem dX7_clearText_5 : decode cX7_clearText 5 = .ok (.aload_n 0, 1) := by decide +kernel
theorem dX7_clearText_6 : decode cX7_clearText 6 = .ok (.iconst 0, 1) := by decide +kernel
theorem dX7_clearText_7 : decode cX7_clearText 7 = .ok (.putfield 132, 3) := by decide +kernel
theorem dX7_clearText_10 : decode cX7_clearText 10 = .ok (.iload_n 1, 1) := by decide +kernel
theorem dX7_clearText_11 : decode cX7_clearText 11 = .ok (.ireturn, 1) := by decide +kernel
theorem dX7_those_0 : decode cX7_those 0 = .ok (.iconst 0, 1) := by decide +kernel
theorem dX7_those_1 : decode cX7_those 1 = .ok (.istore_n 3, 1) := by decide +kernel
theorem dX7_those_2 : decode cX7_those 2 = .ok (.iconst 0, 1) := by decide +kernel
theorem dX7_those_3 : decode cX7_those 3 = .ok (.istore 4, 2) := by decide +kernel
theorem dX7_those_5 : decode cX7_those 5 = .ok (.iload 4, 2) := by decide +kernel
theorem dX7_those_7 : decode cX7_those 7 = .ok (.bipush 24, 2) := by decide +kernel
theorem dX7_those_9 : decode cX7_those 9 = .ok (.if_icmp .ge 40, 3) := by decide +kernel
theorem dX7_those_12 : decode cX7_those 12 = .ok (.iload_n 3, 1) := by decide +kernel
theorem dX7_those_13 : decode cX7_those 13 = .ok (.aload_n 0, 1) := by decide +kernel
theorem dX7_those_14 : decode cX7_those 14 = .ok (.iload 4, 2) := by decide +kernel
theorem dX7_those_16 : decode cX7_those 16 = .ok (.invokevirtual 87, 3) := by decide +kernel
theorem dX7_those_19 : decode cX7_those 19 = .ok (.ifCond .eq 21, 3) := by decide +kernel
theorem dX7_those_22 : decode cX7_those 22 = .ok (.aload_n 0, 1) := by decide +kernel
theorem dX7_those_23 : decode cX7_those 23 = .ok (.iload 4, 2) := by decide +kernel
theorem dX7_those_25 : decode cX7_those 25 = .ok (.iload_n 1, 1) := by decide +kernel
theorem dX7_those_26 : decode cX7_those 26 = .ok (.invokevirtual 43, 3) := by decide +kernel
theorem dX7_those_29 : decode cX7_those 29 = .ok (.iload_n 2, 1) := by decide +kernel
theorem dX7_those_30 : decode cX7_those 30 = .ok (.if_icmp .ne 10, 3) := by decide +kernel
theorem dX7_those_33 : decode cX7_those 33 = .ok (.iconst 1, 1) := by decide +kernel
theorem dX7_those_34 : decode cX7_those 34 = .ok (.iload 4, 2) := by decide +kernel
theorem dX7_those_36 : decode cX7_those 36 = .ok (.ishl, 1) := by decide +kernel
theorem dX7_those_37 : decode cX7_those 37 = .ok (.goto 4, 3) := by decide +kernel
theorem dX7_those_40 : decode cX7_those 40 = .ok (.iconst 0, 1) := by decide +kernel
theorem dX7_those_41 : decode cX7_those 41 = .ok (.ior, 1) := by decide +kernel
theorem dX7_those_42 : decode cX7_those 42 = .ok (.istore_n 3, 1) := by decide +kernel
theorem dX7_those_43 : decode cX7_those 43 = .ok (.iinc 4 1, 3) := by decide +kernel
theorem dX7_those_46 : decode cX7_those 46 = .ok (.goto (-41), 3) := by decide +kernel
theorem dX7_those_49 : decode cX7_those 49 = .ok (.iload_n 3, 1) := by decide +kernel
theorem dX7_those_50 : decode cX7_those 50 = .ok (.ireturn, 1) := by decide +kernel
theorem dX7_count_0 : decode cX7_count 0 = .ok (.iload_n 1, 1) := by decide +kernel
theorem dX7_count_1 : decode cX7_count 1 = .ok (.tableswitch 191 0 12 #[67, 77, 86, 86, 86, 86, 99, 108, 134, 159, 168, 173, 178], 67) := by decide +kernel
theorem dX7_count_68 : decode cX7_count 68 = .ok (.aload_n 0, 1) := by decide +kernel
theorem dX7_count_69 : decode cX7_count 69 = .ok (.iconst 0, 1) := by decide +kernel
theorem dX7_count_70 : decode cX7_count 70 = .ok (.iconst 1, 1) := by decide +kernel
theorem dX7_count_71 : decode cX7_count 71 = .ok (.invokevirtual 126, 3) := by decide +kernel
theorem dX7_count_74 : decode cX7_count 74 = .ok (.invokestatic 129, 3) := by decide +kernel
theorem dX7_count_77 : decode cX7_count 77 = .ok (.ireturn, 1) := by decide +kernel
theorem dX7_count_78 : decode cX7_count 78 = .ok (.aload_n 0, 1) := by decide +kernel
theorem dX7_count_79 : decode cX7_count 79 = .ok (.getfield 7, 3) := by decide +kernel
theorem dX7_count_82 : decode cX7_count 82 = .ok (.sipush 226, 3) := by decide +kernel
theorem dX7_count_85 : decode cX7_count 85 = .ok (.iaload, 1) := by decide +kernel
theorem dX7_count_86 : decode cX7_count 86 = .ok (.ireturn, 1) := by decide +kernel
theorem dX7_count_87 : decode cX7_count 87 = .ok (.aload_n 0, 1) := by decide +kernel
theorem dX7_count_88 : decode cX7_count 88 = .ok (.getfield 7, 3) := by decide +kernel
theorem dX7_count_91 : decode cX7_count 91 = .ok (.sipush 228, 3) := by decide +kernel
theorem dX7_count_94 : decode cX7_count 94 = .ok (.iload_n 1, 1) := by decide +kernel
theorem dX7_count_95 : decode cX7_count 95 = .ok (.iadd, 1) := by decide +kernel
theorem dX7_count_96 : decode cX7_count 96 = .ok (.iconst 2, 1) := by decide +kernel
theorem dX7_count_97 : decode cX7_count 97 = .ok (.isub, 1) := by decide +kernel
theorem dX7_count_98 : decode cX7_count 98 = .ok (.iaload, 1) := by decide +kernel
theorem dX7_count_99 : decode cX7_count 99 = .ok (.ireturn, 1) := by decide +kernel
theorem dX7_count_100 : decode cX7_count 100 = .ok (.aload_n 0, 1) := by decide +kernel
theorem dX7_count_101 : decode cX7_count 101 = .ok (.getfield 7, 3) := by decide +kernel
theorem dX7_count_104 : decode cX7_count 104 = .ok (.sipush 193, 3) := by decide +kernel
theorem dX7_count_107 : decode cX7_count 107 = .ok (.iaload, 1) := by decide +kernel
theorem dX7_count_108 : decode cX7_count 108 = .ok (.ireturn, 1) := by decide +kernel
theorem dX7_count_109 : decode cX7_count 109 = .ok (.aload_n 0, 1) := by decide +kernel
theorem dX7_count_110 : decode cX7_count 110 = .ok (.getfield 7, 3) := by decide +kernel
theorem dX7_count_113 : decode cX7_count 113 = .ok (.sipush 226, 3) := by decide +kernel
theorem dX7_count_116 : decode cX7_count 116 = .ok (.iaload, 1) := by decide +kernel
theorem dX7_count_117 : decode cX7_count 117 = .ok (.iconst 3, 1) := by decide +kernel
theorem dX7_count_118 : decode cX7_count 118 = .ok (.if_icmp .ne 14, 3) := by decide +kernel
theorem dX7_count_121 : decode cX7_count 121 = .ok (.aload_n 0, 1) := by decide +kernel
theorem dX7_count_122 : decode cX7_count 122 = .ok (.getfield 7, 3) := by decide +kernel
theorem dX7_count_125 : decode cX7_count 125 = .ok (.sipush 227, 3) := by decide +kernel
theorem dX7_count_128 : decode cX7_count 128 = .ok (.iaload, 1) := by decide +kernel
theorem dX7_count_129 : decode cX7_count 129 = .ok (.goto 5, 3) := by decide +kernel
theorem dX7_count_132 : decode cX7_count 132 = .ok (.bipush (-14), 2) := by decide +kernel
theorem dX7_count_134 : decode cX7_count 134 = .ok (.ireturn, 1) := by decide +kernel
theorem dX7_count_135 : decode cX7_count 135 = .ok (.aload_n 0, 1) := by decide +kernel
theorem dX7_count_136 : decode cX7_count 136 = .ok (.getfield 7, 3) := by decide +kernel
theorem dX7_count_139 : decode cX7_count 139 = .ok (.sipush 228, 3) := by decide +kernel
theorem dX7_count_142 : decode cX7_count 142 = .ok (.iaload, 1) := by decide +kernel
theorem dX7_count_143 : decode cX7_count 143 = .ok (.ifCond .ne 8, 3) := by decide +kernel
theorem dX7_count_146 : decode cX7_count 146 = .ok (.bipush (-14), 2) := by decide +kernel
theorem dX7_count_148 : decode cX7_count 148 = .ok (.goto 11, 3) := by decide +kernel
theorem dX7_count_151 : decode cX7_count 151 = .ok (.aload_n 0, 1) := by decide +kernel
theorem dX7_count_152 : decode cX7_count 152 = .ok (.getfield 7, 3) := by decide +kernel
theorem dX7_count_155 : decode cX7_count 155 = .ok (.sipush 232, 3) := by decide +kernel
theorem dX7_count_158 : decode cX7_count 158 = .ok (.iaload, 1) := by decide +kernel
theorem dX7_count_159 : decode cX7_count 159 = .ok (.ireturn, 1) := by decide +kernel
theorem dX7_count_160 : decode cX7_count 160 = .ok (.aload_n 0, 1) := by decide +kernel
theorem dX7_count_161 : decode cX7_count 161 = .ok (.getfield 7, 3) := by decide +kernel
theorem dX7_count_164 : decode cX7_count 164 = .ok (.sipush 234, 3) := by decide +kernel
theorem dX7_count_167 : decode cX7_count 167 = .ok (.iaload, 1) := by decide +kernel
theorem dX7_count_168 : decode cX7_count 168 = .ok (.ireturn, 1) := by decide +kernel
theorem dX7_count_169 : decode cX7_count 169 = .ok (.aload_n 0, 1) := by decide +kernel
theorem dX7_count_170 : decode cX7_count 170 = .ok (.getfield 35, 3) := by decide +kernel
theorem dX7_count_173 : decode cX7_count 173 = .ok (.ireturn, 1) := by decide +kernel
theorem dX7_count_174 : decode cX7_count 174 = .ok (.aload_n 0, 1) := by decide +kernel
theorem dX7_count_175 : decode cX7_count 175 = .ok (.getfield 132, 3) := by decide +kernel
theorem dX7_count_178 : decode cX7_count 178 = .ok (.ireturn, 1) := by decide +kernel
theorem dX7_count_179 : decode cX7_count 179 = .ok (.aload_n 0, 1) := by decide +kernel
theorem dX7_count_180 : decode cX7_count 180 = .ok (.getfield 135, 3) := by decide +kernel
theorem dX7_count_183 : decode cX7_count 183 = .ok (.ifCond .eq 7, 3) := by decide +kernel
theorem dX7_count_186 : decode cX7_count 186 = .ok (.iconst 1, 1) := by decide +kernel
theorem dX7_count_187 : decode cX7_count 187 = .ok (.goto 4, 3) := by decide +kernel
theorem dX7_count_190 : decode cX7_count 190 = .ok (.iconst 0, 1) := by decide +kernel
theorem dX7_count_191 : decode cX7_count 191 = .ok (.ireturn, 1) := by decide +kernel
theorem dX7_count_192 : decode cX7_count 192 = .ok (.bipush (-11), 2) := by decide +kernel
theorem dX7_count_194 : decode cX7_count 194 = .ok (.ireturn, 1) := by decide +kernel
theorem dX7_far_0 : decode cX7_far 0 = .ok (.aload_n 0, 1) := by decide +kernel
theorem dX7_far_1 : decode cX7_far 1 = .ok (.iload_n 1, 1) := by decide +kernel
theorem dX7_far_2 : decode cX7_far 2 = .ok (.invokevirtual 87, 3) := by decide +kernel
theorem dX7_far_5 : decode cX7_far 5 = .ok (.ifCond .ne 6, 3) := by decide +kernel
theorem dX7_far_8 : decode cX7_far 8 = .ok (.bipush (-11), 2) := by decide +kernel
theorem dX7_far_10 : decode cX7_far 10 = .ok (.ireturn, 1) := by decide +kernel
theorem dX7_far_11 : decode cX7_far 11 = .ok (.iconst 0, 1) := by decide +kernel
theorem dX7_far_12 : decode cX7_far 12 = .ok (.istore_n 2, 1) := by decide +kernel
theorem dX7_far_13 : decode cX7_far 13 = .ok (.iconst 0, 1) := by decide +kernel
theorem dX7_far_14 : decode cX7_far 14 = .ok (.istore_n 3, 1) := by decide +kernel
theorem dX7_far_15 : decode cX7_far 15 = .ok (.iload_n 3, 1) := by decide +kernel
theorem dX7_far_16 : decode cX7_far 16 = .ok (.iconst 4, 1) := by decide +kernel
theorem dX7_far_17 : decode cX7_far 17 = .ok (.if_icmp .ge 41, 3) := by decide +kernel
theorem dX7_far_20 : decode cX7_far 20 = .ok (.iload_n 2, 1) := by decide +kernel
theorem dX7_far_21 : decode cX7_far 21 = .ok (.aload_n 0, 1) := by decide +kernel
theorem dX7_far_22 : decode cX7_far 22 = .ok (.getfield 7, 3) := by decide +kernel
theorem dX7_far_25 : decode cX7_far 25 = .ok (.sipush 218, 3) := by decide +kernel
theorem dX7_far_28 : decode cX7_far 28 = .ok (.iload_n 3, 1) := by decide +kernel
theorem dX7_far_29 : decode cX7_far 29 = .ok (.iadd, 1) := by decide +kernel
theorem dX7_far_30 : decode cX7_far 30 = .ok (.iaload, 1) := by decide +kernel
theorem dX7_far_31 : decode cX7_far 31 = .ok (.ifCond .lt 18, 3) := by decide +kernel
theorem dX7_far_34 : decode cX7_far 34 = .ok (.iconst 1, 1) := by decide +kernel
theorem dX7_far_35 : decode cX7_far 35 = .ok (.aload_n 0, 1) := by decide +kernel
theorem dX7_far_36 : decode cX7_far 36 = .ok (.getfield 7, 3) := by decide +kernel
theorem dX7_far_39 : decode cX7_far 39 = .ok (.sipush 218, 3) := by decide +kernel
theorem dX7_far_42 : decode cX7_far 42 = .ok (.iload_n 3, 1) := by decide +kernel
theorem dX7_far_43 : decode cX7_far 43 = .ok (.iadd, 1) := by decide +kernel
theorem dX7_far_44 : decode cX7_far 44 = .ok (.iaload, 1) := by decide +kernel
theorem dX7_far_45 : decode cX7_far 45 = .ok (.ishl, 1) := by decide +kernel
theorem dX7_far_46 : decode cX7_far 46 = .ok (.goto 4, 3) := by decide +kernel
theorem dX7_far_49 : decode cX7_far 49 = .ok (.iconst 0, 1) := by decide +kernel
theorem dX7_far_50 : decode cX7_far 50 = .ok (.ior, 1) := by decide +kernel
theorem dX7_far_51 : decode cX7_far 51 = .ok (.istore_n 2, 1) := by decide +kernel
theorem dX7_far_52 : decode cX7_far 52 = .ok (.iinc 3 1, 3) := by decide +kernel
theorem dX7_far_55 : decode cX7_far 55 = .ok (.goto (-40), 3) := by decide +kernel
theorem dX7_far_58 : decode cX7_far 58 = .ok (.iconst 0, 1) := by decide +kernel
theorem dX7_far_59 : decode cX7_far 59 = .ok (.istore_n 3, 1) := by decide +kernel
theorem dX7_far_60 : decode cX7_far 60 = .ok (.iconst 1, 1) := by decide +kernel
theorem dX7_far_61 : decode cX7_far 61 = .ok (.istore 4, 2) := by decide +kernel
theorem dX7_far_63 : decode cX7_far 63 = .ok (.iload 4, 2) := by decide +kernel
theorem dX7_far_65 : decode cX7_far 65 = .ok (.ifCond .eq 111, 3) := by decide +kernel
theorem dX7_far_68 : decode cX7_far 68 = .ok (.iload_n 2, 1) := by decide +kernel
theorem dX7_far_69 : decode cX7_far 69 = .ok (.iload_n 1, 1) := by decide +kernel
theorem dX7_far_70 : decode cX7_far 70 = .ok (.ishr, 1) := by decide +kernel
theorem dX7_far_71 : decode cX7_far 71 = .ok (.iconst 1, 1) := by decide +kernel
theorem dX7_far_72 : decode cX7_far 72 = .ok (.iand, 1) := by decide +kernel
theorem dX7_far_73 : decode cX7_far 73 = .ok (.ifCond .ne 103, 3) := by decide +kernel
theorem dX7_far_76 : decode cX7_far 76 = .ok (.iload_n 2, 1) := by decide +kernel
theorem dX7_far_77 : decode cX7_far 77 = .ok (.istore 5, 2) := by decide +kernel
theorem dX7_far_79 : decode cX7_far 79 = .ok (.iconst 0, 1) := by decide +kernel
theorem dX7_far_80 : decode cX7_far 80 = .ok (.istore 6, 2) := by decide +kernel
theorem dX7_far_82 : decode cX7_far 82 = .ok (.iload 6, 2) := by decide +kernel
theorem dX7_far_84 : decode cX7_far 84 = .ok (.bipush 24, 2) := by decide +kernel
theorem dX7_far_86 : decode cX7_far 86 = .ok (.if_icmp .ge 68, 3) := by decide +kernel
theorem dX7_far_89 : decode cX7_far 89 = .ok (.iconst 0, 1) := by decide +kernel
theorem dX7_far_90 : decode cX7_far 90 = .ok (.istore 7, 2) := by decide +kernel
theorem dX7_far_92 : decode cX7_far 92 = .ok (.iload 7, 2) := by decide +kernel
theorem dX7_far_94 : decode cX7_far 94 = .ok (.iconst 3, 1) := by decide +kernel
theorem dX7_far_95 : decode cX7_far 95 = .ok (.if_icmp .ge 53, 3) := by decide +kernel
theorem dX7_far_98 : decode cX7_far 98 = .ok (.iload_n 2, 1) := by decide +kernel
theorem dX7_far_99 : decode cX7_far 99 = .ok (.iload 6, 2) := by decide +kernel
theorem dX7_far_101 : decode cX7_far 101 = .ok (.ishr, 1) := by decide +kernel
theorem dX7_far_102 : decode cX7_far 102 = .ok (.iconst 1, 1) := by decide +kernel
theorem dX7_far_103 : decode cX7_far 103 = .ok (.iand, 1) := by decide +kernel
theorem dX7_far_104 : decode cX7_far 104 = .ok (.iconst 1, 1) := by decide +kernel
theorem dX7_far_105 : decode cX7_far 105 = .ok (.if_icmp .ne 43, 3) := by decide +kernel
theorem dX7_far_108 : decode cX7_far 108 = .ok (.iload 5, 2) := by decide +kernel
theorem dX7_far_110 : decode cX7_far 110 = .ok (.aload_n 0, 1) := by decide +kernel
theorem dX7_far_111 : decode cX7_far 111 = .ok (.iload 6, 2) := by decide +kernel
theorem dX7_far_113 : decode cX7_far 113 = .ok (.iconst 1, 1) := by decide +kernel
theorem dX7_far_114 : decode cX7_far 114 = .ok (.iload 7, 2) := by decide +kernel
theorem dX7_far_116 : decode cX7_far 116 = .ok (.iadd, 1) := by decide +kernel
theorem dX7_far_117 : decode cX7_far 117 = .ok (.invokevirtual 43, 3) := by decide +kernel
theorem dX7_far_120 : decode cX7_far 120 = .ok (.ifCond .lt 18, 3) := by decide +kernel
theorem dX7_far_123 : decode cX7_far 123 = .ok (.iconst 1, 1) := by decide +kernel
theorem dX7_far_124 : decode cX7_far 124 = .ok (.aload_n 0, 1) := by decide +kernel
theorem dX7_far_125 : decode cX7_far 125 = .ok (.iload 6, 2) := by decide +kernel
theorem dX7_far_127 : decode cX7_far 127 = .ok (.iconst 1, 1) := by decide +kernel
theorem dX7_far_128 : decode cX7_far 128 = .ok (.iload 7, 2) := by decide +kernel
theorem dX7_far_130 : decode cX7_far 130 = .ok (.iadd, 1) := by decide +kernel
theorem dX7_far_131 : decode cX7_far 131 = .ok (.invokevirtual 43, 3) := by decide +kernel
theorem dX7_far_134 : decode cX7_far 134 = .ok (.ishl, 1) := by decide +kernel
theorem dX7_far_135 : decode cX7_far 135 = .ok (.goto 4, 3) := by decide +kernel
theorem dX7_far_138 : decode cX7_far 138 = .ok (.iconst 0, 1) := by decide +kernel
theorem dX7_far_139 : decode cX7_far 139 = .ok (.ior, 1) := by decide +kernel
theorem dX7_far_140 : decode cX7_far 140 = .ok (.istore 5, 2) := by decide +kernel
theorem dX7_far_142 : decode cX7_far 142 = .ok (.iinc 7 1, 3) := by decide +kernel
theorem dX7_far_145 : decode cX7_far 145 = .ok (.goto (-53), 3) := by decide +kernel
theorem dX7_far_148 : decode cX7_far 148 = .ok (.iinc 6 1, 3) := by decide +kernel
theorem dX7_far_151 : decode cX7_far 151 = .ok (.goto (-69), 3) := by decide +kernel
theorem dX7_far_154 : decode cX7_far 154 = .ok (.iload 5, 2) := by decide +kernel
theorem dX7_far_156 : decode cX7_far 156 = .ok (.iload_n 2, 1) := by decide +kernel
theorem dX7_far_157 : decode cX7_far 157 = .ok (.if_icmp .eq 7, 3) := by decide +kernel
theorem dX7_far_160 : decode cX7_far 160 = .ok (.iconst 1, 1) := by decide +kernel
theorem dX7_far_161 : decode cX7_far 161 = .ok (.goto 4, 3) := by decide +kernel
theorem dX7_far_164 : decode cX7_far 164 = .ok (.iconst 0, 1) := by decide +kernel
theorem dX7_far_165 : decode cX7_far 165 = .ok (.istore 4, 2) := by decide +kernel
theorem dX7_far_167 : decode cX7_far 167 = .ok (.iload 5, 2) := by decide +kernel
theorem dX7_far_169 : decode cX7_far 169 = .ok (.istore_n 2, 1) := by decide +kernel
theorem dX7_far_170 : decode cX7_far 170 = .ok (.iinc 3 1, 3) := by decide +kernel
theorem dX7_far_173 : decode cX7_far 173 = .ok (.goto (-110), 3) := by decide +kernel
theorem dX7_far_176 : decode cX7_far 176 = .ok (.iload_n 2, 1) := by decide +kernel
theorem dX7_far_177 : decode cX7_far 177 = .ok (.iload_n 1, 1) := by decide +kernel
theorem dX7_far_178 : decode cX7_far 178 = .ok (.ishr, 1) := by decide +kernel
theorem dX7_far_179 : decode cX7_far 179 = .ok (.iconst 1, 1) := by decide +kernel
theorem dX7_far_180 : decode cX7_far 180 = .ok (.iand, 1) := by decide +kernel
theorem dX7_far_181 : decode cX7_far 181 = .ok (.iconst 1, 1) := by decide +kernel
theorem dX7_far_182 : decode cX7_far 182 = .ok (.if_icmp .ne 7, 3) := by decide +kernel
theorem dX7_far_185 : decode cX7_far 185 = .ok (.iload_n 3, 1) := by decide +kernel
theorem dX7_far_186 : decode cX7_far 186 = .ok (.goto 5, 3) := by decide +kernel
theorem dX7_far_189 : decode cX7_far 189 = .ok (.bipush (-14), 2) := by decide +kernel
theorem dX7_far_191 : decode cX7_far 191 = .ok (.ireturn, 1) := by decide +kernel
theorem dX7_isAt_0 : decode cX7_isAt 0 = .ok (.aload_n 0, 1) := by decide +kernel
theorem dX7_isAt_1 : decode cX7_isAt 1 = .ok (.getfield 145, 3) := by decide +kernel
theorem dX7_isAt_4 : decode cX7_isAt 4 = .ok (.aload_n 0, 1) := by decide +kernel
theorem dX7_isAt_5 : decode cX7_isAt 5 = .ok (.getfield 132, 3) := by decide +kernel
theorem dX7_isAt_8 : decode cX7_isAt 8 = .ok (.if_icmp .ge 24, 3) := by decide +kernel
theorem dX7_isAt_11 : decode cX7_isAt 11 = .ok (.aload_n 0, 1) := by decide +kernel
theorem dX7_isAt_12 : decode cX7_isAt 12 = .ok (.getfield 25, 3) := by decide +kernel
theorem dX7_isAt_15 : decode cX7_isAt 15 = .ok (.aload_n 0, 1) := by decide +kernel
theorem dX7_isAt_16 : decode cX7_isAt 16 = .ok (.getfield 145, 3) := by decide +kernel
theorem dX7_isAt_19 : decode cX7_isAt 19 = .ok (.iaload, 1) := by decide +kernel
theorem dX7_isAt_20 : decode cX7_isAt 20 = .ok (.iload_n 1, 1) := by decide +kernel
theorem dX7_isAt_21 : decode cX7_isAt 21 = .ok (.iload_n 2, 1) := by decide +kernel
theorem dX7_isAt_22 : decode cX7_isAt 22 = .ok (.invokestatic 39, 3) := by decide +kernel
theorem dX7_isAt_25 : decode cX7_isAt 25 = .ok (.ifCond .eq 7, 3) := by decide +kernel
theorem dX7_isAt_28 : decode cX7_isAt 28 = .ok (.iconst 1, 1) := by decide +kernel
theorem dX7_isAt_29 : decode cX7_isAt 29 = .ok (.goto 4, 3) := by decide +kernel
theorem dX7_isAt_32 : decode cX7_isAt 32 = .ok (.iconst 0, 1) := by decide +kernel
theorem dX7_isAt_33 : decode cX7_isAt 33 = .ok (.ireturn, 1) := by decide +kernel
theorem dX7_number_0 : decode cX7_number 0 = .ok (.aload_n 0, 1) := by decide +kernel
theorem dX7_number_1 : decode cX7_number 1 = .ok (.getfield 145, 3) := by decide +kernel
theorem dX7_number_4 : decode cX7_number 4 = .ok (.istore_n 2, 1) := by decide +kernel
theorem dX7_number_5 : decode cX7_number 5 = .ok (.aload_n 0, 1) := by decide +kernel
theorem dX7_number_6 : decode cX7_number 6 = .ok (.getfield 28, 3) := by decide +kernel
theorem dX7_number_9 : decode cX7_number 9 = .ok (.iload_n 1, 1) := by decide +kernel
theorem dX7_number_10 : decode cX7_number 10 = .ok (.iconst 0, 1) := by decide +kernel
theorem dX7_number_11 : decode cX7_number 11 = .ok (.iastore, 1) := by decide +kernel
theorem dX7_number_12 : decode cX7_number 12 = .ok (.aload_n 0, 1) := by decide +kernel
theorem dX7_number_13 : decode cX7_number 13 = .ok (.bipush 48, 2) := by decide +kernel
theorem dX7_number_15 : decode cX7_number 15 = .ok (.bipush 57, 2) := by decide +kernel
theorem dX7_number_17 : decode cX7_number 17 = .ok (.invokevirtual 148, 3) := by decide +kernel
theorem dX7_number_20 : decode cX7_number 20 = .ok (.ifCond .eq 54, 3) := by decide +kernel
theorem dX7_number_23 : decode cX7_number 23 = .ok (.aload_n 0, 1) := by decide +kernel
theorem dX7_number_24 : decode cX7_number 24 = .ok (.getfield 145, 3) := by decide +kernel
theorem dX7_number_27 : decode cX7_number 27 = .ok (.iload_n 2, 1) := by decide +kernel
theorem dX7_number_28 : decode cX7_number 28 = .ok (.isub, 1) := by decide +kernel
theorem dX7_number_29 : decode cX7_number 29 = .ok (.iconst 3, 1) := by decide +kernel
theorem dX7_number_30 : decode cX7_number 30 = .ok (.if_icmp .ge 44, 3) := by decide +kernel
theorem dX7_number_33 : decode cX7_number 33 = .ok (.aload_n 0, 1) := by decide +kernel
theorem dX7_number_34 : decode cX7_number 34 = .ok (.getfield 28, 3) := by decide +kernel
theorem dX7_number_37 : decode cX7_number 37 = .ok (.iload_n 1, 1) := by decide +kernel
theorem dX7_number_38 : decode cX7_number 38 = .ok (.bipush 10, 2) := by decide +kernel
theorem dX7_number_40 : decode cX7_number 40 = .ok (.aload_n 0, 1) := by decide +kernel
theorem dX7_number_41 : decode cX7_number 41 = .ok (.getfield 28, 3) := by decide +kernel
theorem dX7_number_44 : decode cX7_number 44 = .ok (.iload_n 1, 1) := by decide +kernel
theorem dX7_number_45 : decode cX7_number 45 = .ok (.iaload, 1) := by decide +kernel
theorem dX7_number_46 : decode cX7_number 46 = .ok (.imul, 1) := by decide +kernel
theorem dX7_number_47 : decode cX7_number 47 = .ok (.aload_n 0, 1) := by decide +kernel
theorem dX7_number_48 : decode cX7_number 48 = .ok (.getfield 25, 3) := by decide +kernel
theorem dX7_number_51 : decode cX7_number 51 = .ok (.aload_n 0, 1) := by decide +kernel
theorem dX7_number_52 : decode cX7_number 52 = .ok (.getfield 145, 3) := by decide +kernel
theorem dX7_number_55 : decode cX7_number 55 = .ok (.iaload, 1) := by decide +kernel
theorem dX7_number_56 : decode cX7_number 56 = .ok (.iadd, 1) := by decide +kernel
theorem dX7_number_57 : decode cX7_number 57 = .ok (.bipush 48, 2) := by decide +kernel
theorem dX7_number_59 : decode cX7_number 59 = .ok (.isub, 1) := by decide +kernel
theorem dX7_number_60 : decode cX7_number 60 = .ok (.iastore, 1) := by decide +kernel
theorem dX7_number_61 : decode cX7_number 61 = .ok (.aload_n 0, 1) := by decide +kernel
theorem dX7_number_62 : decode cX7_number 62 = .ok (.dup, 1) := by decide +kernel
theorem dX7_number_63 : decode cX7_number 63 = .ok (.getfield 145, 3) := by decide +kernel
theorem dX7_number_66 : decode cX7_number 66 = .ok (.iconst 1, 1) := by decide +kernel
theorem dX7_number_67 : decode cX7_number 67 = .ok (.iadd, 1) := by decide +kernel
theorem dX7_number_68 : decode cX7_number 68 = .ok (.putfield 145, 3) := by decide +kernel
theorem dX7_number_71 : decode cX7_number 71 = .ok (.goto (-59), 3) := by decide +kernel
theorem dX7_number_74 : decode cX7_number 74 = .ok (.aload_n 0, 1) := by decide +kernel
theorem dX7_number_75 : decode cX7_number 75 = .ok (.getfield 145, 3) := by decide +kernel
theorem dX7_number_78 : decode cX7_number 78 = .ok (.iload_n 2, 1) := by decide +kernel
theorem dX7_number_79 : decode cX7_number 79 = .ok (.if_icmp .le 7, 3) := by decide +kernel
theorem dX7_number_82 : decode cX7_number 82 = .ok (.iconst 1, 1) := by decide +kernel
theorem dX7_number_83 : decode cX7_number 83 = .ok (.goto 4, 3) := by decide +kernel
theorem dX7_number_86 : decode cX7_number 86 = .ok (.iconst 0, 1) := by decide +kernel
theorem dX7_number_87 : decode cX7_number 87 = .ok (.ireturn, 1) := by decide +kernel
theorem dX7_sign_0 : decode cX7_sign 0 = .ok (.aload_n 0, 1) := by decide +kernel
theorem dX7_sign_1 : decode cX7_sign 1 = .ok (.iload_n 1, 1) := by decide +kernel
theorem dX7_sign_2 : decode cX7_sign 2 = .ok (.iload_n 1, 1) := by decide +kernel
theorem dX7_sign_3 : decode cX7_sign 3 = .ok (.invokevirtual 148, 3) := by decide +kernel
theorem dX7_sign_6 : decode cX7_sign 6 = .ok (.istore_n 2, 1) := by decide +kernel
theorem dX7_sign_7 : decode cX7_sign 7 = .ok (.aload_n 0, 1) := by decide +kernel
theorem dX7_sign_8 : decode cX7_sign 8 = .ok (.dup, 1) := by decide +kernel
theorem dX7_sign_9 : decode cX7_sign 9 = .ok (.getfield 145, 3) := by decide +kernel
theorem dX7_sign_12 : decode cX7_sign 12 = .ok (.iload_n 2, 1) := by decide +kernel
theorem dX7_sign_13 : decode cX7_sign 13 = .ok (.ifCond .eq 7, 3) := by decide +kernel
theorem dX7_sign_16 : decode cX7_sign 16 = .ok (.iconst 1, 1) := by decide +kernel
theorem dX7_sign_17 : decode cX7_sign 17 = .ok (.goto 4, 3) := by decide +kernel
theorem dX7_sign_20 : decode cX7_sign 20 = .ok (.iconst 0, 1) := by decide +kernel
theorem dX7_sign_21 : decode cX7_sign 21 = .ok (.iadd, 1) := by decide +kernel
theorem dX7_sign_22 : decode cX7_sign 22 = .ok (.putfield 145, 3) := by decide +kernel
theorem dX7_sign_25 : decode cX7_sign 25 = .ok (.iload_n 2, 1) := by decide +kernel
theorem dX7_sign_26 : decode cX7_sign 26 = .ok (.ireturn, 1) := by decide +kernel
theorem dX7_target_0 : decode cX7_target 0 = .ok (.aload_n 0, 1) := by decide +kernel
theorem dX7_target_1 : decode cX7_target 1 = .ok (.bipush 45, 2) := by decide +kernel
theorem dX7_target_3 : decode cX7_target 3 = .ok (.invokevirtual 152, 3) := by decide +kernel
theorem dX7_target_6 : decode cX7_target 6 = .ok (.ifCond .eq 12, 3) := by decide +kernel
theorem dX7_target_9 : decode cX7_target 9 = .ok (.aload_n 0, 1) := by decide +kernel
theorem dX7_target_10 : decode cX7_target 10 = .ok (.getfield 28, 3) := by decide +kernel
theorem dX7_target_13 : decode cX7_target 13 = .ok (.iload_n 1, 1) := by decide +kernel
theorem dX7_target_14 : decode cX7_target 14 = .ok (.iconst (-1), 1) := by decide +kernel
theorem dX7_target_15 : decode cX7_target 15 = .ok (.iastore, 1) := by decide +kernel
theorem dX7_target_16 : decode cX7_target 16 = .ok (.iconst 1, 1) := by decide +kernel
theorem dX7_target_17 : decode cX7_target 17 = .ok (.ireturn, 1) := by decide +kernel
theorem dX7_target_18 : decode cX7_target 18 = .ok (.aload_n 0, 1) := by decide +kernel
theorem dX7_target_19 : decode cX7_target 19 = .ok (.iload_n 1, 1) := by decide +kernel
theorem dX7_target_20 : decode cX7_target 20 = .ok (.invokevirtual 155, 3) := by decide +kernel
theorem dX7_target_23 : decode cX7_target 23 = .ok (.ireturn, 1) := by decide +kernel
theorem dX7_reads_0 : decode cX7_reads 0 = .ok (.aload_n 0, 1) := by decide +kernel
theorem dX7_reads_1 : decode cX7_reads 1 = .ok (.aload_n 0, 1) := by decide +kernel
theorem dX7_reads_2 : decode cX7_reads 2 = .ok (.getfield 25, 3) := by decide +kernel
theorem dX7_reads_5 : decode cX7_reads 5 = .ok (.aload_n 0, 1) := by decide +kernel
theorem dX7_reads_6 : decode cX7_reads 6 = .ok (.getfield 145, 3) := by decide +kernel
theorem dX7_reads_9 : decode cX7_reads 9 = .ok (.iaload, 1) := by decide +kernel
theorem dX7_reads_10 : decode cX7_reads 10 = .ok (.putfield 158, 3) := by decide +kernel
theorem dX7_reads_13 : decode cX7_reads 13 = .ok (.aload_n 0, 1) := by decide +kernel
theorem dX7_reads_14 : decode cX7_reads 14 = .ok (.dup, 1) := by decide +kernel
theorem dX7_reads_15 : decode cX7_reads 15 = .ok (.getfield 145, 3) := by decide +kernel
theorem dX7_reads_18 : decode cX7_reads 18 = .ok (.iconst 1, 1) := by decide +kernel
theorem dX7_reads_19 : decode cX7_reads 19 = .ok (.iadd, 1) := by decide +kernel
theorem dX7_reads_20 : decode cX7_reads 20 = .ok (.putfield 145, 3) := by decide +kernel
theorem dX7_reads_23 : decode cX7_reads 23 = .ok (.aload_n 0, 1) := by decide +kernel
theorem dX7_reads_24 : decode cX7_reads 24 = .ok (.getfield 158, 3) := by decide +kernel
theorem dX7_reads_27 : decode cX7_reads 27 = .ok (.lookupswitch 176 #[(98, 49), (102, 119), (110, 56), (114, 79), (115, 56)], 49) := by decide +kernel
theorem dX7_reads_76 : decode cX7_reads 76 = .ok (.aload_n 0, 1) := by decide +kernel
theorem dX7_reads_77 : decode cX7_reads 77 = .ok (.bipush 59, 2) := by decide +kernel
theorem dX7_reads_79 : decode cX7_reads 79 = .ok (.invokevirtual 152, 3) := by decide +kernel
theorem dX7_reads_82 : decode cX7_reads 82 = .ok (.ireturn, 1) := by decide +kernel
theorem dX7_reads_83 : decode cX7_reads 83 = .ok (.aload_n 0, 1) := by decide +kernel
theorem dX7_reads_84 : decode cX7_reads 84 = .ok (.iconst 0, 1) := by decide +kernel
theorem dX7_reads_85 : decode cX7_reads 85 = .ok (.invokevirtual 155, 3) := by decide +kernel
theorem dX7_reads_88 : decode cX7_reads 88 = .ok (.ifCond .eq 16, 3) := by decide +kernel
theorem dX7_reads_91 : decode cX7_reads 91 = .ok (.aload_n 0, 1) := by decide +kernel
theorem dX7_reads_92 : decode cX7_reads 92 = .ok (.bipush 59, 2) := by decide +kernel
theorem dX7_reads_94 : decode cX7_reads 94 = .ok (.invokevirtual 152, 3) := by decide +kernel
theorem dX7_reads_97 : decode cX7_reads 97 = .ok (.ifCond .eq 7, 3) := by decide +kernel
theorem dX7_reads_100 : decode cX7_reads 100 = .ok (.iconst 1, 1) := by decide +kernel
theorem dX7_reads_101 : decode cX7_reads 101 = .ok (.goto 4, 3) := by decide +kernel
theorem dX7_reads_104 : decode cX7_reads 104 = .ok (.iconst 0, 1) := by decide +kernel
theorem dX7_reads_105 : decode cX7_reads 105 = .ok (.ireturn, 1) := by decide +kernel
theorem dX7_reads_106 : decode cX7_reads 106 = .ok (.aload_n 0, 1) := by decide +kernel
theorem dX7_reads_107 : decode cX7_reads 107 = .ok (.iconst 0, 1) := by decide +kernel
theorem dX7_reads_108 : decode cX7_reads 108 = .ok (.invokevirtual 155, 3) := by decide +kernel
theorem dX7_reads_111 : decode cX7_reads 111 = .ok (.ifCond .eq 33, 3) := by decide +kernel
theorem dX7_reads_114 : decode cX7_reads 114 = .ok (.aload_n 0, 1) := by decide +kernel
theorem dX7_reads_115 : decode cX7_reads 115 = .ok (.bipush 44, 2) := by decide +kernel
theorem dX7_reads_117 : decode cX7_reads 117 = .ok (.invokevirtual 152, 3) := by decide +kernel
theorem dX7_reads_120 : decode cX7_reads 120 = .ok (.ifCond .eq 24, 3) := by decide +kernel
theorem dX7_reads_123 : decode cX7_reads 123 = .ok (.aload_n 0, 1) := by decide +kernel
theorem dX7_reads_124 : decode cX7_reads 124 = .ok (.iconst 1, 1) := by decide +kernel
theorem dX7_reads_125 : decode cX7_reads 125 = .ok (.invokevirtual 161, 3) := by decide +kernel
theorem dX7_reads_128 : decode cX7_reads 128 = .ok (.ifCond .eq 16, 3) := by decide +kernel
theorem dX7_reads_131 : decode cX7_reads 131 = .ok (.aload_n 0, 1) := by decide +kernel
theorem dX7_reads_132 : decode cX7_reads 132 = .ok (.bipush 59, 2) := by decide +kernel
theorem dX7_reads_134 : decode cX7_reads 134 = .ok (.invokevirtual 152, 3) := by decide +kernel
theorem dX7_reads_137 : decode cX7_reads 137 = .ok (.ifCond .eq 7, 3) := by decide +kernel
theorem dX7_reads_140 : decode cX7_reads 140 = .ok (.iconst 1, 1) := by decide +kernel
theorem dX7_reads_141 : decode cX7_reads 141 = .ok (.goto 4, 3) := by decide +kernel
theorem dX7_reads_144 : decode cX7_reads 144 = .ok (.iconst 0, 1) := by decide +kernel
theorem dX7_reads_145 : decode cX7_reads 145 = .ok (.ireturn, 1) := by decide +kernel
theorem dX7_reads_146 : decode cX7_reads 146 = .ok (.aload_n 0, 1) := by decide +kernel
theorem dX7_reads_147 : decode cX7_reads 147 = .ok (.iconst 0, 1) := by decide +kernel
theorem dX7_reads_148 : decode cX7_reads 148 = .ok (.invokevirtual 155, 3) := by decide +kernel
theorem dX7_reads_151 : decode cX7_reads 151 = .ok (.ifCond .eq 50, 3) := by decide +kernel
theorem dX7_reads_154 : decode cX7_reads 154 = .ok (.aload_n 0, 1) := by decide +kernel
theorem dX7_reads_155 : decode cX7_reads 155 = .ok (.bipush 44, 2) := by decide +kernel
theorem dX7_reads_157 : decode cX7_reads 157 = .ok (.invokevirtual 152, 3) := by decide +kernel
theorem dX7_reads_160 : decode cX7_reads 160 = .ok (.ifCond .eq 41, 3) := by decide +kernel
theorem dX7_reads_163 : decode cX7_reads 163 = .ok (.aload_n 0, 1) := by decide +kernel
theorem dX7_reads_164 : decode cX7_reads 164 = .ok (.iconst 1, 1) := by decide +kernel
theorem dX7_reads_165 : decode cX7_reads 165 = .ok (.invokevirtual 155, 3) := by decide +kernel
theorem dX7_reads_168 : decode cX7_reads 168 = .ok (.ifCond .eq 33, 3) := by decide +kernel
theorem dX7_reads_171 : decode cX7_reads 171 = .ok (.aload_n 0, 1) := by decide +kernel
theorem dX7_reads_172 : decode cX7_reads 172 = .ok (.bipush 44, 2) := by decide +kernel
theorem dX7_reads_174 : decode cX7_reads 174 = .ok (.invokevirtual 152, 3) := by decide +kernel
theorem dX7_reads_177 : decode cX7_reads 177 = .ok (.ifCond .eq 24, 3) := by decide +kernel
theorem dX7_reads_180 : decode cX7_reads 180 = .ok (.aload_n 0, 1) := by decide +kernel
theorem dX7_reads_181 : decode cX7_reads 181 = .ok (.iconst 2, 1) := by decide +kernel
theorem dX7_reads_182 : decode cX7_reads 182 = .ok (.invokevirtual 161, 3) := by decide +kernel
theorem dX7_reads_185 : decode cX7_reads 185 = .ok (.ifCond .eq 16, 3) := by decide +kernel
theorem dX7_reads_188 : decode cX7_reads 188 = .ok (.aload_n 0, 1) := by decide +kernel
theorem dX7_reads_189 : decode cX7_reads 189 = .ok (.bipush 59, 2) := by decide +kernel
theorem dX7_reads_191 : decode cX7_reads 191 = .ok (.invokevirtual 152, 3) := by decide +kernel
theorem dX7_reads_194 : decode cX7_reads 194 = .ok (.ifCond .eq 7, 3) := by decide +kernel
theorem dX7_reads_197 : decode cX7_reads 197 = .ok (.iconst 1, 1) := by decide +kernel
theorem dX7_reads_198 : decode cX7_reads 198 = .ok (.goto 4, 3) := by decide +kernel
theorem dX7_reads_201 : decode cX7_reads 201 = .ok (.iconst 0, 1) := by decide +kernel
theorem dX7_reads_202 : decode cX7_reads 202 = .ok (.ireturn, 1) := by decide +kernel
theorem dX7_reads_203 : decode cX7_reads 203 = .ok (.iconst 0, 1) := by decide +kernel
theorem dX7_reads_204 : decode cX7_reads 204 = .ok (.ireturn, 1) := by decide +kernel
theorem dX7_plays_0 : decode cX7_plays 0 = .ok (.aload_n 0, 1) := by decide +kernel
theorem dX7_plays_1 : decode cX7_plays 1 = .ok (.iconst 1, 1) := by decide +kernel
theorem dX7_plays_2 : decode cX7_plays 2 = .ok (.putfield 31, 3) := by decide +kernel
theorem dX7_plays_5 : decode cX7_plays 5 = .ok (.aload_n 0, 1) := by decide +kernel
theorem dX7_plays_6 : decode cX7_plays 6 = .ok (.iconst 0, 1) := by decide +kernel
theorem dX7_plays_7 : decode cX7_plays 7 = .ok (.putfield 145, 3) := by decide +kernel
theorem dX7_plays_10 : decode cX7_plays 10 = .ok (.aload_n 0, 1) := by decide +kernel
theorem dX7_plays_11 : decode cX7_plays 11 = .ok (.iconst 0, 1) := by decide +kernel
theorem dX7_plays_12 : decode cX7_plays 12 = .ok (.putfield 180, 3) := by decide +kernel
theorem dX7_plays_15 : decode cX7_plays 15 = .ok (.iconst 0, 1) := by decide +kernel
theorem dX7_plays_16 : decode cX7_plays 16 = .ok (.istore_n 1, 1) := by decide +kernel
theorem dX7_plays_17 : decode cX7_plays 17 = .ok (.iconst 1, 1) := by decide +kernel
theorem dX7_plays_18 : decode cX7_plays 18 = .ok (.istore_n 2, 1) := by decide +kernel
theorem dX7_plays_19 : decode cX7_plays 19 = .ok (.aload_n 0, 1) := by decide +kernel
theorem dX7_plays_20 : decode cX7_plays 20 = .ok (.getfield 145, 3) := by decide +kernel
theorem dX7_plays_23 : decode cX7_plays 23 = .ok (.aload_n 0, 1) := by decide +kernel
theorem dX7_plays_24 : decode cX7_plays 24 = .ok (.getfield 132, 3) := by decide +kernel
theorem dX7_plays_27 : decode cX7_plays 27 = .ok (.if_icmp .ge 64, 3) := by decide +kernel
theorem dX7_plays_30 : decode cX7_plays 30 = .ok (.iload_n 2, 1) := by decide +kernel
theorem dX7_plays_31 : decode cX7_plays 31 = .ok (.ifCond .eq 60, 3) := by decide +kernel
theorem dX7_plays_34 : decode cX7_plays 34 = .ok (.aload_n 0, 1) := by decide +kernel
theorem dX7_plays_35 : decode cX7_plays 35 = .ok (.getfield 145, 3) := by decide +kernel
theorem dX7_plays_38 : decode cX7_plays 38 = .ok (.istore_n 1, 1) := by decide +kernel
theorem dX7_plays_39 : decode cX7_plays 39 = .ok (.aload_n 0, 1) := by decide +kernel
theorem dX7_plays_40 : decode cX7_plays 40 = .ok (.invokevirtual 183, 3) := by decide +kernel
theorem dX7_plays_43 : decode cX7_plays 43 = .ok (.istore_n 3, 1) := by decide +kernel
theorem dX7_plays_44 : decode cX7_plays 44 = .ok (.aload_n 0, 1) := by decide +kernel
theorem dX7_plays_45 : decode cX7_plays 45 = .ok (.iload_n 3, 1) := by decide +kernel
theorem dX7_plays_46 : decode cX7_plays 46 = .ok (.ifCond .eq 10, 3) := by decide +kernel
theorem dX7_plays_49 : decode cX7_plays 49 = .ok (.aload_n 0, 1) := by decide +kernel
theorem dX7_plays_50 : decode cX7_plays 50 = .ok (.invokevirtual 186, 3) := by decide +kernel
theorem dX7_plays_53 : decode cX7_plays 53 = .ok (.goto 4, 3) := by decide +kernel
theorem dX7_plays_56 : decode cX7_plays 56 = .ok (.iconst 0, 1) := by decide +kernel
theorem dX7_plays_57 : decode cX7_plays 57 = .ok (.putfield 189, 3) := by decide +kernel
theorem dX7_plays_60 : decode cX7_plays 60 = .ok (.iload_n 3, 1) := by decide +kernel
theorem dX7_plays_61 : decode cX7_plays 61 = .ok (.ifCond .eq 15, 3) := by decide +kernel
theorem dX7_plays_64 : decode cX7_plays 64 = .ok (.aload_n 0, 1) := by decide +kernel
theorem dX7_plays_65 : decode cX7_plays 65 = .ok (.getfield 189, 3) := by decide +kernel
theorem dX7_plays_68 : decode cX7_plays 68 = .ok (.iconst (-1), 1) := by decide +kernel
theorem dX7_plays_69 : decode cX7_plays 69 = .ok (.if_icmp .lt 7, 3) := by decide +kernel
theorem dX7_plays_72 : decode cX7_plays 72 = .ok (.iconst 1, 1) := by decide +kernel
theorem dX7_plays_73 : decode cX7_plays 73 = .ok (.goto 4, 3) := by decide +kernel
theorem dX7_plays_76 : decode cX7_plays 76 = .ok (.iconst 0, 1) := by decide +kernel
theorem dX7_plays_77 : decode cX7_plays 77 = .ok (.istore_n 2, 1) := by decide +kernel
theorem dX7_plays_78 : decode cX7_plays 78 = .ok (.aload_n 0, 1) := by decide +kernel
theorem dX7_plays_79 : decode cX7_plays 79 = .ok (.dup, 1) := by decide +kernel
theorem dX7_plays_80 : decode cX7_plays 80 = .ok (.getfield 180, 3) := by decide +kernel
theorem dX7_plays_83 : decode cX7_plays 83 = .ok (.iconst 1, 1) := by decide +kernel
theorem dX7_plays_84 : decode cX7_plays 84 = .ok (.iadd, 1) := by decide +kernel
theorem dX7_plays_85 : decode cX7_plays 85 = .ok (.putfield 180, 3) := by decide +kernel
theorem dX7_plays_88 : decode cX7_plays 88 = .ok (.goto (-69), 3) := by decide +kernel
theorem dX7_plays_91 : decode cX7_plays 91 = .ok (.aload_n 0, 1) := by decide +kernel
theorem dX7_plays_92 : decode cX7_plays 92 = .ok (.iconst 0, 1) := by decide +kernel
theorem dX7_plays_93 : decode cX7_plays 93 = .ok (.putfield 31, 3) := by decide +kernel
theorem dX7_plays_96 : decode cX7_plays 96 = .ok (.iload_n 2, 1) := by decide +kernel
theorem dX7_plays_97 : decode cX7_plays 97 = .ok (.ifCond .eq 8, 3) := by decide +kernel
theorem dX7_plays_100 : decode cX7_plays 100 = .ok (.bipush (-14), 2) := by decide +kernel
theorem dX7_plays_102 : decode cX7_plays 102 = .ok (.goto 4, 3) := by decide +kernel
theorem dX7_plays_105 : decode cX7_plays 105 = .ok (.iload_n 1, 1) := by decide +kernel
theorem dX7_plays_106 : decode cX7_plays 106 = .ok (.ireturn, 1) := by decide +kernel
theorem dX7_fault_0 : decode cX7_fault 0 = .ok (.iload_n 1, 1) := by decide +kernel
theorem dX7_fault_1 : decode cX7_fault 1 = .ok (.iconst 0, 1) := by decide +kernel
theorem dX7_fault_2 : decode cX7_fault 2 = .ok (.iconst 2, 1) := by decide +kernel
theorem dX7_fault_3 : decode cX7_fault 3 = .ok (.invokestatic 39, 3) := by decide +kernel
theorem dX7_fault_6 : decode cX7_fault 6 = .ok (.ifCond .ne 6, 3) := by decide +kernel
theorem dX7_fault_9 : decode cX7_fault 9 = .ok (.bipush (-11), 2) := by decide +kernel
theorem dX7_fault_11 : decode cX7_fault 11 = .ok (.ireturn, 1) := by decide +kernel
theorem dX7_fault_12 : decode cX7_fault 12 = .ok (.aload_n 0, 1) := by decide +kernel
theorem dX7_fault_13 : decode cX7_fault 13 = .ok (.getfield 7, 3) := by decide +kernel
theorem dX7_fault_16 : decode cX7_fault 16 = .ok (.aload_n 0, 1) := by decide +kernel
theorem dX7_fault_17 : decode cX7_fault 17 = .ok (.getfield 16, 3) := by decide +kernel
theorem dX7_fault_20 : decode cX7_fault 20 = .ok (.invokestatic 138, 3) := by decide +kernel
theorem dX7_fault_23 : decode cX7_fault 23 = .ok (.aload_n 0, 1) := by decide +kernel
theorem dX7_fault_24 : decode cX7_fault 24 = .ok (.invokevirtual 192, 3) := by decide +kernel
theorem dX7_fault_27 : decode cX7_fault 27 = .ok (.istore_n 2, 1) := by decide +kernel
theorem dX7_fault_28 : decode cX7_fault 28 = .ok (.aload_n 0, 1) := by decide +kernel
theorem dX7_fault_29 : decode cX7_fault 29 = .ok (.getfield 16, 3) := by decide +kernel
theorem dX7_fault_32 : decode cX7_fault 32 = .ok (.aload_n 0, 1) := by decide +kernel
theorem dX7_fault_33 : decode cX7_fault 33 = .ok (.getfield 7, 3) := by decide +kernel
theorem dX7_fault_36 : decode cX7_fault 36 = .ok (.invokestatic 138, 3) := by decide +kernel
theorem dX7_fault_39 : decode cX7_fault 39 = .ok (.iload_n 2, 1) := by decide +kernel
theorem dX7_fault_40 : decode cX7_fault 40 = .ok (.bipush (-14), 2) := by decide +kernel
theorem dX7_fault_42 : decode cX7_fault 42 = .ok (.if_icmp .eq 7, 3) := by decide +kernel
theorem dX7_fault_45 : decode cX7_fault 45 = .ok (.iload_n 1, 1) := by decide +kernel
theorem dX7_fault_46 : decode cX7_fault 46 = .ok (.ifCond .ne 7, 3) := by decide +kernel
theorem dX7_fault_49 : decode cX7_fault 49 = .ok (.iload_n 2, 1) := by decide +kernel
theorem dX7_fault_50 : decode cX7_fault 50 = .ok (.goto 39, 3) := by decide +kernel
theorem dX7_fault_53 : decode cX7_fault 53 = .ok (.iload_n 1, 1) := by decide +kernel
theorem dX7_fault_54 : decode cX7_fault 54 = .ok (.iconst 1, 1) := by decide +kernel
theorem dX7_fault_55 : decode cX7_fault 55 = .ok (.if_icmp .ne 18, 3) := by decide +kernel
theorem dX7_fault_58 : decode cX7_fault 58 = .ok (.aload_n 0, 1) := by decide +kernel
theorem dX7_fault_59 : decode cX7_fault 59 = .ok (.getfield 189, 3) := by decide +kernel
theorem dX7_fault_62 : decode cX7_fault 62 = .ok (.ifCond .ne 7, 3) := by decide +kernel
theorem dX7_fault_65 : decode cX7_fault 65 = .ok (.iconst 1, 1) := by decide +kernel
theorem dX7_fault_66 : decode cX7_fault 66 = .ok (.goto 23, 3) := by decide +kernel
theorem dX7_fault_69 : decode cX7_fault 69 = .ok (.iconst 2, 1) := by decide +kernel
theorem dX7_fault_70 : decode cX7_fault 70 = .ok (.goto 19, 3) := by decide +kernel
theorem dX7_fault_73 : decode cX7_fault 73 = .ok (.aload_n 0, 1) := by decide +kernel
theorem dX7_fault_74 : decode cX7_fault 74 = .ok (.getfield 189, 3) := by decide +kernel
theorem dX7_fault_77 : decode cX7_fault 77 = .ok (.ifCond .ne 8, 3) := by decide +kernel
theorem dX7_fault_80 : decode cX7_fault 80 = .ok (.bipush (-14), 2) := by decide +kernel
theorem dX7_fault_82 : decode cX7_fault 82 = .ok (.goto 7, 3) := by decide +kernel
theorem dX7_fault_85 : decode cX7_fault 85 = .ok (.aload_n 0, 1) := by decide +kernel
theorem dX7_fault_86 : decode cX7_fault 86 = .ok (.getfield 189, 3) := by decide +kernel
theorem dX7_fault_89 : decode cX7_fault 89 = .ok (.ireturn, 1) := by decide +kernel
theorem dX7_finish_0 : decode cX7_finish 0 = .ok (.iload_n 1, 1) := by decide +kernel
theorem dX7_finish_1 : decode cX7_finish 1 = .ok (.iconst (-1), 1) := by decide +kernel
theorem dX7_finish_2 : decode cX7_finish 2 = .ok (.if_icmp .eq 13, 3) := by decide +kernel
theorem dX7_finish_5 : decode cX7_finish 5 = .ok (.iload_n 1, 1) := by decide +kernel
theorem dX7_finish_6 : decode cX7_finish 6 = .ok (.invokestatic 74, 3) := by decide +kernel
theorem dX7_finish_9 : decode cX7_finish 9 = .ok (.ifCond .ne 6, 3) := by decide +kernel
theorem dX7_finish_12 : decode cX7_finish 12 = .ok (.bipush (-11), 2) := by decide +kernel
theorem dX7_finish_14 : decode cX7_finish 14 = .ok (.ireturn, 1) := by decide +kernel
theorem dX7_finish_15 : decode cX7_finish 15 = .ok (.aload_n 0, 1) := by decide +kernel
theorem dX7_finish_16 : decode cX7_finish 16 = .ok (.getfield 7, 3) := by decide +kernel
theorem dX7_finish_19 : decode cX7_finish 19 = .ok (.sipush 193, 3) := by decide +kernel
theorem dX7_finish_22 : decode cX7_finish 22 = .ok (.iaload, 1) := by decide +kernel
theorem dX7_finish_23 : decode cX7_finish 23 = .ok (.ifCond .ne 6, 3) := by decide +kernel
theorem dX7_finish_26 : decode cX7_finish 26 = .ok (.bipush (-12), 2) := by decide +kernel
theorem dX7_finish_28 : decode cX7_finish 28 = .ok (.ireturn, 1) := by decide +kernel
theorem dX7_finish_29 : decode cX7_finish 29 = .ok (.aload_n 0, 1) := by decide +kernel
theorem dX7_finish_30 : decode cX7_finish 30 = .ok (.invokevirtual 81, 3) := by decide +kernel
theorem dX7_finish_33 : decode cX7_finish 33 = .ok (.aload_n 0, 1) := by decide +kernel
theorem dX7_finish_34 : decode cX7_finish 34 = .ok (.sipush 193, 3) := by decide +kernel
theorem dX7_finish_37 : decode cX7_finish 37 = .ok (.invokevirtual 96, 3) := by decide +kernel
theorem dX7_finish_40 : decode cX7_finish 40 = .ok (.istore_n 2, 1) := by decide +kernel
theorem dX7_finish_41 : decode cX7_finish 41 = .ok (.iload_n 1, 1) := by decide +kernel
theorem dX7_finish_42 : decode cX7_finish 42 = .ok (.ifCond .ge 7, 3) := by decide +kernel
theorem dX7_finish_45 : decode cX7_finish 45 = .ok (.iconst (-1), 1) := by decide +kernel
theorem dX7_finish_46 : decode cX7_finish 46 = .ok (.goto 9, 3) := by decide +kernel
theorem dX7_finish_49 : decode cX7_finish 49 = .ok (.aload_n 0, 1) := by decide +kernel
theorem dX7_finish_50 : decode cX7_finish 50 = .ok (.iload_n 1, 1) := by decide +kernel
theorem dX7_finish_51 : decode cX7_finish 51 = .ok (.iload_n 2, 1) := by decide +kernel
theorem dX7_finish_52 : decode cX7_finish 52 = .ok (.invokevirtual 84, 3) := by decide +kernel
theorem dX7_finish_55 : decode cX7_finish 55 = .ok (.istore_n 3, 1) := by decide +kernel
theorem dX7_finish_56 : decode cX7_finish 56 = .ok (.aload_n 0, 1) := by decide +kernel
theorem dX7_finish_57 : decode cX7_finish 57 = .ok (.invokevirtual 62, 3) := by decide +kernel
theorem dX7_finish_60 : decode cX7_finish 60 = .ok (.ifCond .eq 14, 3) := by decide +kernel
theorem dX7_finish_63 : decode cX7_finish 63 = .ok (.iload_n 3, 1) := by decide +kernel
theorem dX7_finish_64 : decode cX7_finish 64 = .ok (.bipush 24, 2) := by decide +kernel
theorem dX7_finish_66 : decode cX7_finish 66 = .ok (.if_icmp .ge 8, 3) := by decide +kernel
theorem dX7_finish_69 : decode cX7_finish 69 = .ok (.aload_n 0, 1) := by decide +kernel
theorem dX7_finish_70 : decode cX7_finish 70 = .ok (.iload_n 2, 1) := by decide +kernel
theorem dX7_finish_71 : decode cX7_finish 71 = .ok (.invokevirtual 66, 3) := by decide +kernel
theorem dX7_finish_74 : decode cX7_finish 74 = .ok (.aload_n 0, 1) := by decide +kernel
theorem dX7_finish_75 : decode cX7_finish 75 = .ok (.getfield 7, 3) := by decide +kernel
theorem dX7_finish_78 : decode cX7_finish 78 = .ok (.sipush 231, 3) := by decide +kernel
theorem dX7_finish_81 : decode cX7_finish 81 = .ok (.dup2, 1) := by decide +kernel
theorem dX7_finish_82 : decode cX7_finish 82 = .ok (.iaload, 1) := by decide +kernel
theorem dX7_finish_83 : decode cX7_finish 83 = .ok (.iconst 1, 1) := by decide +kernel
theorem dX7_finish_84 : decode cX7_finish 84 = .ok (.iadd, 1) := by decide +kernel
theorem dX7_finish_85 : decode cX7_finish 85 = .ok (.iastore, 1) := by decide +kernel
theorem dX7_finish_86 : decode cX7_finish 86 = .ok (.iload_n 2, 1) := by decide +kernel
theorem dX7_finish_87 : decode cX7_finish 87 = .ok (.ireturn, 1) := by decide +kernel
theorem dX7_grey_0 : decode cX7_grey 0 = .ok (.iload_n 1, 1) := by decide +kernel
theorem dX7_grey_1 : decode cX7_grey 1 = .ok (.ifCond .ge 8, 3) := by decide +kernel
theorem dX7_grey_4 : decode cX7_grey 4 = .ok (.bipush (-11), 2) := by decide +kernel
theorem dX7_grey_6 : decode cX7_grey 6 = .ok (.goto 30, 3) := by decide +kernel
theorem dX7_grey_9 : decode cX7_grey 9 = .ok (.iload_n 1, 1) := by decide +kernel
theorem dX7_grey_10 : decode cX7_grey 10 = .ok (.aload_n 0, 1) := by decide +kernel
theorem dX7_grey_11 : decode cX7_grey 11 = .ok (.getfield 7, 3) := by decide +kernel
theorem dX7_grey_14 : decode cX7_grey 14 = .ok (.sipush 168, 3) := by decide +kernel
theorem dX7_grey_17 : decode cX7_grey 17 = .ok (.iaload, 1) := by decide +kernel
theorem dX7_grey_18 : decode cX7_grey 18 = .ok (.if_icmp .lt 8, 3) := by decide +kernel
theorem dX7_grey_21 : decode cX7_grey 21 = .ok (.bipush (-14), 2) := by decide +kernel
theorem dX7_grey_23 : decode cX7_grey 23 = .ok (.goto 13, 3) := by decide +kernel
theorem dX7_grey_26 : decode cX7_grey 26 = .ok (.aload_n 0, 1) := by decide +kernel
theorem dX7_grey_27 : decode cX7_grey 27 = .ok (.getfield 7, 3) := by decide +kernel
theorem dX7_grey_30 : decode cX7_grey 30 = .ok (.sipush 169, 3) := by decide +kernel
theorem dX7_grey_33 : decode cX7_grey 33 = .ok (.iload_n 1, 1) := by decide +kernel
theorem dX7_grey_34 : decode cX7_grey 34 = .ok (.iadd, 1) := by decide +kernel
theorem dX7_grey_35 : decode cX7_grey 35 = .ok (.iaload, 1) := by decide +kernel
theorem dX7_grey_36 : decode cX7_grey 36 = .ok (.ireturn, 1) := by decide +kernel
theorem dX7_hangs_0 : decode cX7_hangs 0 = .ok (.aload_n 0, 1) := by decide +kernel
theorem dX7_hangs_1 : decode cX7_hangs 1 = .ok (.iload_n 1, 1) := by decide +kernel
theorem dX7_hangs_2 : decode cX7_hangs 2 = .ok (.invokevirtual 87, 3) := by decide +kernel
theorem dX7_hangs_5 : decode cX7_hangs 5 = .ok (.ifCond .ne 6, 3) := by decide +kernel
theorem dX7_hangs_8 : decode cX7_hangs 8 = .ok (.bipush (-11), 2) := by decide +kernel
theorem dX7_hangs_10 : decode cX7_hangs 10 = .ok (.ireturn, 1) := by decide +kernel
theorem dX7_hangs_11 : decode cX7_hangs 11 = .ok (.aload_n 0, 1) := by decide +kernel
theorem dX7_hangs_12 : decode cX7_hangs 12 = .ok (.iconst (-1), 1) := by decide +kernel
theorem dX7_hangs_13 : decode cX7_hangs 13 = .ok (.invokevirtual 50, 3) := by decide +kernel
theorem dX7_hangs_16 : decode cX7_hangs 16 = .ok (.istore_n 2, 1) := by decide +kernel
theorem dX7_hangs_17 : decode cX7_hangs 17 = .ok (.iload_n 2, 1) := by decide +kernel
theorem dX7_hangs_18 : decode cX7_hangs 18 = .ok (.iload_n 1, 1) := by decide +kernel
theorem dX7_hangs_19 : decode cX7_hangs 19 = .ok (.ishr, 1) := by decide +kernel
theorem dX7_hangs_20 : decode cX7_hangs 20 = .ok (.iconst 1, 1) := by decide +kernel
theorem dX7_hangs_21 : decode cX7_hangs 21 = .ok (.iand, 1) := by decide +kernel
theorem dX7_hangs_22 : decode cX7_hangs 22 = .ok (.ifCond .ne 8, 3) := by decide +kernel
theorem dX7_hangs_25 : decode cX7_hangs 25 = .ok (.bipush (-12), 2) := by decide +kernel
theorem dX7_hangs_27 : decode cX7_hangs 27 = .ok (.goto 12, 3) := by decide +kernel
theorem dX7_hangs_30 : decode cX7_hangs 30 = .ok (.iload_n 2, 1) := by decide +kernel
theorem dX7_hangs_31 : decode cX7_hangs 31 = .ok (.aload_n 0, 1) := by decide +kernel
theorem dX7_hangs_32 : decode cX7_hangs 32 = .ok (.iload_n 1, 1) := by decide +kernel
theorem dX7_hangs_33 : decode cX7_hangs 33 = .ok (.invokevirtual 50, 3) := by decide +kernel
theorem dX7_hangs_36 : decode cX7_hangs 36 = .ok (.iconst (-1), 1) := by decide +kernel
theorem dX7_hangs_37 : decode cX7_hangs 37 = .ok (.ixor, 1) := by decide +kernel
theorem dX7_hangs_38 : decode cX7_hangs 38 = .ok (.iand, 1) := by decide +kernel
theorem dX7_hangs_39 : decode cX7_hangs 39 = .ok (.ireturn, 1) := by decide +kernel
theorem dX7_keep_0 : decode cX7_keep 0 = .ok (.aload_n 0, 1) := by decide +kernel
theorem dX7_keep_1 : decode cX7_keep 1 = .ok (.getfield 7, 3) := by decide +kernel
theorem dX7_keep_4 : decode cX7_keep 4 = .ok (.aload_n 0, 1) := by decide +kernel
theorem dX7_keep_5 : decode cX7_keep 5 = .ok (.getfield 22, 3) := by decide +kernel
theorem dX7_keep_8 : decode cX7_keep 8 = .ok (.invokestatic 138, 3) := by decide +kernel
theorem dX7_keep_11 : decode cX7_keep 11 = .ok (.aload_n 0, 1) := by decide +kernel
theorem dX7_keep_12 : decode cX7_keep 12 = .ok (.iconst 1, 1) := by decide +kernel
theorem dX7_keep_13 : decode cX7_keep 13 = .ok (.putfield 135, 3) := by decide +kernel
theorem dX7_keep_16 : decode cX7_keep 16 = .ok (.aload_n 0, 1) := by decide +kernel
theorem dX7_keep_17 : decode cX7_keep 17 = .ok (.iconst 0, 1) := by decide +kernel
theorem dX7_keep_18 : decode cX7_keep 18 = .ok (.invokevirtual 142, 3) := by decide +kernel
theorem dX7_keep_21 : decode cX7_keep 21 = .ok (.ireturn, 1) := by decide +kernel
theorem dX7_late_0 : decode cX7_late 0 = .ok (.iconst 0, 1) := by decide +kernel
theorem dX7_late_1 : decode cX7_late 1 = .ok (.istore_n 1, 1) := by decide +kernel
theorem dX7_late_2 : decode cX7_late 2 = .ok (.aload_n 0, 1) := by decide +kernel
theorem dX7_late_3 : decode cX7_late 3 = .ok (.invokevirtual 54, 3) := by decide +kernel
theorem dX7_late_6 : decode cX7_late 6 = .ok (.istore_n 2, 1) := by decide +kernel
theorem dX7_late_7 : decode cX7_late 7 = .ok (.iconst 0, 1) := by decide +kernel
theorem dX7_late_8 : decode cX7_late 8 = .ok (.istore_n 3, 1) := by decide +kernel
theorem dX7_late_9 : decode cX7_late 9 = .ok (.iload_n 3, 1) := by decide +kernel
theorem dX7_late_10 : decode cX7_late 10 = .ok (.bipush 24, 2) := by decide +kernel
theorem dX7_late_12 : decode cX7_late 12 = .ok (.if_icmp .ge 89, 3) := by decide +kernel
theorem dX7_late_15 : decode cX7_late 15 = .ok (.aload_n 0, 1) := by decide +kernel
theorem dX7_late_16 : decode cX7_late 16 = .ok (.getfield 7, 3) := by decide +kernel
theorem dX7_late_19 : decode cX7_late 19 = .ok (.sipush 226, 3) := by decide +kernel
theorem dX7_late_22 : decode cX7_late 22 = .ok (.iaload, 1) := by decide +kernel
theorem dX7_late_23 : decode cX7_late 23 = .ok (.ifCond .le 78, 3) := by decide +kernel
theorem dX7_late_26 : decode cX7_late 26 = .ok (.aload_n 0, 1) := by decide +kernel
theorem dX7_late_27 : decode cX7_late 27 = .ok (.iload_n 3, 1) := by decide +kernel
theorem dX7_late_28 : decode cX7_late 28 = .ok (.iconst 5, 1) := by decide +kernel
theorem dX7_late_29 : decode cX7_late 29 = .ok (.invokevirtual 43, 3) := by decide +kernel
theorem dX7_late_32 : decode cX7_late 32 = .ok (.ifCond .ne 27, 3) := by decide +kernel
theorem dX7_late_35 : decode cX7_late 35 = .ok (.aload_n 0, 1) := by decide +kernel
theorem dX7_late_36 : decode cX7_late 36 = .ok (.getfield 7, 3) := by decide +kernel
theorem dX7_late_39 : decode cX7_late 39 = .ok (.sipush 226, 3) := by decide +kernel
theorem dX7_late_42 : decode cX7_late 42 = .ok (.iaload, 1) := by decide +kernel
theorem dX7_late_43 : decode cX7_late 43 = .ok (.iconst 3, 1) := by decide +kernel
theorem dX7_late_44 : decode cX7_late 44 = .ok (.if_icmp .ne 19, 3) := by decide +kernel
theorem dX7_late_47 : decode cX7_late 47 = .ok (.iload_n 3, 1) := by decide +kernel
theorem dX7_late_48 : decode cX7_late 48 = .ok (.aload_n 0, 1) := by decide +kernel
theorem dX7_late_49 : decode cX7_late 49 = .ok (.getfield 7, 3) := by decide +kernel
theorem dX7_late_52 : decode cX7_late 52 = .ok (.sipush 227, 3) := by decide +kernel
theorem dX7_late_55 : decode cX7_late 55 = .ok (.iaload, 1) := by decide +kernel
theorem dX7_late_56 : decode cX7_late 56 = .ok (.if_icmp .ge 7, 3) := by decide +kernel
theorem dX7_late_59 : decode cX7_late 59 = .ok (.iconst 1, 1) := by decide +kernel
theorem dX7_late_60 : decode cX7_late 60 = .ok (.goto 4, 3) := by decide +kernel
theorem dX7_late_63 : decode cX7_late 63 = .ok (.iconst 0, 1) := by decide +kernel
theorem dX7_late_64 : decode cX7_late 64 = .ok (.istore 4, 2) := by decide +kernel
theorem dX7_late_66 : decode cX7_late 66 = .ok (.iload_n 1, 1) := by decide +kernel
theorem dX7_late_67 : decode cX7_late 67 = .ok (.aload_n 0, 1) := by decide +kernel
theorem dX7_late_68 : decode cX7_late 68 = .ok (.iload_n 3, 1) := by decide +kernel
theorem dX7_late_69 : decode cX7_late 69 = .ok (.invokevirtual 87, 3) := by decide +kernel
theorem dX7_late_72 : decode cX7_late 72 = .ok (.ifCond .eq 20, 3) := by decide +kernel
theorem dX7_late_75 : decode cX7_late 75 = .ok (.iload_n 2, 1) := by decide +kernel
theorem dX7_late_76 : decode cX7_late 76 = .ok (.iload_n 3, 1) := by decide +kernel
theorem dX7_late_77 : decode cX7_late 77 = .ok (.ishr, 1) := by decide +kernel
theorem dX7_late_78 : decode cX7_late 78 = .ok (.iconst 1, 1) := by decide +kernel
theorem dX7_late_79 : decode cX7_late 79 = .ok (.iand, 1) := by decide +kernel
theorem dX7_late_80 : decode cX7_late 80 = .ok (.ifCond .ne 12, 3) := by decide +kernel
theorem dX7_late_83 : decode cX7_late 83 = .ok (.iload 4, 2) := by decide +kernel
theorem dX7_late_85 : decode cX7_late 85 = .ok (.ifCond .eq 7, 3) := by decide +kernel
theorem dX7_late_88 : decode cX7_late 88 = .ok (.iconst 1, 1) := by decide +kernel
theorem dX7_late_89 : decode cX7_late 89 = .ok (.goto 4, 3) := by decide +kernel
theorem dX7_late_92 : decode cX7_late 92 = .ok (.iconst 0, 1) := by decide +kernel
theorem dX7_late_93 : decode cX7_late 93 = .ok (.iadd, 1) := by decide +kernel
theorem dX7_late_94 : decode cX7_late 94 = .ok (.istore_n 1, 1) := by decide +kernel
theorem dX7_late_95 : decode cX7_late 95 = .ok (.iinc 3 1, 3) := by decide +kernel
theorem dX7_late_98 : decode cX7_late 98 = .ok (.goto (-89), 3) := by decide +kernel
theorem dX7_late_101 : decode cX7_late 101 = .ok (.iload_n 1, 1) := by decide +kernel
theorem dX7_late_102 : decode cX7_late 102 = .ok (.ireturn, 1) := by decide +kernel
theorem dX7_placeIn_0 : decode cX7_placeIn 0 = .ok (.iconst 0, 1) := by decide +kernel
theorem dX7_placeIn_1 : decode cX7_placeIn 1 = .ok (.istore_n 2, 1) := by decide +kernel
theorem dX7_placeIn_2 : decode cX7_placeIn 2 = .ok (.iload_n 2, 1) := by decide +kernel
theorem dX7_placeIn_3 : decode cX7_placeIn 3 = .ok (.aload_n 0, 1) := by decide +kernel
theorem dX7_placeIn_4 : decode cX7_placeIn 4 = .ok (.getfield 7, 3) := by decide +kernel
theorem dX7_placeIn_7 : decode cX7_placeIn 7 = .ok (.sipush 193, 3) := by decide +kernel
theorem dX7_placeIn_10 : decode cX7_placeIn 10 = .ok (.iaload, 1) := by decide +kernel
theorem dX7_placeIn_11 : decode cX7_placeIn 11 = .ok (.if_icmp .ge 25, 3) := by decide +kernel
theorem dX7_placeIn_14 : decode cX7_placeIn 14 = .ok (.aload_n 0, 1) := by decide +kernel
theorem dX7_placeIn_15 : decode cX7_placeIn 15 = .ok (.getfield 7, 3) := by decide +kernel
theorem dX7_placeIn_18 : decode cX7_placeIn 18 = .ok (.sipush 194, 3) := by decide +kernel
theorem dX7_placeIn_21 : decode cX7_placeIn 21 = .ok (.iload_n 2, 1) := by decide +kernel
theorem dX7_placeIn_22 : decode cX7_placeIn 22 = .ok (.iadd, 1) := by decide +kernel
theorem dX7_placeIn_23 : decode cX7_placeIn 23 = .ok (.iaload, 1) := by decide +kernel
theorem dX7_placeIn_24 : decode cX7_placeIn 24 = .ok (.iload_n 1, 1) := by decide +kernel
theorem dX7_placeIn_25 : decode cX7_placeIn 25 = .ok (.if_icmp .ne 5, 3) := by decide +kernel
theorem dX7_placeIn_28 : decode cX7_placeIn 28 = .ok (.iload_n 2, 1) := by decide +kernel
theorem dX7_placeIn_29 : decode cX7_placeIn 29 = .ok (.ireturn, 1) := by decide +kernel
theorem dX7_placeIn_30 : decode cX7_placeIn 30 = .ok (.iinc 2 1, 3) := by decide +kernel
theorem dX7_placeIn_33 : decode cX7_placeIn 33 = .ok (.goto (-31), 3) := by decide +kernel
theorem dX7_placeIn_36 : decode cX7_placeIn 36 = .ok (.iconst (-1), 1) := by decide +kernel
theorem dX7_placeIn_37 : decode cX7_placeIn 37 = .ok (.ireturn, 1) := by decide +kernel
theorem dX7_objectOf_0 : decode cX7_objectOf 0 = .ok (.aload_n 0, 1) := by decide +kernel
theorem dX7_objectOf_1 : decode cX7_objectOf 1 = .ok (.iload_n 1, 1) := by decide +kernel
theorem dX7_objectOf_2 : decode cX7_objectOf 2 = .ok (.invokevirtual 87, 3) := by decide +kernel
theorem dX7_objectOf_5 : decode cX7_objectOf 5 = .ok (.ifCond .eq 13, 3) := by decide +kernel
theorem dX7_objectOf_8 : decode cX7_objectOf 8 = .ok (.iload_n 2, 1) := by decide +kernel
theorem dX7_objectOf_9 : decode cX7_objectOf 9 = .ok (.iconst 0, 1) := by decide +kernel
theorem dX7_objectOf_10 : decode cX7_objectOf 10 = .ok (.bipush 7, 2) := by decide +kernel
theorem dX7_objectOf_12 : decode cX7_objectOf 12 = .ok (.invokestatic 39, 3) := by decide +kernel
theorem dX7_objectOf_15 : decode cX7_objectOf 15 = .ok (.ifCond .ne 6, 3) := by decide +kernel
theorem dX7_objectOf_18 : decode cX7_objectOf 18 = .ok (.bipush (-11), 2) := by decide +kernel
theorem dX7_objectOf_20 : decode cX7_objectOf 20 = .ok (.ireturn, 1) := by decide +kernel
theorem dX7_objectOf_21 : decode cX7_objectOf 21 = .ok (.iload_n 2, 1) := by decide +kernel
theorem dX7_objectOf_22 : decode cX7_objectOf 22 = .ok (.tableswitch 83 0 6 #[42, 49, 49, 49, 60, 67, 77], 42) := by decide +kernel
theorem dX7_objectOf_64 : decode cX7_objectOf 64 = .ok (.aload_n 0, 1) := by decide +kernel
theorem dX7_objectOf_65 : decode cX7_objectOf 65 = .ok (.iload_n 1, 1) := by decide +kernel
theorem dX7_objectOf_66 : decode cX7_objectOf 66 = .ok (.iconst 5, 1) := by decide +kernel
theorem dX7_objectOf_67 : decode cX7_objectOf 67 = .ok (.invokevirtual 43, 3) := by decide +kernel
theorem dX7_objectOf_70 : decode cX7_objectOf 70 = .ok (.ireturn, 1) := by decide +kernel
theorem dX7_objectOf_71 : decode cX7_objectOf 71 = .ok (.aload_n 0, 1) := by decide +kernel
theorem dX7_objectOf_72 : decode cX7_objectOf 72 = .ok (.iload_n 1, 1) := by decide +kernel
theorem dX7_objectOf_73 : decode cX7_objectOf 73 = .ok (.iconst 1, 1) := by decide +kernel
theorem dX7_objectOf_74 : decode cX7_objectOf 74 = .ok (.iload_n 2, 1) := by decide +kernel
theorem dX7_objectOf_75 : decode cX7_objectOf 75 = .ok (.iadd, 1) := by decide +kernel
theorem dX7_objectOf_76 : decode cX7_objectOf 76 = .ok (.iconst 1, 1) := by decide +kernel
theorem dX7_objectOf_77 : decode cX7_objectOf 77 = .ok (.isub, 1) := by decide +kernel
theorem dX7_objectOf_78 : decode cX7_objectOf 78 = .ok (.invokevirtual 43, 3) := by decide +kernel
theorem dX7_objectOf_81 : decode cX7_objectOf 81 = .ok (.ireturn, 1) := by decide +kernel
theorem dX7_objectOf_82 : decode cX7_objectOf 82 = .ok (.aload_n 0, 1) := by decide +kernel
theorem dX7_objectOf_83 : decode cX7_objectOf 83 = .ok (.iload_n 1, 1) := by decide +kernel
theorem dX7_objectOf_84 : decode cX7_objectOf 84 = .ok (.iconst 4, 1) := by decide +kernel
theorem dX7_objectOf_85 : decode cX7_objectOf 85 = .ok (.invokevirtual 43, 3) := by decide +kernel
theorem dX7_objectOf_88 : decode cX7_objectOf 88 = .ok (.ireturn, 1) := by decide +kernel
theorem dX7_objectOf_89 : decode cX7_objectOf 89 = .ok (.aload_n 0, 1) := by decide +kernel
theorem dX7_objectOf_90 : decode cX7_objectOf 90 = .ok (.iconst (-1), 1) := by decide +kernel
theorem dX7_objectOf_91 : decode cX7_objectOf 91 = .ok (.invokevirtual 50, 3) := by decide +kernel
theorem dX7_objectOf_94 : decode cX7_objectOf 94 = .ok (.iload_n 1, 1) := by decide +kernel
theorem dX7_objectOf_95 : decode cX7_objectOf 95 = .ok (.ishr, 1) := by decide +kernel
theorem dX7_objectOf_96 : decode cX7_objectOf 96 = .ok (.iconst 1, 1) := by decide +kernel
theorem dX7_objectOf_97 : decode cX7_objectOf 97 = .ok (.iand, 1) := by decide +kernel
theorem dX7_objectOf_98 : decode cX7_objectOf 98 = .ok (.ireturn, 1) := by decide +kernel
theorem dX7_objectOf_99 : decode cX7_objectOf 99 = .ok (.aload_n 0, 1) := by decide +kernel
theorem dX7_objectOf_100 : decode cX7_objectOf 100 = .ok (.iload_n 1, 1) := by decide +kernel
theorem dX7_objectOf_101 : decode cX7_objectOf 101 = .ok (.invokevirtual 123, 3) := by decide +kernel
theorem dX7_objectOf_104 : decode cX7_objectOf 104 = .ok (.ireturn, 1) := by decide +kernel
theorem dX7_objectOf_105 : decode cX7_objectOf 105 = .ok (.aload_n 0, 1) := by decide +kernel
theorem dX7_objectOf_106 : decode cX7_objectOf 106 = .ok (.iload_n 1, 1) := by decide +kernel
theorem dX7_objectOf_107 : decode cX7_objectOf 107 = .ok (.bipush 6, 2) := by decide +kernel
theorem dX7_objectOf_109 : decode cX7_objectOf 109 = .ok (.invokevirtual 43, 3) := by decide +kernel
theorem dX7_objectOf_112 : decode cX7_objectOf 112 = .ok (.ireturn, 1) := by decide +kernel
theorem dX7_objects_0 : decode cX7_objects 0 = .ok (.iload_n 1, 1) := by decide +kernel
theorem dX7_objects_1 : decode cX7_objects 1 = .ok (.tableswitch 90 0 7 #[47, 54, 60, 65, 65, 65, 74, 81], 47) := by decide +kernel
theorem dX7_objects_48 : decode cX7_objects 48 = .ok (.aload_n 0, 1) := by decide +kernel
theorem dX7_objects_49 : decode cX7_objects 49 = .ok (.iconst 0, 1) := by decide +kernel
theorem dX7_objects_50 : decode cX7_objects 50 = .ok (.iconst 1, 1) := by decide +kernel
theorem dX7_objects_51 : decode cX7_objects 51 = .ok (.invokevirtual 126, 3) := by decide +kernel
theorem dX7_objects_54 : decode cX7_objects 54 = .ok (.ireturn, 1) := by decide +kernel
theorem dX7_objects_55 : decode cX7_objects 55 = .ok (.aload_n 0, 1) := by decide +kernel
theorem dX7_objects_56 : decode cX7_objects 56 = .ok (.iconst (-1), 1) := by decide +kernel
theorem dX7_objects_57 : decode cX7_objects 57 = .ok (.invokevirtual 50, 3) := by decide +kernel
theorem dX7_objects_60 : decode cX7_objects 60 = .ok (.ireturn, 1) := by decide +kernel
theorem dX7_objects_61 : decode cX7_objects 61 = .ok (.aload_n 0, 1) := by decide +kernel
theorem dX7_objects_62 : decode cX7_objects 62 = .ok (.invokevirtual 54, 3) := by decide +kernel
theorem dX7_objects_65 : decode cX7_objects 65 = .ok (.ireturn, 1) := by decide +kernel
theorem dX7_objects_66 : decode cX7_objects 66 = .ok (.aload_n 0, 1) := by decide +kernel
theorem dX7_objects_67 : decode cX7_objects 67 = .ok (.iconst 5, 1) := by decide +kernel
theorem dX7_objects_68 : decode cX7_objects 68 = .ok (.iload_n 1, 1) := by decide +kernel
theorem dX7_objects_69 : decode cX7_objects 69 = .ok (.iconst 3, 1) := by decide +kernel
theorem dX7_objects_70 : decode cX7_objects 70 = .ok (.isub, 1) := by decide +kernel
theorem dX7_objects_71 : decode cX7_objects 71 = .ok (.invokevirtual 126, 3) := by decide +kernel
theorem dX7_objects_74 : decode cX7_objects 74 = .ok (.ireturn, 1) := by decide +kernel
theorem dX7_objects_75 : decode cX7_objects 75 = .ok (.aload_n 0, 1) := by decide +kernel
theorem dX7_objects_76 : decode cX7_objects 76 = .ok (.iconst 4, 1) := by decide +kernel
theorem dX7_objects_77 : decode cX7_objects 77 = .ok (.iconst 1, 1) := by decide +kernel
theorem dX7_objects_78 : decode cX7_objects 78 = .ok (.invokevirtual 126, 3) := by decide +kernel
theorem dX7_objects_81 : decode cX7_objects 81 = .ok (.ireturn, 1) := by decide +kernel
theorem dX7_objects_82 : decode cX7_objects 82 = .ok (.aload_n 0, 1) := by decide +kernel
theorem dX7_objects_83 : decode cX7_objects 83 = .ok (.getfield 7, 3) := by decide +kernel
theorem dX7_objects_86 : decode cX7_objects 86 = .ok (.sipush 233, 3) := by decide +kernel
theorem dX7_objects_89 : decode cX7_objects 89 = .ok (.iaload, 1) := by decide +kernel
theorem dX7_objects_90 : decode cX7_objects 90 = .ok (.ireturn, 1) := by decide +kernel
theorem dX7_objects_91 : decode cX7_objects 91 = .ok (.bipush (-11), 2) := by decide +kernel
theorem dX7_objects_93 : decode cX7_objects 93 = .ok (.ireturn, 1) := by decide +kernel
theorem dX7_play_0 : decode cX7_play 0 = .ok (.aload_n 0, 1) := by decide +kernel
theorem dX7_play_1 : decode cX7_play 1 = .ok (.getfield 7, 3) := by decide +kernel
theorem dX7_play_4 : decode cX7_play 4 = .ok (.aload_n 0, 1) := by decide +kernel
theorem dX7_play_5 : decode cX7_play 5 = .ok (.getfield 16, 3) := by decide +kernel
theorem dX7_play_8 : decode cX7_play 8 = .ok (.invokestatic 138, 3) := by decide +kernel
theorem dX7_play_11 : decode cX7_play 11 = .ok (.aload_n 0, 1) := by decide +kernel
theorem dX7_play_12 : decode cX7_play 12 = .ok (.invokevirtual 192, 3) := by decide +kernel
theorem dX7_play_15 : decode cX7_play 15 = .ok (.istore_n 1, 1) := by decide +kernel
theorem dX7_play_16 : decode cX7_play 16 = .ok (.aload_n 0, 1) := by decide +kernel
theorem dX7_play_17 : decode cX7_play 17 = .ok (.getfield 16, 3) := by decide +kernel
theorem dX7_play_20 : decode cX7_play 20 = .ok (.aload_n 0, 1) := by decide +kernel
theorem dX7_play_21 : decode cX7_play 21 = .ok (.getfield 7, 3) := by decide +kernel
theorem dX7_play_24 : decode cX7_play 24 = .ok (.invokestatic 138, 3) := by decide +kernel
theorem dX7_play_27 : decode cX7_play 27 = .ok (.iload_n 1, 1) := by decide +kernel
theorem dX7_play_28 : decode cX7_play 28 = .ok (.bipush (-14), 2) := by decide +kernel
theorem dX7_play_30 : decode cX7_play 30 = .ok (.if_icmp .eq 6, 3) := by decide +kernel
theorem dX7_play_33 : decode cX7_play 33 = .ok (.bipush (-12), 2) := by decide +kernel
theorem dX7_play_35 : decode cX7_play 35 = .ok (.ireturn, 1) := by decide +kernel
theorem dX7_play_36 : decode cX7_play 36 = .ok (.aload_n 0, 1) := by decide +kernel
theorem dX7_play_37 : decode cX7_play 37 = .ok (.invokevirtual 81, 3) := by decide +kernel
theorem dX7_play_40 : decode cX7_play 40 = .ok (.aload_n 0, 1) := by decide +kernel
theorem dX7_play_41 : decode cX7_play 41 = .ok (.invokevirtual 192, 3) := by decide +kernel
theorem dX7_play_44 : decode cX7_play 44 = .ok (.bipush (-14), 2) := by decide +kernel
theorem dX7_play_46 : decode cX7_play 46 = .ok (.if_icmp .ne 10, 3) := by decide +kernel
theorem dX7_play_49 : decode cX7_play 49 = .ok (.aload_n 0, 1) := by decide +kernel
theorem dX7_play_50 : decode cX7_play 50 = .ok (.getfield 180, 3) := by decide +kernel
theorem dX7_play_53 : decode cX7_play 53 = .ok (.goto 5, 3) := by decide +kernel
theorem dX7_play_56 : decode cX7_play 56 = .ok (.bipush (-14), 2) := by decide +kernel
theorem dX7_play_58 : decode cX7_play 58 = .ok (.ireturn, 1) := by decide +kernel
theorem dX7_refers_0 : decode cX7_refers 0 = .ok (.iload_n 1, 1) := by decide +kernel
theorem dX7_refers_1 : decode cX7_refers 1 = .ok (.iconst 0, 1) := by decide +kernel
theorem dX7_refers_2 : decode cX7_refers 2 = .ok (.iconst 1, 1) := by decide +kernel
theorem dX7_refers_3 : decode cX7_refers 3 = .ok (.invokestatic 39, 3) := by decide +kernel
theorem dX7_refers_6 : decode cX7_refers 6 = .ok (.ifCond .eq 10, 3) := by decide +kernel
theorem dX7_refers_9 : decode cX7_refers 9 = .ok (.iload_n 2, 1) := by decide +kernel
theorem dX7_refers_10 : decode cX7_refers 10 = .ok (.invokestatic 74, 3) := by decide +kernel
theorem dX7_refers_13 : decode cX7_refers 13 = .ok (.ifCond .ne 6, 3) := by decide +kernel
theorem dX7_refers_16 : decode cX7_refers 16 = .ok (.bipush (-11), 2) := by decide +kernel
theorem dX7_refers_18 : decode cX7_refers 18 = .ok (.ireturn, 1) := by decide +kernel
theorem dX7_refers_19 : decode cX7_refers 19 = .ok (.aload_n 0, 1) := by decide +kernel
theorem dX7_refers_20 : decode cX7_refers 20 = .ok (.getfield 7, 3) := by decide +kernel
theorem dX7_refers_23 : decode cX7_refers 23 = .ok (.iload_n 1, 1) := by decide +kernel
theorem dX7_refers_24 : decode cX7_refers 24 = .ok (.ifCond .ne 9, 3) := by decide +kernel
theorem dX7_refers_27 : decode cX7_refers 27 = .ok (.sipush 218, 3) := by decide +kernel
theorem dX7_refers_30 : decode cX7_refers 30 = .ok (.goto 6, 3) := by decide +kernel
theorem dX7_refers_33 : decode cX7_refers 33 = .ok (.sipush 222, 3) := by decide +kernel
theorem dX7_refers_36 : decode cX7_refers 36 = .ok (.iload_n 2, 1) := by decide +kernel
theorem dX7_refers_37 : decode cX7_refers 37 = .ok (.iadd, 1) := by decide +kernel
theorem dX7_refers_38 : decode cX7_refers 38 = .ok (.iaload, 1) := by decide +kernel
theorem dX7_refers_39 : decode cX7_refers 39 = .ok (.istore_n 3, 1) := by decide +kernel
theorem dX7_refers_40 : decode cX7_refers 40 = .ok (.iload_n 3, 1) := by decide +kernel
theorem dX7_refers_41 : decode cX7_refers 41 = .ok (.ifCond .ge 8, 3) := by decide +kernel
theorem dX7_refers_44 : decode cX7_refers 44 = .ok (.bipush (-14), 2) := by decide +kernel
theorem dX7_refers_46 : decode cX7_refers 46 = .ok (.goto 4, 3) := by decide +kernel
theorem dX7_refers_49 : decode cX7_refers 49 = .ok (.iload_n 3, 1) := by decide +kernel
theorem dX7_refers_50 : decode cX7_refers 50 = .ok (.ireturn, 1) := by decide +kernel
theorem dX7_restore_0 : decode cX7_restore 0 = .ok (.aload_n 0, 1) := by decide +kernel
theorem dX7_restore_1 : decode cX7_restore 1 = .ok (.getfield 135, 3) := by decide +kernel
theorem dX7_restore_4 : decode cX7_restore 4 = .ok (.ifCond .ne 6, 3) := by decide +kernel
theorem dX7_restore_7 : decode cX7_restore 7 = .ok (.bipush (-12), 2) := by decide +kernel
theorem dX7_restore_9 : decode cX7_restore 9 = .ok (.ireturn, 1) := by decide +kernel
theorem dX7_restore_10 : decode cX7_restore 10 = .ok (.aload_n 0, 1) := by decide +kernel
theorem dX7_restore_11 : decode cX7_restore 11 = .ok (.invokevirtual 81, 3) := by decide +kernel
theorem dX7_restore_14 : decode cX7_restore 14 = .ok (.aload_n 0, 1) := by decide +kernel
theorem dX7_restore_15 : decode cX7_restore 15 = .ok (.getfield 22, 3) := by decide +kernel
theorem dX7_restore_18 : decode cX7_restore 18 = .ok (.aload_n 0, 1) := by decide +kernel
theorem dX7_restore_19 : decode cX7_restore 19 = .ok (.getfield 7, 3) := by decide +kernel
theorem dX7_restore_22 : decode cX7_restore 22 = .ok (.invokestatic 138, 3) := by decide +kernel
theorem dX7_restore_25 : decode cX7_restore 25 = .ok (.aload_n 0, 1) := by decide +kernel
theorem dX7_restore_26 : decode cX7_restore 26 = .ok (.iconst 0, 1) := by decide +kernel
theorem dX7_restore_27 : decode cX7_restore 27 = .ok (.invokevirtual 142, 3) := by decide +kernel
theorem dX7_restore_30 : decode cX7_restore 30 = .ok (.ireturn, 1) := by decide +kernel
theorem dX7_set_0 : decode cX7_set 0 = .ok (.iload_n 1, 1) := by decide +kernel
theorem dX7_set_1 : decode cX7_set 1 = .ok (.iconst 1, 1) := by decide +kernel
theorem dX7_set_2 : decode cX7_set 2 = .ok (.iconst 2, 1) := by decide +kernel
theorem dX7_set_3 : decode cX7_set 3 = .ok (.invokestatic 39, 3) := by decide +kernel
theorem dX7_set_6 : decode cX7_set 6 = .ok (.ifCond .ne 6, 3) := by decide +kernel
theorem dX7_set_9 : decode cX7_set 9 = .ok (.bipush (-11), 2) := by decide +kernel
theorem dX7_set_11 : decode cX7_set 11 = .ok (.ireturn, 1) := by decide +kernel
theorem dX7_set_12 : decode cX7_set 12 = .ok (.aload_n 0, 1) := by decide +kernel
theorem dX7_set_13 : decode cX7_set 13 = .ok (.getfield 7, 3) := by decide +kernel
theorem dX7_set_16 : decode cX7_set 16 = .ok (.sipush 226, 3) := by decide +kernel
theorem dX7_set_19 : decode cX7_set 19 = .ok (.iaload, 1) := by decide +kernel
theorem dX7_set_20 : decode cX7_set 20 = .ok (.ifCond .le 6, 3) := by decide +kernel
theorem dX7_set_23 : decode cX7_set 23 = .ok (.bipush (-12), 2) := by decide +kernel
theorem dX7_set_25 : decode cX7_set 25 = .ok (.ireturn, 1) := by decide +kernel
theorem dX7_set_26 : decode cX7_set 26 = .ok (.aload_n 0, 1) := by decide +kernel
theorem dX7_set_27 : decode cX7_set 27 = .ok (.invokevirtual 81, 3) := by decide +kernel
theorem dX7_set_30 : decode cX7_set 30 = .ok (.aload_n 0, 1) := by decide +kernel
theorem dX7_set_31 : decode cX7_set 31 = .ok (.getfield 7, 3) := by decide +kernel
theorem dX7_set_34 : decode cX7_set 34 = .ok (.sipush 234, 3) := by decide +kernel
theorem dX7_set_37 : decode cX7_set 37 = .ok (.iaload, 1) := by decide +kernel
theorem dX7_set_38 : decode cX7_set 38 = .ok (.istore_n 2, 1) := by decide +kernel
theorem dX7_set_39 : decode cX7_set 39 = .ok (.aload_n 0, 1) := by decide +kernel
theorem dX7_set_40 : decode cX7_set 40 = .ok (.getfield 7, 3) := by decide +kernel
theorem dX7_set_43 : decode cX7_set 43 = .ok (.sipush 234, 3) := by decide +kernel
theorem dX7_set_46 : decode cX7_set 46 = .ok (.iload_n 1, 1) := by decide +kernel
theorem dX7_set_47 : decode cX7_set 47 = .ok (.iastore, 1) := by decide +kernel
theorem dX7_set_48 : decode cX7_set 48 = .ok (.iload_n 2, 1) := by decide +kernel
theorem dX7_set_49 : decode cX7_set 49 = .ok (.ireturn, 1) := by decide +kernel
theorem dX7_type_0 : decode cX7_type 0 = .ok (.iload_n 1, 1) := by decide +kernel
theorem dX7_type_1 : decode cX7_type 1 = .ok (.bipush 32, 2) := by decide +kernel
theorem dX7_type_3 : decode cX7_type 3 = .ok (.bipush 126, 2) := by decide +kernel
theorem dX7_type_5 : decode cX7_type 5 = .ok (.invokestatic 39, 3) := by decide +kernel
theorem dX7_type_8 : decode cX7_type 8 = .ok (.ifCond .ne 6, 3) := by decide +kernel
theorem dX7_type_11 : decode cX7_type 11 = .ok (.bipush (-11), 2) := by decide +kernel
theorem dX7_type_13 : decode cX7_type 13 = .ok (.ireturn, 1) := by decide +kernel
theorem dX7_type_14 : decode cX7_type 14 = .ok (.aload_n 0, 1) := by decide +kernel
theorem dX7_type_15 : decode cX7_type 15 = .ok (.getfield 132, 3) := by decide +kernel
theorem dX7_type_18 : decode cX7_type 18 = .ok (.bipush 60, 2) := by decide +kernel
theorem dX7_type_20 : decode cX7_type 20 = .ok (.if_icmp .ne 6, 3) := by decide +kernel
theorem dX7_type_23 : decode cX7_type 23 = .ok (.bipush (-13), 2) := by decide +kernel
theorem dX7_type_25 : decode cX7_type 25 = .ok (.ireturn, 1) := by decide +kernel
theorem dX7_type_26 : decode cX7_type 26 = .ok (.aload_n 0, 1) := by decide +kernel
theorem dX7_type_27 : decode cX7_type 27 = .ok (.getfield 25, 3) := by decide +kernel
theorem dX7_type_30 : decode cX7_type 30 = .ok (.aload_n 0, 1) := by decide +kernel
theorem dX7_type_31 : decode cX7_type 31 = .ok (.getfield 132, 3) := by decide +kernel
theorem dX7_type_34 : decode cX7_type 34 = .ok (.iload_n 1, 1) := by decide +kernel
theorem dX7_type_35 : decode cX7_type 35 = .ok (.iastore, 1) := by decide +kernel
theorem dX7_type_36 : decode cX7_type 36 = .ok (.aload_n 0, 1) := by decide +kernel
theorem dX7_type_37 : decode cX7_type 37 = .ok (.dup, 1) := by decide +kernel
theorem dX7_type_38 : decode cX7_type 38 = .ok (.getfield 132, 3) := by decide +kernel
theorem dX7_type_41 : decode cX7_type 41 = .ok (.iconst 1, 1) := by decide +kernel
theorem dX7_type_42 : decode cX7_type 42 = .ok (.iadd, 1) := by decide +kernel
theorem dX7_type_43 : decode cX7_type 43 = .ok (.putfield 132, 3) := by decide +kernel
theorem dX7_type_46 : decode cX7_type 46 = .ok (.aload_n 0, 1) := by decide +kernel
theorem dX7_type_47 : decode cX7_type 47 = .ok (.getfield 132, 3) := by decide +kernel
theorem dX7_type_50 : decode cX7_type 50 = .ok (.ireturn, 1) := by decide +kernel
theorem dX7_undo_0 : decode cX7_undo 0 = .ok (.aload_n 0, 1) := by decide +kernel
theorem dX7_undo_1 : decode cX7_undo 1 = .ok (.getfield 35, 3) := by decide +kernel
theorem dX7_undo_4 : decode cX7_undo 4 = .ok (.ifCond .ne 6, 3) := by decide +kernel
theorem dX7_undo_7 : decode cX7_undo 7 = .ok (.bipush (-12), 2) := by decide +kernel
theorem dX7_undo_9 : decode cX7_undo 9 = .ok (.ireturn, 1) := by decide +kernel
theorem dX7_undo_10 : decode cX7_undo 10 = .ok (.aload_n 0, 1) := by decide +kernel
theorem dX7_undo_11 : decode cX7_undo 11 = .ok (.dup, 1) := by decide +kernel
theorem dX7_undo_12 : decode cX7_undo 12 = .ok (.getfield 35, 3) := by decide +kernel
theorem dX7_undo_15 : decode cX7_undo 15 = .ok (.iconst 1, 1) := by decide +kernel
theorem dX7_undo_16 : decode cX7_undo 16 = .ok (.isub, 1) := by decide +kernel
theorem dX7_undo_17 : decode cX7_undo 17 = .ok (.putfield 35, 3) := by decide +kernel
theorem dX7_undo_20 : decode cX7_undo 20 = .ok (.iconst 0, 1) := by decide +kernel
theorem dX7_undo_21 : decode cX7_undo 21 = .ok (.istore_n 1, 1) := by decide +kernel
theorem dX7_undo_22 : decode cX7_undo 22 = .ok (.iload_n 1, 1) := by decide +kernel
theorem dX7_undo_23 : decode cX7_undo 23 = .ok (.sipush 235, 3) := by decide +kernel
theorem dX7_undo_26 : decode cX7_undo 26 = .ok (.if_icmp .ge 30, 3) := by decide +kernel
theorem dX7_undo_29 : decode cX7_undo 29 = .ok (.aload_n 0, 1) := by decide +kernel
theorem dX7_undo_30 : decode cX7_undo 30 = .ok (.getfield 7, 3) := by decide +kernel
theorem dX7_undo_33 : decode cX7_undo 33 = .ok (.iload_n 1, 1) := by decide +kernel
theorem dX7_undo_34 : decode cX7_undo 34 = .ok (.aload_n 0, 1) := by decide +kernel
theorem dX7_undo_35 : decode cX7_undo 35 = .ok (.getfield 13, 3) := by decide +kernel
theorem dX7_undo_38 : decode cX7_undo 38 = .ok (.sipush 235, 3) := by decide +kernel
theorem dX7_undo_41 : decode cX7_undo 41 = .ok (.aload_n 0, 1) := by decide +kernel
theorem dX7_undo_42 : decode cX7_undo 42 = .ok (.getfield 35, 3) := by decide +kernel
theorem dX7_undo_45 : decode cX7_undo 45 = .ok (.imul, 1) := by decide +kernel
theorem dX7_undo_46 : decode cX7_undo 46 = .ok (.iload_n 1, 1) := by decide +kernel
theorem dX7_undo_47 : decode cX7_undo 47 = .ok (.iadd, 1) := by decide +kernel
theorem dX7_undo_48 : decode cX7_undo 48 = .ok (.iaload, 1) := by decide +kernel
theorem dX7_undo_49 : decode cX7_undo 49 = .ok (.iastore, 1) := by decide +kernel
theorem dX7_undo_50 : decode cX7_undo 50 = .ok (.iinc 1 1, 3) := by decide +kernel
theorem dX7_undo_53 : decode cX7_undo 53 = .ok (.goto (-31), 3) := by decide +kernel
theorem dX7_undo_56 : decode cX7_undo 56 = .ok (.aload_n 0, 1) := by decide +kernel
theorem dX7_undo_57 : decode cX7_undo 57 = .ok (.getfield 35, 3) := by decide +kernel
theorem dX7_undo_60 : decode cX7_undo 60 = .ok (.ireturn, 1) := by decide +kernel
theorem dX7_wanting_0 : decode cX7_wanting 0 = .ok (.iconst 0, 1) := by decide +kernel
theorem dX7_wanting_1 : decode cX7_wanting 1 = .ok (.istore_n 1, 1) := by decide +kernel
theorem dX7_wanting_2 : decode cX7_wanting 2 = .ok (.iconst 0, 1) := by decide +kernel
theorem dX7_wanting_3 : decode cX7_wanting 3 = .ok (.istore_n 2, 1) := by decide +kernel
theorem dX7_wanting_4 : decode cX7_wanting 4 = .ok (.iload_n 2, 1) := by decide +kernel
theorem dX7_wanting_5 : decode cX7_wanting 5 = .ok (.bipush 24, 2) := by decide +kernel
theorem dX7_wanting_7 : decode cX7_wanting 7 = .ok (.if_icmp .ge 32, 3) := by decide +kernel
theorem dX7_wanting_10 : decode cX7_wanting 10 = .ok (.iload_n 1, 1) := by decide +kernel
theorem dX7_wanting_11 : decode cX7_wanting 11 = .ok (.aload_n 0, 1) := by decide +kernel
theorem dX7_wanting_12 : decode cX7_wanting 12 = .ok (.iload_n 2, 1) := by decide +kernel
theorem dX7_wanting_13 : decode cX7_wanting 13 = .ok (.iconst 0, 1) := by decide +kernel
theorem dX7_wanting_14 : decode cX7_wanting 14 = .ok (.invokevirtual 43, 3) := by decide +kernel
theorem dX7_wanting_17 : decode cX7_wanting 17 = .ok (.iconst 1, 1) := by decide +kernel
theorem dX7_wanting_18 : decode cX7_wanting 18 = .ok (.if_icmp .ne 12, 3) := by decide +kernel
theorem dX7_wanting_21 : decode cX7_wanting 21 = .ok (.aload_n 0, 1) := by decide +kernel
theorem dX7_wanting_22 : decode cX7_wanting 22 = .ok (.iload_n 2, 1) := by decide +kernel
theorem dX7_wanting_23 : decode cX7_wanting 23 = .ok (.iconst 4, 1) := by decide +kernel
theorem dX7_wanting_24 : decode cX7_wanting 24 = .ok (.invokevirtual 43, 3) := by decide +kernel
theorem dX7_wanting_27 : decode cX7_wanting 27 = .ok (.goto 4, 3) := by decide +kernel
theorem dX7_wanting_30 : decode cX7_wanting 30 = .ok (.iconst 0, 1) := by decide +kernel
theorem dX7_wanting_31 : decode cX7_wanting 31 = .ok (.iadd, 1) := by decide +kernel
theorem dX7_wanting_32 : decode cX7_wanting 32 = .ok (.istore_n 1, 1) := by decide +kernel
theorem dX7_wanting_33 : decode cX7_wanting 33 = .ok (.iinc 2 1, 3) := by decide +kernel
theorem dX7_wanting_36 : decode cX7_wanting 36 = .ok (.goto (-32), 3) := by decide +kernel
theorem dX7_wanting_39 : decode cX7_wanting 39 = .ok (.iload_n 1, 1) := by decide +kernel
theorem dX7_wanting_40 : decode cX7_wanting 40 = .ok (.ireturn, 1) := by decide +kernel
theorem dX7_want_0 : decode cX7_want 0 = .ok (.aload_n 0, 1) := by decide +kernel
theorem dX7_want_1 : decode cX7_want 1 = .ok (.iload_n 1, 1) := by decide +kernel
theorem dX7_want_2 : decode cX7_want 2 = .ok (.invokevirtual 87, 3) := by decide +kernel
theorem dX7_want_5 : decode cX7_want 5 = .ok (.ifCond .ne 6, 3) := by decide +kernel
theorem dX7_want_8 : decode cX7_want 8 = .ok (.bipush (-11), 2) := by decide +kernel
theorem dX7_want_10 : decode cX7_want 10 = .ok (.ireturn, 1) := by decide +kernel
theorem dX7_want_11 : decode cX7_want 11 = .ok (.aload_n 0, 1) := by decide +kernel
theorem dX7_want_12 : decode cX7_want 12 = .ok (.iload_n 1, 1) := by decide +kernel
theorem dX7_want_13 : decode cX7_want 13 = .ok (.invokevirtual 90, 3) := by decide +kernel
theorem dX7_want_16 : decode cX7_want 16 = .ok (.ifCond .eq 13, 3) := by decide +kernel
theorem dX7_want_19 : decode cX7_want 19 = .ok (.aload_n 0, 1) := by decide +kernel
theorem dX7_want_20 : decode cX7_want 20 = .ok (.iload_n 1, 1) := by decide +kernel
theorem dX7_want_21 : decode cX7_want 21 = .ok (.iconst 4, 1) := by decide +kernel
theorem dX7_want_22 : decode cX7_want 22 = .ok (.invokevirtual 43, 3) := by decide +kernel
theorem dX7_want_25 : decode cX7_want 25 = .ok (.iconst 1, 1) := by decide +kernel
theorem dX7_want_26 : decode cX7_want 26 = .ok (.if_icmp .ne 6, 3) := by decide +kernel
theorem dX7_want_29 : decode cX7_want 29 = .ok (.bipush (-12), 2) := by decide +kernel
theorem dX7_want_31 : decode cX7_want 31 = .ok (.ireturn, 1) := by decide +kernel
theorem dX7_want_32 : decode cX7_want 32 = .ok (.aload_n 0, 1) := by decide +kernel
theorem dX7_want_33 : decode cX7_want 33 = .ok (.invokevirtual 81, 3) := by decide +kernel
theorem dX7_want_36 : decode cX7_want 36 = .ok (.aload_n 0, 1) := by decide +kernel
theorem dX7_want_37 : decode cX7_want 37 = .ok (.iload_n 1, 1) := by decide +kernel
theorem dX7_want_38 : decode cX7_want 38 = .ok (.iconst 4, 1) := by decide +kernel
theorem dX7_want_39 : decode cX7_want 39 = .ok (.iconst 1, 1) := by decide +kernel
theorem dX7_want_40 : decode cX7_want 40 = .ok (.invokevirtual 58, 3) := by decide +kernel
theorem dX7_want_43 : decode cX7_want 43 = .ok (.aload_n 0, 1) := by decide +kernel
theorem dX7_want_44 : decode cX7_want 44 = .ok (.invokevirtual 93, 3) := by decide +kernel
theorem dX7_want_47 : decode cX7_want 47 = .ok (.ireturn, 1) := by decide +kernel
theorem dX7_weak_0 : decode cX7_weak 0 = .ok (.iload_n 1, 1) := by decide +kernel
theorem dX7_weak_1 : decode cX7_weak 1 = .ok (.invokestatic 74, 3) := by decide +kernel
theorem dX7_weak_4 : decode cX7_weak 4 = .ok (.ifCond .eq 16, 3) := by decide +kernel
theorem dX7_weak_7 : decode cX7_weak 7 = .ok (.iload_n 2, 1) := by decide +kernel
theorem dX7_weak_8 : decode cX7_weak 8 = .ok (.iconst (-1), 1) := by decide +kernel
theorem dX7_weak_9 : decode cX7_weak 9 = .ok (.if_icmp .eq 14, 3) := by decide +kernel
theorem dX7_weak_12 : decode cX7_weak 12 = .ok (.aload_n 0, 1) := by decide +kernel
theorem dX7_weak_13 : decode cX7_weak 13 = .ok (.iload_n 2, 1) := by decide +kernel
theorem dX7_weak_14 : decode cX7_weak 14 = .ok (.invokevirtual 87, 3) := by decide +kernel
theorem dX7_weak_17 : decode cX7_weak 17 = .ok (.ifCond .ne 6, 3) := by decide +kernel
theorem dX7_weak_20 : decode cX7_weak 20 = .ok (.bipush (-11), 2) := by decide +kernel
theorem dX7_weak_22 : decode cX7_weak 22 = .ok (.ireturn, 1) := by decide +kernel
theorem dX7_weak_23 : decode cX7_weak 23 = .ok (.iload_n 2, 1) := by decide +kernel
theorem dX7_weak_24 : decode cX7_weak 24 = .ok (.ifCond .lt 14, 3) := by decide +kernel
theorem dX7_weak_27 : decode cX7_weak 27 = .ok (.aload_n 0, 1) := by decide +kernel
theorem dX7_weak_28 : decode cX7_weak 28 = .ok (.iload_n 2, 1) := by decide +kernel
theorem dX7_weak_29 : decode cX7_weak 29 = .ok (.invokevirtual 90, 3) := by decide +kernel
theorem dX7_weak_32 : decode cX7_weak 32 = .ok (.ifCond .ne 6, 3) := by decide +kernel
theorem dX7_weak_35 : decode cX7_weak 35 = .ok (.bipush (-12), 2) := by decide +kernel
theorem dX7_weak_37 : decode cX7_weak 37 = .ok (.ireturn, 1) := by decide +kernel
theorem dX7_weak_38 : decode cX7_weak 38 = .ok (.aload_n 0, 1) := by decide +kernel
theorem dX7_weak_39 : decode cX7_weak 39 = .ok (.invokevirtual 81, 3) := by decide +kernel
theorem dX7_weak_42 : decode cX7_weak 42 = .ok (.aload_n 0, 1) := by decide +kernel
theorem dX7_weak_43 : decode cX7_weak 43 = .ok (.getfield 7, 3) := by decide +kernel
theorem dX7_weak_46 : decode cX7_weak 46 = .ok (.sipush 222, 3) := by decide +kernel
theorem dX7_weak_49 : decode cX7_weak 49 = .ok (.iload_n 1, 1) := by decide +kernel
theorem dX7_weak_50 : decode cX7_weak 50 = .ok (.iadd, 1) := by decide +kernel
theorem dX7_weak_51 : decode cX7_weak 51 = .ok (.iaload, 1) := by decide +kernel
theorem dX7_weak_52 : decode cX7_weak 52 = .ok (.istore_n 3, 1) := by decide +kernel
theorem dX7_weak_53 : decode cX7_weak 53 = .ok (.aload_n 0, 1) := by decide +kernel
theorem dX7_weak_54 : decode cX7_weak 54 = .ok (.getfield 7, 3) := by decide +kernel
theorem dX7_weak_57 : decode cX7_weak 57 = .ok (.sipush 222, 3) := by decide +kernel
theorem dX7_weak_60 : decode cX7_weak 60 = .ok (.iload_n 1, 1) := by decide +kernel
theorem dX7_weak_61 : decode cX7_weak 61 = .ok (.iadd, 1) := by decide +kernel
theorem dX7_weak_62 : decode cX7_weak 62 = .ok (.iload_n 2, 1) := by decide +kernel
theorem dX7_weak_63 : decode cX7_weak 63 = .ok (.iastore, 1) := by decide +kernel
theorem dX7_weak_64 : decode cX7_weak 64 = .ok (.iload_n 3, 1) := by decide +kernel
theorem dX7_weak_65 : decode cX7_weak 65 = .ok (.ireturn, 1) := by decide +kernel
theorem dX7_wouldGo_0 : decode cX7_wouldGo 0 = .ok (.aload_n 0, 1) := by decide +kernel
theorem dX7_wouldGo_1 : decode cX7_wouldGo 1 = .ok (.getfield 7, 3) := by decide +kernel
theorem dX7_wouldGo_4 : decode cX7_wouldGo 4 = .ok (.aload_n 0, 1) := by decide +kernel
theorem dX7_wouldGo_5 : decode cX7_wouldGo 5 = .ok (.getfield 19, 3) := by decide +kernel
theorem dX7_wouldGo_8 : decode cX7_wouldGo 8 = .ok (.invokestatic 138, 3) := by decide +kernel
theorem dX7_wouldGo_11 : decode cX7_wouldGo 11 = .ok (.aload_n 0, 1) := by decide +kernel
theorem dX7_wouldGo_12 : decode cX7_wouldGo 12 = .ok (.iconst 0, 1) := by decide +kernel
theorem dX7_wouldGo_13 : decode cX7_wouldGo 13 = .ok (.iconst 1, 1) := by decide +kernel
theorem dX7_wouldGo_14 : decode cX7_wouldGo 14 = .ok (.invokevirtual 126, 3) := by decide +kernel
theorem dX7_wouldGo_17 : decode cX7_wouldGo 17 = .ok (.istore_n 1, 1) := by decide +kernel
theorem dX7_wouldGo_18 : decode cX7_wouldGo 18 = .ok (.aload_n 0, 1) := by decide +kernel
theorem dX7_wouldGo_19 : decode cX7_wouldGo 19 = .ok (.invokevirtual 120, 3) := by decide +kernel
theorem dX7_wouldGo_22 : decode cX7_wouldGo 22 = .ok (.istore_n 2, 1) := by decide +kernel
theorem dX7_wouldGo_23 : decode cX7_wouldGo 23 = .ok (.iload_n 1, 1) := by decide +kernel
theorem dX7_wouldGo_24 : decode cX7_wouldGo 24 = .ok (.aload_n 0, 1) := by decide +kernel
theorem dX7_wouldGo_25 : decode cX7_wouldGo 25 = .ok (.iconst 0, 1) := by decide +kernel
theorem dX7_wouldGo_26 : decode cX7_wouldGo 26 = .ok (.iconst 1, 1) := by decide +kernel
theorem dX7_wouldGo_27 : decode cX7_wouldGo 27 = .ok (.invokevirtual 126, 3) := by decide +kernel
theorem dX7_wouldGo_30 : decode cX7_wouldGo 30 = .ok (.iconst (-1), 1) := by decide +kernel
theorem dX7_wouldGo_31 : decode cX7_wouldGo 31 = .ok (.ixor, 1) := by decide +kernel
theorem dX7_wouldGo_32 : decode cX7_wouldGo 32 = .ok (.iand, 1) := by decide +kernel
theorem dX7_wouldGo_33 : decode cX7_wouldGo 33 = .ok (.istore_n 3, 1) := by decide +kernel
theorem dX7_wouldGo_34 : decode cX7_wouldGo 34 = .ok (.aload_n 0, 1) := by decide +kernel
theorem dX7_wouldGo_35 : decode cX7_wouldGo 35 = .ok (.getfield 19, 3) := by decide +kernel
theorem dX7_wouldGo_38 : decode cX7_wouldGo 38 = .ok (.aload_n 0, 1) := by decide +kernel
theorem dX7_wouldGo_39 : decode cX7_wouldGo 39 = .ok (.getfield 7, 3) := by decide +kernel
theorem dX7_wouldGo_42 : decode cX7_wouldGo 42 = .ok (.invokestatic 138, 3) := by decide +kernel
theorem dX7_wouldGo_45 : decode cX7_wouldGo 45 = .ok (.iload_n 2, 1) := by decide +kernel
theorem dX7_wouldGo_46 : decode cX7_wouldGo 46 = .ok (.ifCond .ge 8, 3) := by decide +kernel
theorem dX7_wouldGo_49 : decode cX7_wouldGo 49 = .ok (.bipush (-14), 2) := by decide +kernel
theorem dX7_wouldGo_51 : decode cX7_wouldGo 51 = .ok (.goto 4, 3) := by decide +kernel
theorem dX7_wouldGo_54 : decode cX7_wouldGo 54 = .ok (.iload_n 3, 1) := by decide +kernel
theorem dX7_wouldGo_55 : decode cX7_wouldGo 55 = .ok (.ireturn, 1) := by decide +kernel
