theorem dX6_bit_0 : decode cX6_bit 0 = .ok (.iload_n 0, 1) := by decide +kernel
theorem dX6_bit_1 : decode cX6_bit 1 = .ok (.ifCond .lt 15, 3) := by decide +kernel
theorem dX6_bit_4 : decode cX6_bit 4 = .ok (.iload_n 0, 1) := by decide +kernel
theorem dX6_bit_5 : decode cX6_bit 5 = .ok (.bipush 24, 2) := by decide +kernel
theorem dX6_bit_7 : decode cX6_bit 7 = .ok (.if_icmp .ge 9, 3) := by decide +kernel
theorem dX6_bit_10 : decode cX6_bit 10 = .ok (.iconst 1, 1) := by decide +kernel
theorem dX6_bit_11 : decode cX6_bit 11 = .ok (.iload_n 0, 1) := by decide +kernel
theorem dX6_bit_12 : decode cX6_bit 12 = .ok (.ishl, 1) := by decide +kernel
theorem dX6_bit_13 : decode cX6_bit 13 = .ok (.goto 4, 3) := by decide +kernel
theorem dX6_bit_16 : decode cX6_bit 16 = .ok (.iconst 0, 1) := by decide +kernel
theorem dX6_bit_17 : decode cX6_bit 17 = .ok (.ireturn, 1) := by decide +kernel
theorem dX6_isIn_0 : decode cX6_isIn 0 = .ok (.iload_n 0, 1) := by decide +kernel
theorem dX6_isIn_1 : decode cX6_isIn 1 = .ok (.ifCond .lt 12, 3) := by decide +kernel
theorem dX6_isIn_4 : decode cX6_isIn 4 = .ok (.iload_n 0, 1) := by decide +kernel
theorem dX6_isIn_5 : decode cX6_isIn 5 = .ok (.iload_n 1, 1) := by decide +kernel
theorem dX6_isIn_6 : decode cX6_isIn 6 = .ok (.if_icmp .ge 7, 3) := by decide +kernel
theorem dX6_isIn_9 : decode cX6_isIn 9 = .ok (.iconst 1, 1) := by decide +kernel
theorem dX6_isIn_10 : decode cX6_isIn 10 = .ok (.goto 4, 3) := by decide +kernel
theorem dX6_isIn_13 : decode cX6_isIn 13 = .ok (.iconst 0, 1) := by decide +kernel
theorem dX6_isIn_14 : decode cX6_isIn 14 = .ok (.ireturn, 1) := by decide +kernel
theorem dX6_isError_0 : decode cX6_isError 0 = .ok (.iload_n 0, 1) := by decide +kernel
theorem dX6_isError_1 : decode cX6_isError 1 = .ok (.bipush (-11), 2) := by decide +kernel
theorem dX6_isError_3 : decode cX6_isError 3 = .ok (.if_icmp .gt 7, 3) := by decide +kernel
theorem dX6_isError_6 : decode cX6_isError 6 = .ok (.iconst 1, 1) := by decide +kernel
theorem dX6_isError_7 : decode cX6_isError 7 = .ok (.goto 4, 3) := by decide +kernel
theorem dX6_isError_10 : decode cX6_isError 10 = .ok (.iconst 0, 1) := by decide +kernel
theorem dX6_isError_11 : decode cX6_isError 11 = .ok (.ireturn, 1) := by decide +kernel
theorem dX6_lowestOf_0 : decode cX6_lowestOf 0 = .ok (.iload_n 1, 1) := by decide +kernel
theorem dX6_lowestOf_1 : decode cX6_lowestOf 1 = .ok (.iconst 0, 1) := by decide +kernel
theorem dX6_lowestOf_2 : decode cX6_lowestOf 2 = .ok (.invokestatic 181, 3) := by decide +kernel
theorem dX6_lowestOf_5 : decode cX6_lowestOf 5 = .ok (.istore_n 2, 1) := by decide +kernel
theorem dX6_lowestOf_6 : decode cX6_lowestOf 6 = .ok (.iload_n 2, 1) := by decide +kernel
theorem dX6_lowestOf_7 : decode cX6_lowestOf 7 = .ok (.bipush 24, 2) := by decide +kernel
theorem dX6_lowestOf_9 : decode cX6_lowestOf 9 = .ok (.if_icmp .ge 20, 3) := by decide +kernel
theorem dX6_lowestOf_12 : decode cX6_lowestOf 12 = .ok (.iload_n 0, 1) := by decide +kernel
theorem dX6_lowestOf_13 : decode cX6_lowestOf 13 = .ok (.iload_n 2, 1) := by decide +kernel
theorem dX6_lowestOf_14 : decode cX6_lowestOf 14 = .ok (.invokestatic 134, 3) := by decide +kernel
theorem dX6_lowestOf_17 : decode cX6_lowestOf 17 = .ok (.iand, 1) := by decide +kernel
theorem dX6_lowestOf_18 : decode cX6_lowestOf 18 = .ok (.ifCond .eq 5, 3) := by decide +kernel
theorem dX6_lowestOf_21 : decode cX6_lowestOf 21 = .ok (.iload_n 2, 1) := by decide +kernel
theorem dX6_lowestOf_22 : decode cX6_lowestOf 22 = .ok (.ireturn, 1) := by decide +kernel
theorem dX6_lowestOf_23 : decode cX6_lowestOf 23 = .ok (.iinc 2 1, 3) := by decide +kernel
theorem dX6_lowestOf_26 : decode cX6_lowestOf 26 = .ok (.goto (-20), 3) := by decide +kernel
theorem dX6_lowestOf_29 : decode cX6_lowestOf 29 = .ok (.iconst (-1), 1) := by decide +kernel
theorem dX6_lowestOf_30 : decode cX6_lowestOf 30 = .ok (.ireturn, 1) := by decide +kernel
theorem dJ6_bitCount_0f7a4_0 : decode cJ6_bitCount_0f7a4 0 = .ok (.iload_n 0, 1) := by decide +kernel
theorem dJ6_bitCount_0f7a4_1 : decode cJ6_bitCount_0f7a4 1 = .ok (.iload_n 0, 1) := by decide +kernel
theorem dJ6_bitCount_0f7a4_2 : decode cJ6_bitCount_0f7a4 2 = .ok (.iconst 1, 1) := by decide +kernel
theorem dJ6_bitCount_0f7a4_3 : decode cJ6_bitCount_0f7a4 3 = .ok (.iushr, 1) := by decide +kernel
theorem dJ6_bitCount_0f7a4_4 : decode cJ6_bitCount_0f7a4 4 = .ok (.ldc_w 265, 3) := by decide +kernel
theorem dJ6_bitCount_0f7a4_7 : decode cJ6_bitCount_0f7a4 7 = .ok (.iand, 1) := by decide +kernel
theorem dJ6_bitCount_0f7a4_8 : decode cJ6_bitCount_0f7a4 8 = .ok (.isub, 1) := by decide +kernel
theorem dJ6_bitCount_0f7a4_9 : decode cJ6_bitCount_0f7a4 9 = .ok (.istore_n 0, 1) := by decide +kernel
theorem dJ6_bitCount_0f7a4_10 : decode cJ6_bitCount_0f7a4 10 = .ok (.iload_n 0, 1) := by decide +kernel
theorem dJ6_bitCount_0f7a4_11 : decode cJ6_bitCount_0f7a4 11 = .ok (.ldc_w 266, 3) := by decide +kernel
theorem dJ6_bitCount_0f7a4_14 : decode cJ6_bitCount_0f7a4 14 = .ok (.iand, 1) := by decide +kernel
theorem dJ6_bitCount_0f7a4_15 : decode cJ6_bitCount_0f7a4 15 = .ok (.iload_n 0, 1) := by decide +kernel
theorem dJ6_bitCount_0f7a4_16 : decode cJ6_bitCount_0f7a4 16 = .ok (.iconst 2, 1) := by decide +kernel
theorem dJ6_bitCount_0f7a4_17 : decode cJ6_bitCount_0f7a4 17 = .ok (.iushr, 1) := by decide +kernel
theorem dJ6_bitCount_0f7a4_18 : decode cJ6_bitCount_0f7a4 18 = .ok (.ldc_w 266, 3) := by decide +kernel
theorem dJ6_bitCount_0f7a4_21 : decode cJ6_bitCount_0f7a4 21 = .ok (.iand, 1) := by decide +kernel
theorem dJ6_bitCount_0f7a4_22 : decode cJ6_bitCount_0f7a4 22 = .ok (.iadd, 1) := by decide +kernel
theorem dJ6_bitCount_0f7a4_23 : decode cJ6_bitCount_0f7a4 23 = .ok (.istore_n 0, 1) := by decide +kernel
theorem dJ6_bitCount_0f7a4_24 : decode cJ6_bitCount_0f7a4 24 = .ok (.iload_n 0, 1) := by decide +kernel
theorem dJ6_bitCount_0f7a4_25 : decode cJ6_bitCount_0f7a4 25 = .ok (.iload_n 0, 1) := by decide +kernel
theorem dJ6_bitCount_0f7a4_26 : decode cJ6_bitCount_0f7a4 26 = .ok (.iconst 4, 1) := by decide +kernel
theorem dJ6_bitCount_0f7a4_27 : decode cJ6_bitCount_0f7a4 27 = .ok (.iushr, 1) := by decide +kernel
theorem dJ6_bitCount_0f7a4_28 : decode cJ6_bitCount_0f7a4 28 = .ok (.iadd, 1) := by decide +kernel
theorem dJ6_bitCount_0f7a4_29 : decode cJ6_bitCount_0f7a4 29 = .ok (.ldc_w 267, 3) := by decide +kernel
theorem dJ6_bitCount_0f7a4_32 : decode cJ6_bitCount_0f7a4 32 = .ok (.iand, 1) := by decide +kernel
theorem dJ6_bitCount_0f7a4_33 : decode cJ6_bitCount_0f7a4 33 = .ok (.istore_n 0, 1) := by decide +kernel
theorem dJ6_bitCount_0f7a4_34 : decode cJ6_bitCount_0f7a4 34 = .ok (.iload_n 0, 1) := by decide +kernel
theorem dJ6_bitCount_0f7a4_35 : decode cJ6_bitCount_0f7a4 35 = .ok (.iload_n 0, 1) := by decide +kernel
theorem dJ6_bitCount_0f7a4_36 : decode cJ6_bitCount_0f7a4 36 = .ok (.bipush 8, 2) := by decide +kernel
theorem dJ6_bitCount_0f7a4_38 : decode cJ6_bitCount_0f7a4 38 = .ok (.iushr, 1) := by decide +kernel
theorem dJ6_bitCount_0f7a4_39 : decode cJ6_bitCount_0f7a4 39 = .ok (.iadd, 1) := by decide +kernel
theorem dJ6_bitCount_0f7a4_40 : decode cJ6_bitCount_0f7a4 40 = .ok (.istore_n 0, 1) := by decide +kernel
theorem dJ6_bitCount_0f7a4_41 : decode cJ6_bitCount_0f7a4 41 = .ok (.iload_n 0, 1) := by decide +kernel
theorem dJ6_bitCount_0f7a4_42 : decode cJ6_bitCount_0f7a4 42 = .ok (.iload_n 0, 1) := by decide +kernel
theorem dJ6_bitCount_0f7a4_43 : decode cJ6_bitCount_0f7a4 43 = .ok (.bipush 16, 2) := by decide +kernel
theorem dJ6_bitCount_0f7a4_45 : decode cJ6_bitCount_0f7a4 45 = .ok (.iushr, 1) := by decide +kernel
theorem dJ6_bitCount_0f7a4_46 : decode cJ6_bitCount_0f7a4 46 = .ok (.iadd, 1) := by decide +kernel
theorem dJ6_bitCount_0f7a4_47 : decode cJ6_bitCount_0f7a4 47 = .ok (.istore_n 0, 1) := by decide +kernel
theorem dJ6_bitCount_0f7a4_48 : decode cJ6_bitCount_0f7a4 48 = .ok (.iload_n 0, 1) := by decide +kernel
theorem dJ6_bitCount_0f7a4_49 : decode cJ6_bitCount_0f7a4 49 = .ok (.bipush 63, 2) := by decide +kernel
theorem dJ6_bitCount_0f7a4_51 : decode cJ6_bitCount_0f7a4 51 = .ok (.iand, 1) := by decide +kernel
theorem dJ6_bitCount_0f7a4_52 : decode cJ6_bitCount_0f7a4 52 = .ok (.ireturn, 1) := by decide +kernel
theorem dL_low_0 : decode cL_low 0 = .ok (.iload_n 0, 1) := by decide +kernel
theorem dL_low_1 : decode cL_low 1 = .ok (.ldc 8, 2) := by decide +kernel
theorem dL_low_3 : decode cL_low 3 = .ok (.iand, 1) := by decide +kernel
theorem dL_low_4 : decode cL_low 4 = .ok (.iload_n 1, 1) := by decide +kernel
theorem dL_low_5 : decode cL_low 5 = .ok (.irem, 1) := by decide +kernel
theorem dL_low_6 : decode cL_low 6 = .ok (.ireturn, 1) := by decide +kernel
theorem dX3_append_0 : decode cX3_append 0 = .ok (.aload_n 0, 1) := by decide +kernel
theorem dX3_append_1 : decode cX3_append 1 = .ok (.getfield 15, 3) := by decide +kernel
theorem dX3_append_4 : decode cX3_append 4 = .ok (.bipush 24, 2) := by decide +kernel
theorem dX3_append_6 : decode cX3_append 6 = .ok (.if_icmp .ge 23, 3) := by decide +kernel
theorem dX3_append_9 : decode cX3_append 9 = .ok (.aload_n 0, 1) := by decide +kernel
theorem dX3_append_10 : decode cX3_append 10 = .ok (.getfield 9, 3) := by decide +kernel
theorem dX3_append_13 : decode cX3_append 13 = .ok (.aload_n 0, 1) := by decide +kernel
theorem dX3_append_14 : decode cX3_append 14 = .ok (.getfield 15, 3) := by decide +kernel
theorem dX3_append_17 : decode cX3_append 17 = .ok (.iload_n 1, 1) := by decide +kernel
theorem dX3_append_18 : decode cX3_append 18 = .ok (.iastore, 1) := by decide +kernel
theorem dX3_append_19 : decode cX3_append 19 = .ok (.aload_n 0, 1) := by decide +kernel
theorem dX3_append_20 : decode cX3_append 20 = .ok (.dup, 1) := by decide +kernel
theorem dX3_append_21 : decode cX3_append 21 = .ok (.getfield 15, 3) := by decide +kernel
theorem dX3_append_24 : decode cX3_append 24 = .ok (.iconst 1, 1) := by decide +kernel
theorem dX3_append_25 : decode cX3_append 25 = .ok (.iadd, 1) := by decide +kernel
theorem dX3_append_26 : decode cX3_append 26 = .ok (.putfield 15, 3) := by decide +kernel
theorem dX3_append_29 : decode cX3_append 29 = .ok (.return_, 1) := by decide +kernel
theorem dX3_at_0 : decode cX3_at 0 = .ok (.iload_n 1, 1) := by decide +kernel
theorem dX3_at_1 : decode cX3_at 1 = .ok (.aload_n 0, 1) := by decide +kernel
theorem dX3_at_2 : decode cX3_at 2 = .ok (.getfield 15, 3) := by decide +kernel
theorem dX3_at_5 : decode cX3_at 5 = .ok (.invokestatic 19, 3) := by decide +kernel
theorem dX3_at_8 : decode cX3_at 8 = .ok (.ifCond .eq 18, 3) := by decide +kernel
theorem dX3_at_11 : decode cX3_at 11 = .ok (.iload_n 1, 1) := by decide +kernel
theorem dX3_at_12 : decode cX3_at 12 = .ok (.bipush 24, 2) := by decide +kernel
theorem dX3_at_14 : decode cX3_at 14 = .ok (.if_icmp .ge 12, 3) := by decide +kernel
theorem dX3_at_17 : decode cX3_at 17 = .ok (.aload_n 0, 1) := by decide +kernel
theorem dX3_at_18 : decode cX3_at 18 = .ok (.getfield 9, 3) := by decide +kernel
theorem dX3_at_21 : decode cX3_at 21 = .ok (.iload_n 1, 1) := by decide +kernel
theorem dX3_at_22 : decode cX3_at 22 = .ok (.iaload, 1) := by decide +kernel
theorem dX3_at_23 : decode cX3_at 23 = .ok (.goto 4, 3) := by decide +kernel
theorem dX3_at_26 : decode cX3_at 26 = .ok (.iconst (-1), 1) := by decide +kernel
theorem dX3_at_27 : decode cX3_at 27 = .ok (.ireturn, 1) := by decide +kernel
theorem dX3_takeFirst_0 : decode cX3_takeFirst 0 = .ok (.aload_n 0, 1) := by decide +kernel
theorem dX3_takeFirst_1 : decode cX3_takeFirst 1 = .ok (.getfield 15, 3) := by decide +kernel
theorem dX3_takeFirst_4 : decode cX3_takeFirst 4 = .ok (.ifCond .le 12, 3) := by decide +kernel
theorem dX3_takeFirst_7 : decode cX3_takeFirst 7 = .ok (.aload_n 0, 1) := by decide +kernel
theorem dX3_takeFirst_8 : decode cX3_takeFirst 8 = .ok (.getfield 15, 3) := by decide +kernel
theorem dX3_takeFirst_11 : decode cX3_takeFirst 11 = .ok (.bipush 24, 2) := by decide +kernel
theorem dX3_takeFirst_13 : decode cX3_takeFirst 13 = .ok (.if_icmp .le 5, 3) := by decide +kernel
theorem dX3_takeFirst_16 : decode cX3_takeFirst 16 = .ok (.iconst (-1), 1) := by decide +kernel
theorem dX3_takeFirst_17 : decode cX3_takeFirst 17 = .ok (.ireturn, 1) := by decide +kernel
theorem dX3_takeFirst_18 : decode cX3_takeFirst 18 = .ok (.aload_n 0, 1) := by decide +kernel
theorem dX3_takeFirst_19 : decode cX3_takeFirst 19 = .ok (.getfield 9, 3) := by decide +kernel
theorem dX3_takeFirst_22 : decode cX3_takeFirst 22 = .ok (.iconst 0, 1) := by decide +kernel
theorem dX3_takeFirst_23 : decode cX3_takeFirst 23 = .ok (.iaload, 1) := by decide +kernel
theorem dX3_takeFirst_24 : decode cX3_takeFirst 24 = .ok (.istore_n 1, 1) := by decide +kernel
theorem dX3_takeFirst_25 : decode cX3_takeFirst 25 = .ok (.aload_n 0, 1) := by decide +kernel
theorem dX3_takeFirst_26 : decode cX3_takeFirst 26 = .ok (.dup, 1) := by decide +kernel
theorem dX3_takeFirst_27 : decode cX3_takeFirst 27 = .ok (.getfield 15, 3) := by decide +kernel
theorem dX3_takeFirst_30 : decode cX3_takeFirst 30 = .ok (.iconst 1, 1) := by decide +kernel
theorem dX3_takeFirst_31 : decode cX3_takeFirst 31 = .ok (.isub, 1) := by decide +kernel
theorem dX3_takeFirst_32 : decode cX3_takeFirst 32 = .ok (.putfield 15, 3) := by decide +kernel
theorem dX3_takeFirst_35 : decode cX3_takeFirst 35 = .ok (.aload_n 0, 1) := by decide +kernel
theorem dX3_takeFirst_36 : decode cX3_takeFirst 36 = .ok (.getfield 9, 3) := by decide +kernel
theorem dX3_takeFirst_39 : decode cX3_takeFirst 39 = .ok (.iconst 1, 1) := by decide +kernel
theorem dX3_takeFirst_40 : decode cX3_takeFirst 40 = .ok (.aload_n 0, 1) := by decide +kernel
theorem dX3_takeFirst_41 : decode cX3_takeFirst 41 = .ok (.getfield 9, 3) := by decide +kernel
theorem dX3_takeFirst_44 : decode cX3_takeFirst 44 = .ok (.iconst 0, 1) := by decide +kernel
theorem dX3_takeFirst_45 : decode cX3_takeFirst 45 = .ok (.aload_n 0, 1) := by decide +kernel
theorem dX3_takeFirst_46 : decode cX3_takeFirst 46 = .ok (.getfield 15, 3) := by decide +kernel
theorem dX3_takeFirst_49 : decode cX3_takeFirst 49 = .ok (.invokestatic 23, 3) := by decide +kernel
theorem dX3_takeFirst_52 : decode cX3_takeFirst 52 = .ok (.iload_n 1, 1) := by decide +kernel
theorem dX3_takeFirst_53 : decode cX3_takeFirst 53 = .ok (.ireturn, 1) := by decide +kernel
theorem dX3_placeOf_0 : decode cX3_placeOf 0 = .ok (.iconst 0, 1) := by decide +kernel
theorem dX3_placeOf_1 : decode cX3_placeOf 1 = .ok (.istore_n 2, 1) := by decide +kernel
theorem dX3_placeOf_2 : decode cX3_placeOf 2 = .ok (.iload_n 2, 1) := by decide +kernel
theorem dX3_placeOf_3 : decode cX3_placeOf 3 = .ok (.aload_n 0, 1) := by decide +kernel
theorem dX3_placeOf_4 : decode cX3_placeOf 4 = .ok (.getfield 15, 3) := by decide +kernel
theorem dX3_placeOf_7 : decode cX3_placeOf 7 = .ok (.if_icmp .ge 27, 3) := by decide +kernel
theorem dX3_placeOf_10 : decode cX3_placeOf 10 = .ok (.iload_n 2, 1) := by decide +kernel
theorem dX3_placeOf_11 : decode cX3_placeOf 11 = .ok (.bipush 24, 2) := by decide +kernel
theorem dX3_placeOf_13 : decode cX3_placeOf 13 = .ok (.if_icmp .ge 21, 3) := by decide +kernel
theorem dX3_placeOf_16 : decode cX3_placeOf 16 = .ok (.aload_n 0, 1) := by decide +kernel
theorem dX3_placeOf_17 : decode cX3_placeOf 17 = .ok (.getfield 9, 3) := by decide +kernel
theorem dX3_placeOf_20 : decode cX3_placeOf 20 = .ok (.iload_n 2, 1) := by decide +kernel
theorem dX3_placeOf_21 : decode cX3_placeOf 21 = .ok (.iaload, 1) := by decide +kernel
theorem dX3_placeOf_22 : decode cX3_placeOf 22 = .ok (.iload_n 1, 1) := by decide +kernel
theorem dX3_placeOf_23 : decode cX3_placeOf 23 = .ok (.if_icmp .ne 5, 3) := by decide +kernel
theorem dX3_placeOf_26 : decode cX3_placeOf 26 = .ok (.iload_n 2, 1) := by decide +kernel
theorem dX3_placeOf_27 : decode cX3_placeOf 27 = .ok (.ireturn, 1) := by decide +kernel
theorem dX3_placeOf_28 : decode cX3_placeOf 28 = .ok (.iinc 2 1, 3) := by decide +kernel
theorem dX3_placeOf_31 : decode cX3_placeOf 31 = .ok (.goto (-29), 3) := by decide +kernel
theorem dX3_placeOf_34 : decode cX3_placeOf 34 = .ok (.iconst (-1), 1) := by decide +kernel
theorem dX3_placeOf_35 : decode cX3_placeOf 35 = .ok (.ireturn, 1) := by decide +kernel
theorem dX3_asSet_0 : decode cX3_asSet 0 = .ok (.iconst 0, 1) := by decide +kernel
theorem dX3_asSet_1 : decode cX3_asSet 1 = .ok (.istore_n 1, 1) := by decide +kernel
theorem dX3_asSet_2 : decode cX3_asSet 2 = .ok (.iconst 0, 1) := by decide +kernel
theorem dX3_asSet_3 : decode cX3_asSet 3 = .ok (.istore_n 2, 1) := by decide +kernel
theorem dX3_asSet_4 : decode cX3_asSet 4 = .ok (.iload_n 2, 1) := by decide +kernel
theorem dX3_asSet_5 : decode cX3_asSet 5 = .ok (.aload_n 0, 1) := by decide +kernel
theorem dX3_asSet_6 : decode cX3_asSet 6 = .ok (.getfield 15, 3) := by decide +kernel
theorem dX3_asSet_9 : decode cX3_asSet 9 = .ok (.if_icmp .ge 27, 3) := by decide +kernel
theorem dX3_asSet_12 : decode cX3_asSet 12 = .ok (.iload_n 2, 1) := by decide +kernel
theorem dX3_asSet_13 : decode cX3_asSet 13 = .ok (.bipush 24, 2) := by decide +kernel
theorem dX3_asSet_15 : decode cX3_asSet 15 = .ok (.if_icmp .ge 21, 3) := by decide +kernel
theorem dX3_asSet_18 : decode cX3_asSet 18 = .ok (.iload_n 1, 1) := by decide +kernel
theorem dX3_asSet_19 : decode cX3_asSet 19 = .ok (.aload_n 0, 1) := by decide +kernel
theorem dX3_asSet_20 : decode cX3_asSet 20 = .ok (.getfield 9, 3) := by decide +kernel
theorem dX3_asSet_23 : decode cX3_asSet 23 = .ok (.iload_n 2, 1) := by decide +kernel
theorem dX3_asSet_24 : decode cX3_asSet 24 = .ok (.iaload, 1) := by decide +kernel
theorem dX3_asSet_25 : decode cX3_asSet 25 = .ok (.invokestatic 29, 3) := by decide +kernel
theorem dX3_asSet_28 : decode cX3_asSet 28 = .ok (.ior, 1) := by decide +kernel
theorem dX3_asSet_29 : decode cX3_asSet 29 = .ok (.istore_n 1, 1) := by decide +kernel
theorem dX3_asSet_30 : decode cX3_asSet 30 = .ok (.iinc 2 1, 3) := by decide +kernel
theorem dX3_asSet_33 : decode cX3_asSet 33 = .ok (.goto (-29), 3) := by decide +kernel
theorem dX3_asSet_36 : decode cX3_asSet 36 = .ok (.iload_n 1, 1) := by decide +kernel
theorem dX3_asSet_37 : decode cX3_asSet 37 = .ok (.ireturn, 1) := by decide +kernel
theorem dX1_has_0 : decode cX1_has 0 = .ok (.aload_n 0, 1) := by decide +kernel
theorem dX1_has_1 : decode cX1_has 1 = .ok (.getfield 34, 3) := by decide +kernel
theorem dX1_has_4 : decode cX1_has 4 = .ok (.iload_n 1, 1) := by decide +kernel
theorem dX1_has_5 : decode cX1_has 5 = .ok (.invokestatic 38, 3) := by decide +kernel
theorem dX1_has_8 : decode cX1_has 8 = .ok (.iand, 1) := by decide +kernel
theorem dX1_has_9 : decode cX1_has 9 = .ok (.ifCond .eq 7, 3) := by decide +kernel
theorem dX1_has_12 : decode cX1_has 12 = .ok (.iconst 1, 1) := by decide +kernel
theorem dX1_has_13 : decode cX1_has 13 = .ok (.goto 4, 3) := by decide +kernel
theorem dX1_has_16 : decode cX1_has 16 = .ok (.iconst 0, 1) := by decide +kernel
theorem dX1_has_17 : decode cX1_has 17 = .ok (.ireturn, 1) := by decide +kernel
theorem dX1_hasOrNone_0 : decode cX1_hasOrNone 0 = .ok (.iload_n 1, 1) := by decide +kernel
theorem dX1_hasOrNone_1 : decode cX1_hasOrNone 1 = .ok (.iconst (-1), 1) := by decide +kernel
theorem dX1_hasOrNone_2 : decode cX1_hasOrNone 2 = .ok (.if_icmp .eq 11, 3) := by decide +kernel
theorem dX1_hasOrNone_5 : decode cX1_hasOrNone 5 = .ok (.aload_n 0, 1) := by decide +kernel
theorem dX1_hasOrNone_6 : decode cX1_hasOrNone 6 = .ok (.iload_n 1, 1) := by decide +kernel
theorem dX1_hasOrNone_7 : decode cX1_hasOrNone 7 = .ok (.invokevirtual 42, 3) := by decide +kernel
theorem dX1_hasOrNone_10 : decode cX1_hasOrNone 10 = .ok (.ifCond .eq 7, 3) := by decide +kernel
theorem dX1_hasOrNone_13 : decode cX1_hasOrNone 13 = .ok (.iconst 1, 1) := by decide +kernel
theorem dX1_hasOrNone_14 : decode cX1_hasOrNone 14 = .ok (.goto 4, 3) := by decide +kernel
theorem dX1_hasOrNone_17 : decode cX1_hasOrNone 17 = .ok (.iconst 0, 1) := by decide +kernel
theorem dX1_hasOrNone_18 : decode cX1_hasOrNone 18 = .ok (.ireturn, 1) := by decide +kernel
theorem dX1_size_0 : decode cX1_size 0 = .ok (.aload_n 0, 1) := by decide +kernel
theorem dX1_size_1 : decode cX1_size 1 = .ok (.getfield 34, 3) := by decide +kernel
theorem dX1_size_4 : decode cX1_size 4 = .ok (.invokestatic 46, 3) := by decide +kernel
theorem dX1_size_7 : decode cX1_size 7 = .ok (.ireturn, 1) := by decide +kernel
theorem dX1_fieldOf_0 : decode cX1_fieldOf 0 = .ok (.iload_n 1, 1) := by decide +kernel
theorem dX1_fieldOf_1 : decode cX1_fieldOf 1 = .ok (.bipush 24, 2) := by decide +kernel
theorem dX1_fieldOf_3 : decode cX1_fieldOf 3 = .ok (.invokestatic 51, 3) := by decide +kernel
theorem dX1_fieldOf_6 : decode cX1_fieldOf 6 = .ok (.ifCond .eq 24, 3) := by decide +kernel
theorem dX1_fieldOf_9 : decode cX1_fieldOf 9 = .ok (.iload_n 2, 1) := by decide +kernel
theorem dX1_fieldOf_10 : decode cX1_fieldOf 10 = .ok (.iconst 3, 1) := by decide +kernel
theorem dX1_fieldOf_11 : decode cX1_fieldOf 11 = .ok (.invokestatic 51, 3) := by decide +kernel
theorem dX1_fieldOf_14 : decode cX1_fieldOf 14 = .ok (.ifCond .eq 16, 3) := by decide +kernel
theorem dX1_fieldOf_17 : decode cX1_fieldOf 17 = .ok (.aload_n 0, 1) := by decide +kernel
theorem dX1_fieldOf_18 : decode cX1_fieldOf 18 = .ok (.getfield 9, 3) := by decide +kernel
theorem dX1_fieldOf_21 : decode cX1_fieldOf 21 = .ok (.iload_n 1, 1) := by decide +kernel
theorem dX1_fieldOf_22 : decode cX1_fieldOf 22 = .ok (.iconst 3, 1) := by decide +kernel
theorem dX1_fieldOf_23 : decode cX1_fieldOf 23 = .ok (.imul, 1) := by decide +kernel
theorem dX1_fieldOf_24 : decode cX1_fieldOf 24 = .ok (.iload_n 2, 1) := by decide +kernel
theorem dX1_fieldOf_25 : decode cX1_fieldOf 25 = .ok (.iadd, 1) := by decide +kernel
theorem dX1_fieldOf_26 : decode cX1_fieldOf 26 = .ok (.iaload, 1) := by decide +kernel
theorem dX1_fieldOf_27 : decode cX1_fieldOf 27 = .ok (.goto 4, 3) := by decide +kernel
theorem dX1_fieldOf_30 : decode cX1_fieldOf 30 = .ok (.iconst (-1), 1) := by decide +kernel
theorem dX1_fieldOf_31 : decode cX1_fieldOf 31 = .ok (.ireturn, 1) := by decide +kernel
theorem dX1_setField_0 : decode cX1_setField 0 = .ok (.iload_n 1, 1) := by decide +kernel
theorem dX1_setField_1 : decode cX1_setField 1 = .ok (.ifCond .lt 29, 3) := by decide +kernel
theorem dX1_setField_4 : decode cX1_setField 4 = .ok (.iload_n 1, 1) := by decide +kernel
theorem dX1_setField_5 : decode cX1_setField 5 = .ok (.bipush 24, 2) := by decide +kernel
theorem dX1_setField_7 : decode cX1_setField 7 = .ok (.if_icmp .ge 23, 3) := by decide +kernel
theorem dX1_setField_10 : decode cX1_setField 10 = .ok (.iload_n 2, 1) := by decide +kernel
theorem dX1_setField_11 : decode cX1_setField 11 = .ok (.ifCond .lt 19, 3) := by decide +kernel
theorem dX1_setField_14 : decode cX1_setField 14 = .ok (.iload_n 2, 1) := by decide +kernel
theorem dX1_setField_15 : decode cX1_setField 15 = .ok (.iconst 3, 1) := by decide +kernel
theorem dX1_setField_16 : decode cX1_setField 16 = .ok (.if_icmp .ge 14, 3) := by decide +kernel
theorem dX1_setField_19 : decode cX1_setField 19 = .ok (.aload_n 0, 1) := by decide +kernel
theorem dX1_setField_20 : decode cX1_setField 20 = .ok (.getfield 9, 3) := by decide +kernel
theorem dX1_setField_23 : decode cX1_setField 23 = .ok (.iload_n 1, 1) := by decide +kernel
theorem dX1_setField_24 : decode cX1_setField 24 = .ok (.iconst 3, 1) := by decide +kernel
theorem dX1_setField_25 : decode cX1_setField 25 = .ok (.imul, 1) := by decide +kernel
theorem dX1_setField_26 : decode cX1_setField 26 = .ok (.iload_n 2, 1) := by decide +kernel
theorem dX1_setField_27 : decode cX1_setField 27 = .ok (.iadd, 1) := by decide +kernel
theorem dX1_setField_28 : decode cX1_setField 28 = .ok (.iload_n 3, 1) := by decide +kernel
theorem dX1_setField_29 : decode cX1_setField 29 = .ok (.iastore, 1) := by decide +kernel
theorem dX1_setField_30 : decode cX1_setField 30 = .ok (.return_, 1) := by decide +kernel
theorem dX1_rootAt_0 : decode cX1_rootAt 0 = .ok (.iload_n 1, 1) := by decide +kernel
theorem dX1_rootAt_1 : decode cX1_rootAt 1 = .ok (.iconst 4, 1) := by decide +kernel
theorem dX1_rootAt_2 : decode cX1_rootAt 2 = .ok (.invokestatic 51, 3) := by decide +kernel
theorem dX1_rootAt_5 : decode cX1_rootAt 5 = .ok (.ifCond .eq 12, 3) := by decide +kernel
theorem dX1_rootAt_8 : decode cX1_rootAt 8 = .ok (.aload_n 0, 1) := by decide +kernel
theorem dX1_rootAt_9 : decode cX1_rootAt 9 = .ok (.getfield 15, 3) := by decide +kernel
theorem dX1_rootAt_12 : decode cX1_rootAt 12 = .ok (.iload_n 1, 1) := by decide +kernel
theorem dX1_rootAt_13 : decode cX1_rootAt 13 = .ok (.iaload, 1) := by decide +kernel
theorem dX1_rootAt_14 : decode cX1_rootAt 14 = .ok (.goto 4, 3) := by decide +kernel
theorem dX1_rootAt_17 : decode cX1_rootAt 17 = .ok (.iconst (-1), 1) := by decide +kernel
theorem dX1_rootAt_18 : decode cX1_rootAt 18 = .ok (.ireturn, 1) := by decide +kernel
theorem dX1_holderAt_0 : decode cX1_holderAt 0 = .ok (.iload_n 1, 1) := by decide +kernel
theorem dX1_holderAt_1 : decode cX1_holderAt 1 = .ok (.iconst 4, 1) := by decide +kernel
theorem dX1_holderAt_2 : decode cX1_holderAt 2 = .ok (.invokestatic 51, 3) := by decide +kernel
theorem dX1_holderAt_5 : decode cX1_holderAt 5 = .ok (.ifCond .eq 12, 3) := by decide +kernel
theorem dX1_holderAt_8 : decode cX1_holderAt 8 = .ok (.aload_n 0, 1) := by decide +kernel
theorem dX1_holderAt_9 : decode cX1_holderAt 9 = .ok (.getfield 18, 3) := by decide +kernel
theorem dX1_holderAt_12 : decode cX1_holderAt 12 = .ok (.iload_n 1, 1) := by decide +kernel
theorem dX1_holderAt_13 : decode cX1_holderAt 13 = .ok (.iaload, 1) := by decide +kernel
theorem dX1_holderAt_14 : decode cX1_holderAt 14 = .ok (.goto 4, 3) := by decide +kernel
theorem dX1_holderAt_17 : decode cX1_holderAt 17 = .ok (.iconst (-1), 1) := by decide +kernel
theorem dX1_holderAt_18 : decode cX1_holderAt 18 = .ok (.ireturn, 1) := by decide +kernel
theorem dX1_tellReferred_0 : decode cX1_tellReferred 0 = .ok (.iload_n 1, 1) := by decide +kernel
theorem dX1_tellReferred_1 : decode cX1_tellReferred 1 = .ok (.ifCond .lt 24, 3) := by decide +kernel
theorem dX1_tellReferred_4 : decode cX1_tellReferred 4 = .ok (.iload_n 1, 1) := by decide +kernel
theorem dX1_tellReferred_5 : decode cX1_tellReferred 5 = .ok (.iconst 1, 1) := by decide +kernel
theorem dX1_tellReferred_6 : decode cX1_tellReferred 6 = .ok (.if_icmp .gt 19, 3) := by decide +kernel
theorem dX1_tellReferred_9 : decode cX1_tellReferred 9 = .ok (.iload_n 2, 1) := by decide +kernel
theorem dX1_tellReferred_10 : decode cX1_tellReferred 10 = .ok (.iload_n 1, 1) := by decide +kernel
theorem dX1_tellReferred_11 : decode cX1_tellReferred 11 = .ok (.ifCond .ne 7, 3) := by decide +kernel
theorem dX1_tellReferred_14 : decode cX1_tellReferred 14 = .ok (.iconst 4, 1) := by decide +kernel
theorem dX1_tellReferred_15 : decode cX1_tellReferred 15 = .ok (.goto 4, 3) := by decide +kernel
theorem dX1_tellReferred_18 : decode cX1_tellReferred 18 = .ok (.iconst 4, 1) := by decide +kernel
theorem dX1_tellReferred_19 : decode cX1_tellReferred 19 = .ok (.invokestatic 51, 3) := by decide +kernel
theorem dX1_tellReferred_22 : decode cX1_tellReferred 22 = .ok (.ifCond .ne 6, 3) := by decide +kernel
theorem dX1_tellReferred_25 : decode cX1_tellReferred 25 = .ok (.bipush (-11), 2) := by decide +kernel
theorem dX1_tellReferred_27 : decode cX1_tellReferred 27 = .ok (.ireturn, 1) := by decide +kernel
theorem dX1_tellReferred_28 : decode cX1_tellReferred 28 = .ok (.iload_n 1, 1) := by decide +kernel
theorem dX1_tellReferred_29 : decode cX1_tellReferred 29 = .ok (.ifCond .ne 11, 3) := by decide +kernel
theorem dX1_tellReferred_32 : decode cX1_tellReferred 32 = .ok (.aload_n 0, 1) := by decide +kernel
theorem dX1_tellReferred_33 : decode cX1_tellReferred 33 = .ok (.iload_n 2, 1) := by decide +kernel
theorem dX1_tellReferred_34 : decode cX1_tellReferred 34 = .ok (.invokevirtual 55, 3) := by decide +kernel
theorem dX1_tellReferred_37 : decode cX1_tellReferred 37 = .ok (.goto 8, 3) := by decide +kernel
theorem dX1_tellReferred_40 : decode cX1_tellReferred 40 = .ok (.aload_n 0, 1) := by decide +kernel
theorem dX1_tellReferred_41 : decode cX1_tellReferred 41 = .ok (.iload_n 2, 1) := by decide +kernel
theorem dX1_tellReferred_42 : decode cX1_tellReferred 42 = .ok (.invokevirtual 58, 3) := by decide +kernel
theorem dX1_tellReferred_45 : decode cX1_tellReferred 45 = .ok (.istore_n 3, 1) := by decide +kernel
theorem dX1_tellReferred_46 : decode cX1_tellReferred 46 = .ok (.iload_n 3, 1) := by decide +kernel
theorem dX1_tellReferred_47 : decode cX1_tellReferred 47 = .ok (.iconst (-1), 1) := by decide +kernel
theorem dX1_tellReferred_48 : decode cX1_tellReferred 48 = .ok (.if_icmp .ne 8, 3) := by decide +kernel
theorem dX1_tellReferred_51 : decode cX1_tellReferred 51 = .ok (.bipush (-14), 2) := by decide +kernel
theorem dX1_tellReferred_53 : decode cX1_tellReferred 53 = .ok (.goto 4, 3) := by decide +kernel
theorem dX1_tellReferred_56 : decode cX1_tellReferred 56 = .ok (.iload_n 3, 1) := by decide +kernel
theorem dX1_tellReferred_57 : decode cX1_tellReferred 57 = .ok (.ireturn, 1) := by decide +kernel
theorem dX1_bring_0 : decode cX1_bring 0 = .ok (.aload_n 0, 1) := by decide +kernel
theorem dX1_bring_1 : decode cX1_bring 1 = .ok (.getfield 34, 3) := by decide +kernel
theorem dX1_bring_4 : decode cX1_bring 4 = .ok (.iconst (-1), 1) := by decide +kernel
theorem dX1_bring_5 : decode cX1_bring 5 = .ok (.ixor, 1) := by decide +kernel
theorem dX1_bring_6 : decode cX1_bring 6 = .ok (.iconst 0, 1) := by decide +kernel
theorem dX1_bring_7 : decode cX1_bring 7 = .ok (.invokestatic 61, 3) := by decide +kernel
theorem dX1_bring_10 : decode cX1_bring 10 = .ok (.istore_n 1, 1) := by decide +kernel
theorem dX1_bring_11 : decode cX1_bring 11 = .ok (.aload_n 0, 1) := by decide +kernel
theorem dX1_bring_12 : decode cX1_bring 12 = .ok (.dup, 1) := by decide +kernel
theorem dX1_bring_13 : decode cX1_bring 13 = .ok (.getfield 34, 3) := by decide +kernel
theorem dX1_bring_16 : decode cX1_bring 16 = .ok (.iload_n 1, 1) := by decide +kernel
theorem dX1_bring_17 : decode cX1_bring 17 = .ok (.invokestatic 38, 3) := by decide +kernel
theorem dX1_bring_20 : decode cX1_bring 20 = .ok (.ior, 1) := by decide +kernel
theorem dX1_bring_21 : decode cX1_bring 21 = .ok (.putfield 34, 3) := by decide +kernel
theorem dX1_bring_24 : decode cX1_bring 24 = .ok (.iload_n 1, 1) := by decide +kernel
theorem dX1_bring_25 : decode cX1_bring 25 = .ok (.ireturn, 1) := by decide +kernel
theorem dX1_forget_0 : decode cX1_forget 0 = .ok (.iconst 0, 1) := by decide +kernel
theorem dX1_forget_1 : decode cX1_forget 1 = .ok (.istore_n 2, 1) := by decide +kernel
theorem dX1_forget_2 : decode cX1_forget 2 = .ok (.iload_n 2, 1) := by decide +kernel
theorem dX1_forget_3 : decode cX1_forget 3 = .ok (.aload_n 0, 1) := by decide +kernel
theorem dX1_forget_4 : decode cX1_forget 4 = .ok (.arraylength, 1) := by decide +kernel
theorem dX1_forget_5 : decode cX1_forget 5 = .ok (.if_icmp .ge 20, 3) := by decide +kernel
theorem dX1_forget_8 : decode cX1_forget 8 = .ok (.aload_n 0, 1) := by decide +kernel
theorem dX1_forget_9 : decode cX1_forget 9 = .ok (.iload_n 2, 1) := by decide +kernel
theorem dX1_forget_10 : decode cX1_forget 10 = .ok (.iaload, 1) := by decide +kernel
theorem dX1_forget_11 : decode cX1_forget 11 = .ok (.iload_n 1, 1) := by decide +kernel
theorem dX1_forget_12 : decode cX1_forget 12 = .ok (.if_icmp .ne 7, 3) := by decide +kernel
theorem dX1_forget_15 : decode cX1_forget 15 = .ok (.aload_n 0, 1) := by decide +kernel
theorem dX1_forget_16 : decode cX1_forget 16 = .ok (.iload_n 2, 1) := by decide +kernel
theorem dX1_forget_17 : decode cX1_forget 17 = .ok (.iconst (-1), 1) := by decide +kernel
theorem dX1_forget_18 : decode cX1_forget 18 = .ok (.iastore, 1) := by decide +kernel
theorem dX1_forget_19 : decode cX1_forget 19 = .ok (.iinc 2 1, 3) := by decide +kernel
theorem dX1_forget_22 : decode cX1_forget 22 = .ok (.goto (-20), 3) := by decide +kernel
theorem dX1_forget_25 : decode cX1_forget 25 = .ok (.return_, 1) := by decide +kernel
theorem dX1_letGo_0 : decode cX1_letGo 0 = .ok (.aload_n 0, 1) := by decide +kernel
theorem dX1_letGo_1 : decode cX1_letGo 1 = .ok (.dup, 1) := by decide +kernel
theorem dX1_letGo_2 : decode cX1_letGo 2 = .ok (.getfield 34, 3) := by decide +kernel
theorem dX1_letGo_5 : decode cX1_letGo 5 = .ok (.iload_n 1, 1) := by decide +kernel
theorem dX1_letGo_6 : decode cX1_letGo 6 = .ok (.invokestatic 38, 3) := by decide +kernel
theorem dX1_letGo_9 : decode cX1_letGo 9 = .ok (.iconst (-1), 1) := by decide +kernel
theorem dX1_letGo_10 : decode cX1_letGo 10 = .ok (.ixor, 1) := by decide +kernel
theorem dX1_letGo_11 : decode cX1_letGo 11 = .ok (.iand, 1) := by decide +kernel
theorem dX1_letGo_12 : decode cX1_letGo 12 = .ok (.putfield 34, 3) := by decide +kernel
theorem dX1_letGo_15 : decode cX1_letGo 15 = .ok (.aload_n 0, 1) := by decide +kernel
theorem dX1_letGo_16 : decode cX1_letGo 16 = .ok (.dup, 1) := by decide +kernel
theorem dX1_letGo_17 : decode cX1_letGo 17 = .ok (.getfield 65, 3) := by decide +kernel
theorem dX1_letGo_20 : decode cX1_letGo 20 = .ok (.iload_n 1, 1) := by decide +kernel
theorem dX1_letGo_21 : decode cX1_letGo 21 = .ok (.invokestatic 38, 3) := by decide +kernel
theorem dX1_letGo_24 : decode cX1_letGo 24 = .ok (.iconst (-1), 1) := by decide +kernel
theorem dX1_letGo_25 : decode cX1_letGo 25 = .ok (.ixor, 1) := by decide +kernel
theorem dX1_letGo_26 : decode cX1_letGo 26 = .ok (.iand, 1) := by decide +kernel
theorem dX1_letGo_27 : decode cX1_letGo 27 = .ok (.putfield 65, 3) := by decide +kernel
theorem dX1_letGo_30 : decode cX1_letGo 30 = .ok (.iconst 0, 1) := by decide +kernel
theorem dX1_letGo_31 : decode cX1_letGo 31 = .ok (.istore_n 2, 1) := by decide +kernel
theorem dX1_letGo_32 : decode cX1_letGo 32 = .ok (.iload_n 2, 1) := by decide +kernel
theorem dX1_letGo_33 : decode cX1_letGo 33 = .ok (.iconst 3, 1) := by decide +kernel
theorem dX1_letGo_34 : decode cX1_letGo 34 = .ok (.if_icmp .ge 16, 3) := by decide +kernel
theorem dX1_letGo_37 : decode cX1_letGo 37 = .ok (.aload_n 0, 1) := by decide +kernel
theorem dX1_letGo_38 : decode cX1_letGo 38 = .ok (.iload_n 1, 1) := by decide +kernel
theorem dX1_letGo_39 : decode cX1_letGo 39 = .ok (.iload_n 2, 1) := by decide +kernel
theorem dX1_letGo_40 : decode cX1_letGo 40 = .ok (.iconst (-1), 1) := by decide +kernel
theorem dX1_letGo_41 : decode cX1_letGo 41 = .ok (.invokevirtual 68, 3) := by decide +kernel
theorem dX1_letGo_44 : decode cX1_letGo 44 = .ok (.iinc 2 1, 3) := by decide +kernel
theorem dX1_letGo_47 : decode cX1_letGo 47 = .ok (.goto (-15), 3) := by decide +kernel
theorem dX1_letGo_50 : decode cX1_letGo 50 = .ok (.aload_n 0, 1) := by decide +kernel
theorem dX1_letGo_51 : decode cX1_letGo 51 = .ok (.getfield 9, 3) := by decide +kernel
theorem dX1_letGo_54 : decode cX1_letGo 54 = .ok (.iload_n 1, 1) := by decide +kernel
theorem dX1_letGo_55 : decode cX1_letGo 55 = .ok (.invokestatic 72, 3) := by decide +kernel
theorem dX1_letGo_58 : decode cX1_letGo 58 = .ok (.aload_n 0, 1) := by decide +kernel
theorem dX1_letGo_59 : decode cX1_letGo 59 = .ok (.getfield 18, 3) := by decide +kernel
theorem dX1_letGo_62 : decode cX1_letGo 62 = .ok (.iload_n 1, 1) := by decide +kernel
theorem dX1_letGo_63 : decode cX1_letGo 63 = .ok (.invokestatic 72, 3) := by decide +kernel
theorem dX1_letGo_66 : decode cX1_letGo 66 = .ok (.return_, 1) := by decide +kernel
theorem dX1_emptyHoldersOf_0 : decode cX1_emptyHoldersOf 0 = .ok (.iconst 0, 1) := by decide +kernel
theorem dX1_emptyHoldersOf_1 : decode cX1_emptyHoldersOf 1 = .ok (.istore_n 2, 1) := by decide +kernel
theorem dX1_emptyHoldersOf_2 : decode cX1_emptyHoldersOf 2 = .ok (.iload_n 2, 1) := by decide +kernel
theorem dX1_emptyHoldersOf_3 : decode cX1_emptyHoldersOf 3 = .ok (.iconst 4, 1) := by decide +kernel
theorem dX1_emptyHoldersOf_4 : decode cX1_emptyHoldersOf 4 = .ok (.if_icmp .ge 30, 3) := by decide +kernel
theorem dX1_emptyHoldersOf_7 : decode cX1_emptyHoldersOf 7 = .ok (.aload_n 0, 1) := by decide +kernel
theorem dX1_emptyHoldersOf_8 : decode cX1_emptyHoldersOf 8 = .ok (.getfield 18, 3) := by decide +kernel
theorem dX1_emptyHoldersOf_11 : decode cX1_emptyHoldersOf 11 = .ok (.iload_n 2, 1) := by decide +kernel
theorem dX1_emptyHoldersOf_12 : decode cX1_emptyHoldersOf 12 = .ok (.iaload, 1) := by decide +kernel
theorem dX1_emptyHoldersOf_13 : decode cX1_emptyHoldersOf 13 = .ok (.invokestatic 38, 3) := by decide +kernel
theorem dX1_emptyHoldersOf_16 : decode cX1_emptyHoldersOf 16 = .ok (.iload_n 1, 1) := by decide +kernel
theorem dX1_emptyHoldersOf_17 : decode cX1_emptyHoldersOf 17 = .ok (.iand, 1) := by decide +kernel
theorem dX1_emptyHoldersOf_18 : decode cX1_emptyHoldersOf 18 = .ok (.ifCond .eq 10, 3) := by decide +kernel
theorem dX1_emptyHoldersOf_21 : decode cX1_emptyHoldersOf 21 = .ok (.aload_n 0, 1) := by decide +kernel
theorem dX1_emptyHoldersOf_22 : decode cX1_emptyHoldersOf 22 = .ok (.getfield 18, 3) := by decide +kernel
theorem dX1_emptyHoldersOf_25 : decode cX1_emptyHoldersOf 25 = .ok (.iload_n 2, 1) := by decide +kernel
theorem dX1_emptyHoldersOf_26 : decode cX1_emptyHoldersOf 26 = .ok (.iconst (-1), 1) := by decide +kernel
theorem dX1_emptyHoldersOf_27 : decode cX1_emptyHoldersOf 27 = .ok (.iastore, 1) := by decide +kernel
theorem dX1_emptyHoldersOf_28 : decode cX1_emptyHoldersOf 28 = .ok (.iinc 2 1, 3) := by decide +kernel
theorem dX1_emptyHoldersOf_31 : decode cX1_emptyHoldersOf 31 = .ok (.goto (-29), 3) := by decide +kernel
theorem dX1_emptyHoldersOf_34 : decode cX1_emptyHoldersOf 34 = .ok (.return_, 1) := by decide +kernel
theorem dX1_setOfRoots_0 : decode cX1_setOfRoots 0 = .ok (.iconst 0, 1) := by decide +kernel
theorem dX1_setOfRoots_1 : decode cX1_setOfRoots 1 = .ok (.istore_n 1, 1) := by decide +kernel
theorem dX1_setOfRoots_2 : decode cX1_setOfRoots 2 = .ok (.iconst 0, 1) := by decide +kernel
theorem dX1_setOfRoots_3 : decode cX1_setOfRoots 3 = .ok (.istore_n 2, 1) := by decide +kernel
theorem dX1_setOfRoots_4 : decode cX1_setOfRoots 4 = .ok (.iload_n 2, 1) := by decide +kernel
theorem dX1_setOfRoots_5 : decode cX1_setOfRoots 5 = .ok (.iconst 4, 1) := by decide +kernel
theorem dX1_setOfRoots_6 : decode cX1_setOfRoots 6 = .ok (.if_icmp .ge 21, 3) := by decide +kernel
theorem dX1_setOfRoots_9 : decode cX1_setOfRoots 9 = .ok (.iload_n 1, 1) := by decide +kernel
theorem dX1_setOfRoots_10 : decode cX1_setOfRoots 10 = .ok (.aload_n 0, 1) := by decide +kernel
theorem dX1_setOfRoots_11 : decode cX1_setOfRoots 11 = .ok (.getfield 15, 3) := by decide +kernel
theorem dX1_setOfRoots_14 : decode cX1_setOfRoots 14 = .ok (.iload_n 2, 1) := by decide +kernel
theorem dX1_setOfRoots_15 : decode cX1_setOfRoots 15 = .ok (.iaload, 1) := by decide +kernel
theorem dX1_setOfRoots_16 : decode cX1_setOfRoots 16 = .ok (.invokestatic 38, 3) := by decide +kernel
theorem dX1_setOfRoots_19 : decode cX1_setOfRoots 19 = .ok (.ior, 1) := by decide +kernel
theorem dX1_setOfRoots_20 : decode cX1_setOfRoots 20 = .ok (.istore_n 1, 1) := by decide +kernel
theorem dX1_setOfRoots_21 : decode cX1_setOfRoots 21 = .ok (.iinc 2 1, 3) := by decide +kernel
theorem dX1_setOfRoots_24 : decode cX1_setOfRoots 24 = .ok (.goto (-20), 3) := by decide +kernel
theorem dX1_setOfRoots_27 : decode cX1_setOfRoots 27 = .ok (.iload_n 1, 1) := by decide +kernel
theorem dX1_setOfRoots_28 : decode cX1_setOfRoots 28 = .ok (.ireturn, 1) := by decide +kernel
theorem dX1_behind_0 : decode cX1_behind 0 = .ok (.iconst 0, 1) := by decide +kernel
theorem dX1_behind_1 : decode cX1_behind 1 = .ok (.istore_n 2, 1) := by decide +kernel
theorem dX1_behind_2 : decode cX1_behind 2 = .ok (.iconst 0, 1) := by decide +kernel
theorem dX1_behind_3 : decode cX1_behind 3 = .ok (.istore_n 3, 1) := by decide +kernel
theorem dX1_behind_4 : decode cX1_behind 4 = .ok (.iload_n 3, 1) := by decide +kernel
theorem dX1_behind_5 : decode cX1_behind 5 = .ok (.aload_n 0, 1) := by decide +kernel
theorem dX1_behind_6 : decode cX1_behind 6 = .ok (.getfield 9, 3) := by decide +kernel
theorem dX1_behind_9 : decode cX1_behind 9 = .ok (.arraylength, 1) := by decide +kernel
theorem dX1_behind_10 : decode cX1_behind 10 = .ok (.if_icmp .ge 32, 3) := by decide +kernel
theorem dX1_behind_13 : decode cX1_behind 13 = .ok (.iload_n 1, 1) := by decide +kernel
theorem dX1_behind_14 : decode cX1_behind 14 = .ok (.iload_n 3, 1) := by decide +kernel
theorem dX1_behind_15 : decode cX1_behind 15 = .ok (.iconst 3, 1) := by decide +kernel
theorem dX1_behind_16 : decode cX1_behind 16 = .ok (.idiv, 1) := by decide +kernel
theorem dX1_behind_17 : decode cX1_behind 17 = .ok (.invokestatic 38, 3) := by decide +kernel
theorem dX1_behind_20 : decode cX1_behind 20 = .ok (.iand, 1) := by decide +kernel
theorem dX1_behind_21 : decode cX1_behind 21 = .ok (.ifCond .eq 15, 3) := by decide +kernel
theorem dX1_behind_24 : decode cX1_behind 24 = .ok (.iload_n 2, 1) := by decide +kernel
theorem dX1_behind_25 : decode cX1_behind 25 = .ok (.aload_n 0, 1) := by decide +kernel
theorem dX1_behind_26 : decode cX1_behind 26 = .ok (.getfield 9, 3) := by decide +kernel
theorem dX1_behind_29 : decode cX1_behind 29 = .ok (.iload_n 3, 1) := by decide +kernel
theorem dX1_behind_30 : decode cX1_behind 30 = .ok (.iaload, 1) := by decide +kernel
theorem dX1_behind_31 : decode cX1_behind 31 = .ok (.invokestatic 38, 3) := by decide +kernel
theorem dX1_behind_34 : decode cX1_behind 34 = .ok (.ior, 1) := by decide +kernel
theorem dX1_behind_35 : decode cX1_behind 35 = .ok (.istore_n 2, 1) := by decide +kernel
theorem dX1_behind_36 : decode cX1_behind 36 = .ok (.iinc 3 1, 3) := by decide +kernel
theorem dX1_behind_39 : decode cX1_behind 39 = .ok (.goto (-35), 3) := by decide +kernel
theorem dX1_behind_42 : decode cX1_behind 42 = .ok (.iload_n 2, 1) := by decide +kernel
theorem dX1_behind_43 : decode cX1_behind 43 = .ok (.ireturn, 1) := by decide +kernel
theorem dX1_reachedFrom_0 : decode cX1_reachedFrom 0 = .ok (.iconst 0, 1) := by decide +kernel
theorem dX1_reachedFrom_1 : decode cX1_reachedFrom 1 = .ok (.istore_n 3, 1) := by decide +kernel
theorem dX1_reachedFrom_2 : decode cX1_reachedFrom 2 = .ok (.iload_n 1, 1) := by decide +kernel
theorem dX1_reachedFrom_3 : decode cX1_reachedFrom 3 = .ok (.iload_n 2, 1) := by decide +kernel
theorem dX1_reachedFrom_4 : decode cX1_reachedFrom 4 = .ok (.iconst (-1), 1) := by decide +kernel
theorem dX1_reachedFrom_5 : decode cX1_reachedFrom 5 = .ok (.ixor, 1) := by decide +kernel
theorem dX1_reachedFrom_6 : decode cX1_reachedFrom 6 = .ok (.iand, 1) := by decide +kernel
theorem dX1_reachedFrom_7 : decode cX1_reachedFrom 7 = .ok (.istore 4, 2) := by decide +kernel
theorem dX1_reachedFrom_9 : decode cX1_reachedFrom 9 = .ok (.iconst 0, 1) := by decide +kernel
theorem dX1_reachedFrom_10 : decode cX1_reachedFrom 10 = .ok (.istore 5, 2) := by decide +kernel
theorem dX1_reachedFrom_12 : decode cX1_reachedFrom 12 = .ok (.iload 5, 2) := by decide +kernel
theorem dX1_reachedFrom_14 : decode cX1_reachedFrom 14 = .ok (.bipush 24, 2) := by decide +kernel
theorem dX1_reachedFrom_16 : decode cX1_reachedFrom 16 = .ok (.if_icmp .ge 32, 3) := by decide +kernel
theorem dX1_reachedFrom_19 : decode cX1_reachedFrom 19 = .ok (.iload 4, 2) := by decide +kernel
theorem dX1_reachedFrom_21 : decode cX1_reachedFrom 21 = .ok (.iload_n 3, 1) := by decide +kernel
theorem dX1_reachedFrom_22 : decode cX1_reachedFrom 22 = .ok (.if_icmp .eq 26, 3) := by decide +kernel
theorem dX1_reachedFrom_25 : decode cX1_reachedFrom 25 = .ok (.iload 4, 2) := by decide +kernel
theorem dX1_reachedFrom_27 : decode cX1_reachedFrom 27 = .ok (.istore_n 3, 1) := by decide +kernel
theorem dX1_reachedFrom_28 : decode cX1_reachedFrom 28 = .ok (.iload 4, 2) := by decide +kernel
theorem dX1_reachedFrom_30 : decode cX1_reachedFrom 30 = .ok (.aload_n 0, 1) := by decide +kernel
theorem dX1_reachedFrom_31 : decode cX1_reachedFrom 31 = .ok (.iload_n 3, 1) := by decide +kernel
theorem dX1_reachedFrom_32 : decode cX1_reachedFrom 32 = .ok (.invokevirtual 75, 3) := by decide +kernel
theorem dX1_reachedFrom_35 : decode cX1_reachedFrom 35 = .ok (.iload_n 2, 1) := by decide +kernel
theorem dX1_reachedFrom_36 : decode cX1_reachedFrom 36 = .ok (.iconst (-1), 1) := by decide +kernel
theorem dX1_reachedFrom_37 : decode cX1_reachedFrom 37 = .ok (.ixor, 1) := by decide +kernel
theorem dX1_reachedFrom_38 : decode cX1_reachedFrom 38 = .ok (.iand, 1) := by decide +kernel
theorem dX1_reachedFrom_39 : decode cX1_reachedFrom 39 = .ok (.ior, 1) := by decide +kernel
theorem dX1_reachedFrom_40 : decode cX1_reachedFrom 40 = .ok (.istore 4, 2) := by decide +kernel
theorem dX1_reachedFrom_42 : decode cX1_reachedFrom 42 = .ok (.iinc 5 1, 3) := by decide +kernel
theorem dX1_reachedFrom_45 : decode cX1_reachedFrom 45 = .ok (.goto (-33), 3) := by decide +kernel
theorem dX1_reachedFrom_48 : decode cX1_reachedFrom 48 = .ok (.iload 4, 2) := by decide +kernel
theorem dX1_reachedFrom_50 : decode cX1_reachedFrom 50 = .ok (.ireturn, 1) := by decide +kernel
theorem dX1_reachedByRoots_0 : decode cX1_reachedByRoots 0 = .ok (.aload_n 0, 1) := by decide +kernel
theorem dX1_reachedByRoots_1 : decode cX1_reachedByRoots 1 = .ok (.aload_n 0, 1) := by decide +kernel
theorem dX1_reachedByRoots_2 : decode cX1_reachedByRoots 2 = .ok (.invokevirtual 78, 3) := by decide +kernel
theorem dX1_reachedByRoots_5 : decode cX1_reachedByRoots 5 = .ok (.iconst 0, 1) := by decide +kernel
theorem dX1_reachedByRoots_6 : decode cX1_reachedByRoots 6 = .ok (.invokevirtual 82, 3) := by decide +kernel
theorem dX1_reachedByRoots_9 : decode cX1_reachedByRoots 9 = .ok (.ireturn, 1) := by decide +kernel
theorem dX1_reachedByAll_0 : decode cX1_reachedByAll 0 = .ok (.aload_n 0, 1) := by decide +kernel
theorem dX1_reachedByAll_1 : decode cX1_reachedByAll 1 = .ok (.aload_n 0, 1) := by decide +kernel
theorem dX1_reachedByAll_2 : decode cX1_reachedByAll 2 = .ok (.invokevirtual 78, 3) := by decide +kernel
theorem dX1_reachedByAll_5 : decode cX1_reachedByAll 5 = .ok (.aload_n 0, 1) := by decide +kernel
theorem dX1_reachedByAll_6 : decode cX1_reachedByAll 6 = .ok (.getfield 24, 3) := by decide +kernel
theorem dX1_reachedByAll_9 : decode cX1_reachedByAll 9 = .ok (.invokevirtual 85, 3) := by decide +kernel
theorem dX1_reachedByAll_12 : decode cX1_reachedByAll 12 = .ok (.ior, 1) := by decide +kernel
theorem dX1_reachedByAll_13 : decode cX1_reachedByAll 13 = .ok (.iconst 0, 1) := by decide +kernel
theorem dX1_reachedByAll_14 : decode cX1_reachedByAll 14 = .ok (.invokevirtual 82, 3) := by decide +kernel
theorem dX1_reachedByAll_17 : decode cX1_reachedByAll 17 = .ok (.ireturn, 1) := by decide +kernel
theorem dX4_isThere_0 : decode cX4_isThere 0 = .ok (.aload_n 0, 1) := by decide +kernel
theorem dX4_isThere_1 : decode cX4_isThere 1 = .ok (.getfield 9, 3) := by decide +kernel
theorem dX4_isThere_4 : decode cX4_isThere 4 = .ok (.ifCond .eq 7, 3) := by decide +kernel
theorem dX4_isThere_7 : decode cX4_isThere 7 = .ok (.iconst 1, 1) := by decide +kernel
theorem dX4_isThere_8 : decode cX4_isThere 8 = .ok (.goto 4, 3) := by decide +kernel
theorem dX4_isThere_11 : decode cX4_isThere 11 = .ok (.iconst 0, 1) := by decide +kernel
theorem dX4_isThere_12 : decode cX4_isThere 12 = .ok (.ireturn, 1) := by decide +kernel
theorem dX4_needsCare_0 : decode cX4_needsCare 0 = .ok (.aload_n 0, 1) := by decide +kernel
theorem dX4_needsCare_1 : decode cX4_needsCare 1 = .ok (.getfield 9, 3) := by decide +kernel
theorem dX4_needsCare_4 : decode cX4_needsCare 4 = .ok (.iconst 1, 1) := by decide +kernel
theorem dX4_needsCare_5 : decode cX4_needsCare 5 = .ok (.if_icmp .eq 11, 3) := by decide +kernel
theorem dX4_needsCare_8 : decode cX4_needsCare 8 = .ok (.aload_n 0, 1) := by decide +kernel
theorem dX4_needsCare_9 : decode cX4_needsCare 9 = .ok (.getfield 9, 3) := by decide +kernel
theorem dX4_needsCare_12 : decode cX4_needsCare 12 = .ok (.iconst 2, 1) := by decide +kernel
theorem dX4_needsCare_13 : decode cX4_needsCare 13 = .ok (.if_icmp .ne 7, 3) := by decide +kernel
theorem dX4_needsCare_16 : decode cX4_needsCare 16 = .ok (.iconst 1, 1) := by decide +kernel
theorem dX4_needsCare_17 : decode cX4_needsCare 17 = .ok (.goto 4, 3) := by decide +kernel
theorem dX4_needsCare_20 : decode cX4_needsCare 20 = .ok (.iconst 0, 1) := by decide +kernel
theorem dX4_needsCare_21 : decode cX4_needsCare 21 = .ok (.ireturn, 1) := by decide +kernel
theorem dX4_isBlack_0 : decode cX4_isBlack 0 = .ok (.aload_n 0, 1) := by decide +kernel
theorem dX4_isBlack_1 : decode cX4_isBlack 1 = .ok (.getfield 22, 3) := by decide +kernel
theorem dX4_isBlack_4 : decode cX4_isBlack 4 = .ok (.iload_n 1, 1) := by decide +kernel
theorem dX4_isBlack_5 : decode cX4_isBlack 5 = .ok (.invokestatic 25, 3) := by decide +kernel
theorem dX4_isBlack_8 : decode cX4_isBlack 8 = .ok (.iand, 1) := by decide +kernel
theorem dX4_isBlack_9 : decode cX4_isBlack 9 = .ok (.ifCond .eq 7, 3) := by decide +kernel
theorem dX4_isBlack_12 : decode cX4_isBlack 12 = .ok (.iconst 1, 1) := by decide +kernel
theorem dX4_isBlack_13 : decode cX4_isBlack 13 = .ok (.goto 4, 3) := by decide +kernel
theorem dX4_isBlack_16 : decode cX4_isBlack 16 = .ok (.iconst 0, 1) := by decide +kernel
theorem dX4_isBlack_17 : decode cX4_isBlack 17 = .ok (.ireturn, 1) := by decide +kernel
theorem dX4_colourOf_0 : decode cX4_colourOf 0 = .ok (.aload_n 0, 1) := by decide +kernel
theorem dX4_colourOf_1 : decode cX4_colourOf 1 = .ok (.iload_n 1, 1) := by decide +kernel
theorem dX4_colourOf_2 : decode cX4_colourOf 2 = .ok (.invokevirtual 29, 3) := by decide +kernel
theorem dX4_colourOf_5 : decode cX4_colourOf 5 = .ok (.ifCond .eq 5, 3) := by decide +kernel
theorem dX4_colourOf_8 : decode cX4_colourOf 8 = .ok (.iconst 2, 1) := by decide +kernel
theorem dX4_colourOf_9 : decode cX4_colourOf 9 = .ok (.ireturn, 1) := by decide +kernel
theorem dX4_colourOf_10 : decode cX4_colourOf 10 = .ok (.aload_n 0, 1) := by decide +kernel
theorem dX4_colourOf_11 : decode cX4_colourOf 11 = .ok (.getfield 33, 3) := by decide +kernel
theorem dX4_colourOf_14 : decode cX4_colourOf 14 = .ok (.iload_n 1, 1) := by decide +kernel
theorem dX4_colourOf_15 : decode cX4_colourOf 15 = .ok (.invokestatic 25, 3) := by decide +kernel
theorem dX4_colourOf_18 : decode cX4_colourOf 18 = .ok (.iand, 1) := by decide +kernel
theorem dX4_colourOf_19 : decode cX4_colourOf 19 = .ok (.ifCond .eq 7, 3) := by decide +kernel
theorem dX4_colourOf_22 : decode cX4_colourOf 22 = .ok (.iconst 1, 1) := by decide +kernel
theorem dX4_colourOf_23 : decode cX4_colourOf 23 = .ok (.goto 4, 3) := by decide +kernel
theorem dX4_colourOf_26 : decode cX4_colourOf 26 = .ok (.iconst 0, 1) := by decide +kernel
theorem dX4_colourOf_27 : decode cX4_colourOf 27 = .ok (.ireturn, 1) := by decide +kernel
theorem dX4_shade_0 : decode cX4_shade 0 = .ok (.iload_n 1, 1) := by decide +kernel
theorem dX4_shade_1 : decode cX4_shade 1 = .ok (.invokestatic 25, 3) := by decide +kernel
theorem dX4_shade_4 : decode cX4_shade 4 = .ok (.istore_n 2, 1) := by decide +kernel
theorem dX4_shade_5 : decode cX4_shade 5 = .ok (.iload_n 2, 1) := by decide +kernel
theorem dX4_shade_6 : decode cX4_shade 6 = .ok (.ifCond .eq 17, 3) := by decide +kernel
theorem dX4_shade_9 : decode cX4_shade 9 = .ok (.aload_n 0, 1) := by decide +kernel
theorem dX4_shade_10 : decode cX4_shade 10 = .ok (.getfield 33, 3) := by decide +kernel
theorem dX4_shade_13 : decode cX4_shade 13 = .ok (.aload_n 0, 1) := by decide +kernel
theorem dX4_shade_14 : decode cX4_shade 14 = .ok (.getfield 22, 3) := by decide +kernel
theorem dX4_shade_17 : decode cX4_shade 17 = .ok (.ior, 1) := by decide +kernel
theorem dX4_shade_18 : decode cX4_shade 18 = .ok (.iload_n 2, 1) := by decide +kernel
theorem dX4_shade_19 : decode cX4_shade 19 = .ok (.iand, 1) := by decide +kernel
theorem dX4_shade_20 : decode cX4_shade 20 = .ok (.ifCond .eq 4, 3) := by decide +kernel
theorem dX4_shade_23 : decode cX4_shade 23 = .ok (.return_, 1) := by decide +kernel
theorem dX4_shade_24 : decode cX4_shade 24 = .ok (.aload_n 0, 1) := by decide +kernel
theorem dX4_shade_25 : decode cX4_shade 25 = .ok (.dup, 1) := by decide +kernel
theorem dX4_shade_26 : decode cX4_shade 26 = .ok (.getfield 33, 3) := by decide +kernel
theorem dX4_shade_29 : decode cX4_shade 29 = .ok (.iload_n 2, 1) := by decide +kernel
theorem dX4_shade_30 : decode cX4_shade 30 = .ok (.ior, 1) := by decide +kernel
theorem dX4_shade_31 : decode cX4_shade 31 = .ok (.putfield 33, 3) := by decide +kernel
theorem dX4_shade_34 : decode cX4_shade 34 = .ok (.aload_n 0, 1) := by decide +kernel
theorem dX4_shade_35 : decode cX4_shade 35 = .ok (.getfield 18, 3) := by decide +kernel
theorem dX4_shade_38 : decode cX4_shade 38 = .ok (.iload_n 1, 1) := by decide +kernel
theorem dX4_shade_39 : decode cX4_shade 39 = .ok (.invokevirtual 41, 3) := by decide +kernel
theorem dX4_shade_42 : decode cX4_shade 42 = .ok (.return_, 1) := by decide +kernel
theorem dX4_colourNewOne_0 : decode cX4_colourNewOne 0 = .ok (.aload_n 0, 1) := by decide +kernel
theorem dX4_colourNewOne_1 : decode cX4_colourNewOne 1 = .ok (.invokevirtual 45, 3) := by decide +kernel
theorem dX4_colourNewOne_4 : decode cX4_colourNewOne 4 = .ok (.ifCond .ne 19, 3) := by decide +kernel
theorem dX4_colourNewOne_7 : decode cX4_colourNewOne 7 = .ok (.aload_n 0, 1) := by decide +kernel
theorem dX4_colourNewOne_8 : decode cX4_colourNewOne 8 = .ok (.getfield 9, 3) := by decide +kernel
theorem dX4_colourNewOne_11 : decode cX4_colourNewOne 11 = .ok (.iconst 3, 1) := by decide +kernel
theorem dX4_colourNewOne_12 : decode cX4_colourNewOne 12 = .ok (.if_icmp .ne 24, 3) := by decide +kernel
theorem dX4_colourNewOne_15 : decode cX4_colourNewOne 15 = .ok (.iload_n 1, 1) := by decide +kernel
theorem dX4_colourNewOne_16 : decode cX4_colourNewOne 16 = .ok (.aload_n 0, 1) := by decide +kernel
theorem dX4_colourNewOne_17 : decode cX4_colourNewOne 17 = .ok (.getfield 49, 3) := by decide +kernel
theorem dX4_colourNewOne_20 : decode cX4_colourNewOne 20 = .ok (.if_icmp .lt 16, 3) := by decide +kernel
theorem dX4_colourNewOne_23 : decode cX4_colourNewOne 23 = .ok (.aload_n 0, 1) := by decide +kernel
theorem dX4_colourNewOne_24 : decode cX4_colourNewOne 24 = .ok (.dup, 1) := by decide +kernel
theorem dX4_colourNewOne_25 : decode cX4_colourNewOne 25 = .ok (.getfield 22, 3) := by decide +kernel
theorem dX4_colourNewOne_28 : decode cX4_colourNewOne 28 = .ok (.iload_n 1, 1) := by decide +kernel
theorem dX4_colourNewOne_29 : decode cX4_colourNewOne 29 = .ok (.invokestatic 25, 3) := by decide +kernel
theorem dX4_colourNewOne_32 : decode cX4_colourNewOne 32 = .ok (.ior, 1) := by decide +kernel
theorem dX4_colourNewOne_33 : decode cX4_colourNewOne 33 = .ok (.putfield 22, 3) := by decide +kernel
theorem dX4_colourNewOne_36 : decode cX4_colourNewOne 36 = .ok (.return_, 1) := by decide +kernel
theorem dX4_whiteOnes_0 : decode cX4_whiteOnes 0 = .ok (.aload_n 1, 1) := by decide +kernel
theorem dX4_whiteOnes_1 : decode cX4_whiteOnes 1 = .ok (.getfield 36, 3) := by decide +kernel
theorem dX4_whiteOnes_4 : decode cX4_whiteOnes 4 = .ok (.aload_n 0, 1) := by decide +kernel
theorem dX4_whiteOnes_5 : decode cX4_whiteOnes 5 = .ok (.getfield 33, 3) := by decide +kernel
theorem dX4_whiteOnes_8 : decode cX4_whiteOnes 8 = .ok (.aload_n 0, 1) := by decide +kernel
theorem dX4_whiteOnes_9 : decode cX4_whiteOnes 9 = .ok (.getfield 22, 3) := by decide +kernel
theorem dX4_whiteOnes_12 : decode cX4_whiteOnes 12 = .ok (.ior, 1) := by decide +kernel
theorem dX4_whiteOnes_13 : decode cX4_whiteOnes 13 = .ok (.iconst (-1), 1) := by decide +kernel
theorem dX4_whiteOnes_14 : decode cX4_whiteOnes 14 = .ok (.ixor, 1) := by decide +kernel
theorem dX4_whiteOnes_15 : decode cX4_whiteOnes 15 = .ok (.iand, 1) := by decide +kernel
theorem dX4_whiteOnes_16 : decode cX4_whiteOnes 16 = .ok (.ireturn, 1) := by decide +kernel
theorem dX4_open_0 : decode cX4_open 0 = .ok (.aload_n 0, 1) := by decide +kernel
theorem dX4_open_1 : decode cX4_open 1 = .ok (.iconst 1, 1) := by decide +kernel
theorem dX4_open_2 : decode cX4_open 2 = .ok (.putfield 9, 3) := by decide +kernel
theorem dX4_open_5 : decode cX4_open 5 = .ok (.aload_n 0, 1) := by decide +kernel
theorem dX4_open_6 : decode cX4_open 6 = .ok (.dup, 1) := by decide +kernel
theorem dX4_open_7 : decode cX4_open 7 = .ok (.getfield 52, 3) := by decide +kernel
theorem dX4_open_10 : decode cX4_open 10 = .ok (.iconst 1, 1) := by decide +kernel
theorem dX4_open_11 : decode cX4_open 11 = .ok (.iadd, 1) := by decide +kernel
theorem dX4_open_12 : decode cX4_open 12 = .ok (.putfield 52, 3) := by decide +kernel
theorem dX4_open_15 : decode cX4_open 15 = .ok (.aload_n 0, 1) := by decide +kernel
theorem dX4_open_16 : decode cX4_open 16 = .ok (.iconst 0, 1) := by decide +kernel
theorem dX4_open_17 : decode cX4_open 17 = .ok (.putfield 55, 3) := by decide +kernel
theorem dX4_open_20 : decode cX4_open 20 = .ok (.aload_n 0, 1) := by decide +kernel
theorem dX4_open_21 : decode cX4_open 21 = .ok (.iconst 0, 1) := by decide +kernel
theorem dX4_open_22 : decode cX4_open 22 = .ok (.putfield 58, 3) := by decide +kernel
theorem dX4_open_25 : decode cX4_open 25 = .ok (.iconst 0, 1) := by decide +kernel
theorem dX4_open_26 : decode cX4_open 26 = .ok (.istore_n 2, 1) := by decide +kernel
theorem dX4_open_27 : decode cX4_open 27 = .ok (.iload_n 2, 1) := by decide +kernel
theorem dX4_open_28 : decode cX4_open 28 = .ok (.iconst 4, 1) := by decide +kernel
theorem dX4_open_29 : decode cX4_open 29 = .ok (.if_icmp .ge 18, 3) := by decide +kernel
theorem dX4_open_32 : decode cX4_open 32 = .ok (.aload_n 0, 1) := by decide +kernel
theorem dX4_open_33 : decode cX4_open 33 = .ok (.aload_n 1, 1) := by decide +kernel
theorem dX4_open_34 : decode cX4_open 34 = .ok (.iload_n 2, 1) := by decide +kernel
theorem dX4_open_35 : decode cX4_open 35 = .ok (.invokevirtual 61, 3) := by decide +kernel
theorem dX4_open_38 : decode cX4_open 38 = .ok (.invokevirtual 64, 3) := by decide +kernel
theorem dX4_open_41 : decode cX4_open 41 = .ok (.iinc 2 1, 3) := by decide +kernel
theorem dX4_open_44 : decode cX4_open 44 = .ok (.goto (-17), 3) := by decide +kernel
theorem dX4_open_47 : decode cX4_open 47 = .ok (.iconst 0, 1) := by decide +kernel
theorem dX4_open_48 : decode cX4_open 48 = .ok (.istore_n 2, 1) := by decide +kernel
theorem dX4_open_49 : decode cX4_open 49 = .ok (.iload_n 2, 1) := by decide +kernel
theorem dX4_open_50 : decode cX4_open 50 = .ok (.aload_n 1, 1) := by decide +kernel
theorem dX4_open_51 : decode cX4_open 51 = .ok (.getfield 67, 3) := by decide +kernel
theorem dX4_open_54 : decode cX4_open 54 = .ok (.getfield 70, 3) := by decide +kernel
theorem dX4_open_57 : decode cX4_open 57 = .ok (.if_icmp .ge 21, 3) := by decide +kernel
theorem dX4_open_60 : decode cX4_open 60 = .ok (.aload_n 0, 1) := by decide +kernel
theorem dX4_open_61 : decode cX4_open 61 = .ok (.aload_n 1, 1) := by decide +kernel
theorem dX4_open_62 : decode cX4_open 62 = .ok (.getfield 67, 3) := by decide +kernel
theorem dX4_open_65 : decode cX4_open 65 = .ok (.iload_n 2, 1) := by decide +kernel
theorem dX4_open_66 : decode cX4_open 66 = .ok (.invokevirtual 73, 3) := by decide +kernel
theorem dX4_open_69 : decode cX4_open 69 = .ok (.invokevirtual 64, 3) := by decide +kernel
theorem dX4_open_72 : decode cX4_open 72 = .ok (.iinc 2 1, 3) := by decide +kernel
theorem dX4_open_75 : decode cX4_open 75 = .ok (.goto (-26), 3) := by decide +kernel
theorem dX4_open_78 : decode cX4_open 78 = .ok (.return_, 1) := by decide +kernel
theorem dX4_findToFinish_0 : decode cX4_findToFinish 0 = .ok (.aload_n 0, 1) := by decide +kernel
theorem dX4_findToFinish_1 : decode cX4_findToFinish 1 = .ok (.aload_n 1, 1) := by decide +kernel
theorem dX4_findToFinish_2 : decode cX4_findToFinish 2 = .ok (.invokevirtual 83, 3) := by decide +kernel
theorem dX4_findToFinish_5 : decode cX4_findToFinish 5 = .ok (.aload_n 1, 1) := by decide +kernel
theorem dX4_findToFinish_6 : decode cX4_findToFinish 6 = .ok (.getfield 101, 3) := by decide +kernel
theorem dX4_findToFinish_9 : decode cX4_findToFinish 9 = .ok (.iand, 1) := by decide +kernel
theorem dX4_findToFinish_10 : decode cX4_findToFinish 10 = .ok (.iconst 0, 1) := by decide +kernel
theorem dX4_findToFinish_11 : decode cX4_findToFinish 11 = .ok (.invokestatic 104, 3) := by decide +kernel
theorem dX4_findToFinish_14 : decode cX4_findToFinish 14 = .ok (.istore_n 2, 1) := by decide +kernel
theorem dX4_findToFinish_15 : decode cX4_findToFinish 15 = .ok (.iload_n 2, 1) := by decide +kernel
theorem dX4_findToFinish_16 : decode cX4_findToFinish 16 = .ok (.iconst (-1), 1) := by decide +kernel
theorem dX4_findToFinish_17 : decode cX4_findToFinish 17 = .ok (.if_icmp .ne 25, 3) := by decide +kernel
theorem dX4_findToFinish_20 : decode cX4_findToFinish 20 = .ok (.aload_n 1, 1) := by decide +kernel
theorem dX4_findToFinish_21 : decode cX4_findToFinish 21 = .ok (.aload_n 0, 1) := by decide +kernel
theorem dX4_findToFinish_22 : decode cX4_findToFinish 22 = .ok (.aload_n 1, 1) := by decide +kernel
theorem dX4_findToFinish_23 : decode cX4_findToFinish 23 = .ok (.invokevirtual 83, 3) := by decide +kernel
theorem dX4_findToFinish_26 : decode cX4_findToFinish 26 = .ok (.invokevirtual 87, 3) := by decide +kernel
theorem dX4_findToFinish_29 : decode cX4_findToFinish 29 = .ok (.aload_n 0, 1) := by decide +kernel
theorem dX4_findToFinish_30 : decode cX4_findToFinish 30 = .ok (.iconst 3, 1) := by decide +kernel
theorem dX4_findToFinish_31 : decode cX4_findToFinish 31 = .ok (.putfield 9, 3) := by decide +kernel
theorem dX4_findToFinish_34 : decode cX4_findToFinish 34 = .ok (.aload_n 0, 1) := by decide +kernel
theorem dX4_findToFinish_35 : decode cX4_findToFinish 35 = .ok (.iconst 0, 1) := by decide +kernel
theorem dX4_findToFinish_36 : decode cX4_findToFinish 36 = .ok (.putfield 49, 3) := by decide +kernel
theorem dX4_findToFinish_39 : decode cX4_findToFinish 39 = .ok (.goto 31, 3) := by decide +kernel
theorem dX4_findToFinish_42 : decode cX4_findToFinish 42 = .ok (.aload_n 1, 1) := by decide +kernel
theorem dX4_findToFinish_43 : decode cX4_findToFinish 43 = .ok (.dup, 1) := by decide +kernel
theorem dX4_findToFinish_44 : decode cX4_findToFinish 44 = .ok (.getfield 101, 3) := by decide +kernel
theorem dX4_findToFinish_47 : decode cX4_findToFinish 47 = .ok (.iload_n 2, 1) := by decide +kernel
theorem dX4_findToFinish_48 : decode cX4_findToFinish 48 = .ok (.invokestatic 25, 3) := by decide +kernel
theorem dX4_findToFinish_51 : decode cX4_findToFinish 51 = .ok (.iconst (-1), 1) := by decide +kernel
theorem dX4_findToFinish_52 : decode cX4_findToFinish 52 = .ok (.ixor, 1) := by decide +kernel
theorem dX4_findToFinish_53 : decode cX4_findToFinish 53 = .ok (.iand, 1) := by decide +kernel
theorem dX4_findToFinish_54 : decode cX4_findToFinish 54 = .ok (.putfield 101, 3) := by decide +kernel
theorem dX4_findToFinish_57 : decode cX4_findToFinish 57 = .ok (.aload_n 1, 1) := by decide +kernel
theorem dX4_findToFinish_58 : decode cX4_findToFinish 58 = .ok (.getfield 67, 3) := by decide +kernel
theorem dX4_findToFinish_61 : decode cX4_findToFinish 61 = .ok (.iload_n 2, 1) := by decide +kernel
theorem dX4_findToFinish_62 : decode cX4_findToFinish 62 = .ok (.invokevirtual 41, 3) := by decide +kernel
theorem dX4_findToFinish_65 : decode cX4_findToFinish 65 = .ok (.aload_n 0, 1) := by decide +kernel
theorem dX4_findToFinish_66 : decode cX4_findToFinish 66 = .ok (.iload_n 2, 1) := by decide +kernel
theorem dX4_findToFinish_67 : decode cX4_findToFinish 67 = .ok (.invokevirtual 64, 3) := by decide +kernel
theorem dX4_findToFinish_70 : decode cX4_findToFinish 70 = .ok (.return_, 1) := by decide +kernel
theorem dX4_markFirst_0 : decode cX4_markFirst 0 = .ok (.aload_n 0, 1) := by decide +kernel
theorem dX4_markFirst_1 : decode cX4_markFirst 1 = .ok (.getfield 18, 3) := by decide +kernel
theorem dX4_markFirst_4 : decode cX4_markFirst 4 = .ok (.invokevirtual 93, 3) := by decide +kernel
theorem dX4_markFirst_7 : decode cX4_markFirst 7 = .ok (.istore_n 2, 1) := by decide +kernel
theorem dX4_markFirst_8 : decode cX4_markFirst 8 = .ok (.iconst 0, 1) := by decide +kernel
theorem dX4_markFirst_9 : decode cX4_markFirst 9 = .ok (.istore_n 3, 1) := by decide +kernel
theorem dX4_markFirst_10 : decode cX4_markFirst 10 = .ok (.iload_n 3, 1) := by decide +kernel
theorem dX4_markFirst_11 : decode cX4_markFirst 11 = .ok (.iconst 3, 1) := by decide +kernel
theorem dX4_markFirst_12 : decode cX4_markFirst 12 = .ok (.if_icmp .ge 19, 3) := by decide +kernel
theorem dX4_markFirst_15 : decode cX4_markFirst 15 = .ok (.aload_n 0, 1) := by decide +kernel
theorem dX4_markFirst_16 : decode cX4_markFirst 16 = .ok (.aload_n 1, 1) := by decide +kernel
theorem dX4_markFirst_17 : decode cX4_markFirst 17 = .ok (.iload_n 2, 1) := by decide +kernel
theorem dX4_markFirst_18 : decode cX4_markFirst 18 = .ok (.iload_n 3, 1) := by decide +kernel
theorem dX4_markFirst_19 : decode cX4_markFirst 19 = .ok (.invokevirtual 97, 3) := by decide +kernel
theorem dX4_markFirst_22 : decode cX4_markFirst 22 = .ok (.invokevirtual 64, 3) := by decide +kernel
theorem dX4_markFirst_25 : decode cX4_markFirst 25 = .ok (.iinc 3 1, 3) := by decide +kernel
theorem dX4_markFirst_28 : decode cX4_markFirst 28 = .ok (.goto (-18), 3) := by decide +kernel
theorem dX4_markFirst_31 : decode cX4_markFirst 31 = .ok (.aload_n 0, 1) := by decide +kernel
theorem dX4_markFirst_32 : decode cX4_markFirst 32 = .ok (.dup, 1) := by decide +kernel
theorem dX4_markFirst_33 : decode cX4_markFirst 33 = .ok (.getfield 33, 3) := by decide +kernel
theorem dX4_markFirst_36 : decode cX4_markFirst 36 = .ok (.iload_n 2, 1) := by decide +kernel
theorem dX4_markFirst_37 : decode cX4_markFirst 37 = .ok (.invokestatic 25, 3) := by decide +kernel
theorem dX4_markFirst_40 : decode cX4_markFirst 40 = .ok (.iconst (-1), 1) := by decide +kernel
theorem dX4_markFirst_41 : decode cX4_markFirst 41 = .ok (.ixor, 1) := by decide +kernel
theorem dX4_markFirst_42 : decode cX4_markFirst 42 = .ok (.iand, 1) := by decide +kernel
theorem dX4_markFirst_43 : decode cX4_markFirst 43 = .ok (.putfield 33, 3) := by decide +kernel
theorem dX4_markFirst_46 : decode cX4_markFirst 46 = .ok (.aload_n 0, 1) := by decide +kernel
theorem dX4_markFirst_47 : decode cX4_markFirst 47 = .ok (.dup, 1) := by decide +kernel
theorem dX4_markFirst_48 : decode cX4_markFirst 48 = .ok (.getfield 22, 3) := by decide +kernel
theorem dX4_markFirst_51 : decode cX4_markFirst 51 = .ok (.iload_n 2, 1) := by decide +kernel
theorem dX4_markFirst_52 : decode cX4_markFirst 52 = .ok (.invokestatic 25, 3) := by decide +kernel
theorem dX4_markFirst_55 : decode cX4_markFirst 55 = .ok (.ior, 1) := by decide +kernel
theorem dX4_markFirst_56 : decode cX4_markFirst 56 = .ok (.putfield 22, 3) := by decide +kernel
theorem dX4_markFirst_59 : decode cX4_markFirst 59 = .ok (.return_, 1) := by decide +kernel
theorem dX4_sweep_0 : decode cX4_sweep 0 = .ok (.aload_n 1, 1) := by decide +kernel
theorem dX4_sweep_1 : decode cX4_sweep 1 = .ok (.getfield 36, 3) := by decide +kernel
theorem dX4_sweep_4 : decode cX4_sweep 4 = .ok (.aload_n 0, 1) := by decide +kernel
theorem dX4_sweep_5 : decode cX4_sweep 5 = .ok (.getfield 49, 3) := by decide +kernel
theorem dX4_sweep_8 : decode cX4_sweep 8 = .ok (.invokestatic 104, 3) := by decide +kernel
theorem dX4_sweep_11 : decode cX4_sweep 11 = .ok (.istore_n 2, 1) := by decide +kernel
theorem dX4_sweep_12 : decode cX4_sweep 12 = .ok (.iload_n 2, 1) := by decide +kernel
theorem dX4_sweep_13 : decode cX4_sweep 13 = .ok (.iconst (-1), 1) := by decide +kernel
theorem dX4_sweep_14 : decode cX4_sweep 14 = .ok (.if_icmp .ne 9, 3) := by decide +kernel
theorem dX4_sweep_17 : decode cX4_sweep 17 = .ok (.aload_n 0, 1) := by decide +kernel
theorem dX4_sweep_18 : decode cX4_sweep 18 = .ok (.iconst 0, 1) := by decide +kernel
theorem dX4_sweep_19 : decode cX4_sweep 19 = .ok (.putfield 9, 3) := by decide +kernel
theorem dX4_sweep_22 : decode cX4_sweep 22 = .ok (.return_, 1) := by decide +kernel
theorem dX4_sweep_23 : decode cX4_sweep 23 = .ok (.iload_n 2, 1) := by decide +kernel
theorem dX4_sweep_24 : decode cX4_sweep 24 = .ok (.invokestatic 25, 3) := by decide +kernel
theorem dX4_sweep_27 : decode cX4_sweep 27 = .ok (.istore_n 3, 1) := by decide +kernel
theorem dX4_sweep_28 : decode cX4_sweep 28 = .ok (.aload_n 0, 1) := by decide +kernel
theorem dX4_sweep_29 : decode cX4_sweep 29 = .ok (.aload_n 1, 1) := by decide +kernel
theorem dX4_sweep_30 : decode cX4_sweep 30 = .ok (.invokevirtual 83, 3) := by decide +kernel
theorem dX4_sweep_33 : decode cX4_sweep 33 = .ok (.iload_n 3, 1) := by decide +kernel
theorem dX4_sweep_34 : decode cX4_sweep 34 = .ok (.iand, 1) := by decide +kernel
theorem dX4_sweep_35 : decode cX4_sweep 35 = .ok (.ifCond .eq 31, 3) := by decide +kernel
theorem dX4_sweep_38 : decode cX4_sweep 38 = .ok (.aload_n 1, 1) := by decide +kernel
theorem dX4_sweep_39 : decode cX4_sweep 39 = .ok (.iload_n 2, 1) := by decide +kernel
theorem dX4_sweep_40 : decode cX4_sweep 40 = .ok (.invokevirtual 107, 3) := by decide +kernel
theorem dX4_sweep_43 : decode cX4_sweep 43 = .ok (.aload_n 0, 1) := by decide +kernel
theorem dX4_sweep_44 : decode cX4_sweep 44 = .ok (.dup, 1) := by decide +kernel
theorem dX4_sweep_45 : decode cX4_sweep 45 = .ok (.getfield 58, 3) := by decide +kernel
theorem dX4_sweep_48 : decode cX4_sweep 48 = .ok (.iload_n 3, 1) := by decide +kernel
theorem dX4_sweep_49 : decode cX4_sweep 49 = .ok (.ior, 1) := by decide +kernel
theorem dX4_sweep_50 : decode cX4_sweep 50 = .ok (.putfield 58, 3) := by decide +kernel
theorem dX4_sweep_53 : decode cX4_sweep 53 = .ok (.aload_n 0, 1) := by decide +kernel
theorem dX4_sweep_54 : decode cX4_sweep 54 = .ok (.dup, 1) := by decide +kernel
theorem dX4_sweep_55 : decode cX4_sweep 55 = .ok (.getfield 110, 3) := by decide +kernel
theorem dX4_sweep_58 : decode cX4_sweep 58 = .ok (.iconst 1, 1) := by decide +kernel
theorem dX4_sweep_59 : decode cX4_sweep 59 = .ok (.iadd, 1) := by decide +kernel
theorem dX4_sweep_60 : decode cX4_sweep 60 = .ok (.putfield 110, 3) := by decide +kernel
theorem dX4_sweep_63 : decode cX4_sweep 63 = .ok (.goto 15, 3) := by decide +kernel
theorem dX4_sweep_66 : decode cX4_sweep 66 = .ok (.aload_n 0, 1) := by decide +kernel
theorem dX4_sweep_67 : decode cX4_sweep 67 = .ok (.dup, 1) := by decide +kernel
theorem dX4_sweep_68 : decode cX4_sweep 68 = .ok (.getfield 22, 3) := by decide +kernel
theorem dX4_sweep_71 : decode cX4_sweep 71 = .ok (.iload_n 3, 1) := by decide +kernel
theorem dX4_sweep_72 : decode cX4_sweep 72 = .ok (.iconst (-1), 1) := by decide +kernel
theorem dX4_sweep_73 : decode cX4_sweep 73 = .ok (.ixor, 1) := by decide +kernel
theorem dX4_sweep_74 : decode cX4_sweep 74 = .ok (.iand, 1) := by decide +kernel
theorem dX4_sweep_75 : decode cX4_sweep 75 = .ok (.putfield 22, 3) := by decide +kernel
theorem dX4_sweep_78 : decode cX4_sweep 78 = .ok (.aload_n 0, 1) := by decide +kernel
theorem dX4_sweep_79 : decode cX4_sweep 79 = .ok (.iload_n 2, 1) := by decide +kernel
theorem dX4_sweep_80 : decode cX4_sweep 80 = .ok (.iconst 1, 1) := by decide +kernel
theorem dX4_sweep_81 : decode cX4_sweep 81 = .ok (.iadd, 1) := by decide +kernel
theorem dX4_sweep_82 : decode cX4_sweep 82 = .ok (.putfield 49, 3) := by decide +kernel
theorem dX4_sweep_85 : decode cX4_sweep 85 = .ok (.return_, 1) := by decide +kernel
theorem dX4_advance_0 : decode cX4_advance 0 = .ok (.aload_n 0, 1) := by decide +kernel
theorem dX4_advance_1 : decode cX4_advance 1 = .ok (.dup, 1) := by decide +kernel
theorem dX4_advance_2 : decode cX4_advance 2 = .ok (.getfield 55, 3) := by decide +kernel
theorem dX4_advance_5 : decode cX4_advance 5 = .ok (.iconst 1, 1) := by decide +kernel
theorem dX4_advance_6 : decode cX4_advance 6 = .ok (.iadd, 1) := by decide +kernel
theorem dX4_advance_7 : decode cX4_advance 7 = .ok (.putfield 55, 3) := by decide +kernel
theorem dX4_advance_10 : decode cX4_advance 10 = .ok (.aload_n 0, 1) := by decide +kernel
theorem dX4_advance_11 : decode cX4_advance 11 = .ok (.getfield 9, 3) := by decide +kernel
theorem dX4_advance_14 : decode cX4_advance 14 = .ok (.iconst 3, 1) := by decide +kernel
theorem dX4_advance_15 : decode cX4_advance 15 = .ok (.if_icmp .ne 11, 3) := by decide +kernel
theorem dX4_advance_18 : decode cX4_advance 18 = .ok (.aload_n 0, 1) := by decide +kernel
theorem dX4_advance_19 : decode cX4_advance 19 = .ok (.aload_n 1, 1) := by decide +kernel
theorem dX4_advance_20 : decode cX4_advance 20 = .ok (.invokevirtual 76, 3) := by decide +kernel
theorem dX4_advance_23 : decode cX4_advance 23 = .ok (.goto 51, 3) := by decide +kernel
theorem dX4_advance_26 : decode cX4_advance 26 = .ok (.aload_n 0, 1) := by decide +kernel
theorem dX4_advance_27 : decode cX4_advance 27 = .ok (.getfield 18, 3) := by decide +kernel
theorem dX4_advance_30 : decode cX4_advance 30 = .ok (.getfield 70, 3) := by decide +kernel
theorem dX4_advance_33 : decode cX4_advance 33 = .ok (.ifCond .le 11, 3) := by decide +kernel
theorem dX4_advance_36 : decode cX4_advance 36 = .ok (.aload_n 0, 1) := by decide +kernel
theorem dX4_advance_37 : decode cX4_advance 37 = .ok (.aload_n 1, 1) := by decide +kernel
theorem dX4_advance_38 : decode cX4_advance 38 = .ok (.invokevirtual 80, 3) := by decide +kernel
theorem dX4_advance_41 : decode cX4_advance 41 = .ok (.goto 33, 3) := by decide +kernel
theorem dX4_advance_44 : decode cX4_advance 44 = .ok (.aload_n 0, 1) := by decide +kernel
theorem dX4_advance_45 : decode cX4_advance 45 = .ok (.getfield 9, 3) := by decide +kernel
theorem dX4_advance_48 : decode cX4_advance 48 = .ok (.iconst 1, 1) := by decide +kernel
theorem dX4_advance_49 : decode cX4_advance 49 = .ok (.if_icmp .ne 20, 3) := by decide +kernel
theorem dX4_advance_52 : decode cX4_advance 52 = .ok (.aload_n 1, 1) := by decide +kernel
theorem dX4_advance_53 : decode cX4_advance 53 = .ok (.aload_n 0, 1) := by decide +kernel
theorem dX4_advance_54 : decode cX4_advance 54 = .ok (.aload_n 1, 1) := by decide +kernel
theorem dX4_advance_55 : decode cX4_advance 55 = .ok (.invokevirtual 83, 3) := by decide +kernel
theorem dX4_advance_58 : decode cX4_advance 58 = .ok (.invokevirtual 87, 3) := by decide +kernel
theorem dX4_advance_61 : decode cX4_advance 61 = .ok (.aload_n 0, 1) := by decide +kernel
theorem dX4_advance_62 : decode cX4_advance 62 = .ok (.iconst 2, 1) := by decide +kernel
theorem dX4_advance_63 : decode cX4_advance 63 = .ok (.putfield 9, 3) := by decide +kernel
theorem dX4_advance_66 : decode cX4_advance 66 = .ok (.goto 8, 3) := by decide +kernel
theorem dX4_advance_69 : decode cX4_advance 69 = .ok (.aload_n 0, 1) := by decide +kernel
theorem dX4_advance_70 : decode cX4_advance 70 = .ok (.aload_n 1, 1) := by decide +kernel
theorem dX4_advance_71 : decode cX4_advance 71 = .ok (.invokevirtual 90, 3) := by decide +kernel
theorem dX4_advance_74 : decode cX4_advance 74 = .ok (.return_, 1) := by decide +kernel
theorem dX5_takeCare_0 : decode cX5_takeCare 0 = .ok (.aload_n 0, 1) := by decide +kernel
theorem dX5_takeCare_1 : decode cX5_takeCare 1 = .ok (.getfield 21, 3) := by decide +kernel
theorem dX5_takeCare_4 : decode cX5_takeCare 4 = .ok (.invokevirtual 119, 3) := by decide +kernel
theorem dX5_takeCare_7 : decode cX5_takeCare 7 = .ok (.ifCond .ne 4, 3) := by decide +kernel
theorem dX5_takeCare_10 : decode cX5_takeCare 10 = .ok (.return_, 1) := by decide +kernel
theorem dX5_takeCare_11 : decode cX5_takeCare 11 = .ok (.aload_n 0, 1) := by decide +kernel
theorem dX5_takeCare_12 : decode cX5_takeCare 12 = .ok (.getfield 29, 3) := by decide +kernel
theorem dX5_takeCare_15 : decode cX5_takeCare 15 = .ok (.iconst 1, 1) := by decide +kernel
theorem dX5_takeCare_16 : decode cX5_takeCare 16 = .ok (.if_icmp .ne 18, 3) := by decide +kernel
theorem dX5_takeCare_19 : decode cX5_takeCare 19 = .ok (.iload_n 1, 1) := by decide +kernel
theorem dX5_takeCare_20 : decode cX5_takeCare 20 = .ok (.ifCond .eq 27, 3) := by decide +kernel
theorem dX5_takeCare_23 : decode cX5_takeCare 23 = .ok (.aload_n 0, 1) := by decide +kernel
theorem dX5_takeCare_24 : decode cX5_takeCare 24 = .ok (.getfield 21, 3) := by decide +kernel
theorem dX5_takeCare_27 : decode cX5_takeCare 27 = .ok (.iload_n 3, 1) := by decide +kernel
theorem dX5_takeCare_28 : decode cX5_takeCare 28 = .ok (.invokevirtual 123, 3) := by decide +kernel
theorem dX5_takeCare_31 : decode cX5_takeCare 31 = .ok (.goto 16, 3) := by decide +kernel
theorem dX5_takeCare_34 : decode cX5_takeCare 34 = .ok (.iload_n 2, 1) := by decide +kernel
theorem dX5_takeCare_35 : decode cX5_takeCare 35 = .ok (.iload_n 3, 1) := by decide +kernel
theorem dX5_takeCare_36 : decode cX5_takeCare 36 = .ok (.if_icmp .eq 11, 3) := by decide +kernel
theorem dX5_takeCare_39 : decode cX5_takeCare 39 = .ok (.aload_n 0, 1) := by decide +kernel
theorem dX5_takeCare_40 : decode cX5_takeCare 40 = .ok (.getfield 21, 3) := by decide +kernel
theorem dX5_takeCare_43 : decode cX5_takeCare 43 = .ok (.iload_n 2, 1) := by decide +kernel
theorem dX5_takeCare_44 : decode cX5_takeCare 44 = .ok (.invokevirtual 123, 3) := by decide +kernel
theorem dX5_takeCare_47 : decode cX5_takeCare 47 = .ok (.return_, 1) := by decide +kernel
theorem dX5_referRoot_0 : decode cX5_referRoot 0 = .ok (.iload_n 1, 1) := by decide +kernel
theorem dX5_referRoot_1 : decode cX5_referRoot 1 = .ok (.iconst 4, 1) := by decide +kernel
theorem dX5_referRoot_2 : decode cX5_referRoot 2 = .ok (.invokestatic 33, 3) := by decide +kernel
theorem dX5_referRoot_5 : decode cX5_referRoot 5 = .ok (.ifCond .ne 4, 3) := by decide +kernel
theorem dX5_referRoot_8 : decode cX5_referRoot 8 = .ok (.return_, 1) := by decide +kernel
theorem dX5_referRoot_9 : decode cX5_referRoot 9 = .ok (.aload_n 0, 1) := by decide +kernel
theorem dX5_referRoot_10 : decode cX5_referRoot 10 = .ok (.getfield 12, 3) := by decide +kernel
theorem dX5_referRoot_13 : decode cX5_referRoot 13 = .ok (.getfield 116, 3) := by decide +kernel
theorem dX5_referRoot_16 : decode cX5_referRoot 16 = .ok (.iload_n 1, 1) := by decide +kernel
theorem dX5_referRoot_17 : decode cX5_referRoot 17 = .ok (.iaload, 1) := by decide +kernel
theorem dX5_referRoot_18 : decode cX5_referRoot 18 = .ok (.istore_n 3, 1) := by decide +kernel
theorem dX5_referRoot_19 : decode cX5_referRoot 19 = .ok (.aload_n 0, 1) := by decide +kernel
theorem dX5_referRoot_20 : decode cX5_referRoot 20 = .ok (.getfield 12, 3) := by decide +kernel
theorem dX5_referRoot_23 : decode cX5_referRoot 23 = .ok (.getfield 116, 3) := by decide +kernel
theorem dX5_referRoot_26 : decode cX5_referRoot 26 = .ok (.iload_n 1, 1) := by decide +kernel
theorem dX5_referRoot_27 : decode cX5_referRoot 27 = .ok (.iload_n 2, 1) := by decide +kernel
theorem dX5_referRoot_28 : decode cX5_referRoot 28 = .ok (.iastore, 1) := by decide +kernel
theorem dX5_referRoot_29 : decode cX5_referRoot 29 = .ok (.aload_n 0, 1) := by decide +kernel
theorem dX5_referRoot_30 : decode cX5_referRoot 30 = .ok (.iconst 1, 1) := by decide +kernel
theorem dX5_referRoot_31 : decode cX5_referRoot 31 = .ok (.iload_n 3, 1) := by decide +kernel
theorem dX5_referRoot_32 : decode cX5_referRoot 32 = .ok (.iload_n 2, 1) := by decide +kernel
theorem dX5_referRoot_33 : decode cX5_referRoot 33 = .ok (.invokevirtual 80, 3) := by decide +kernel
theorem dX5_referRoot_36 : decode cX5_referRoot 36 = .ok (.return_, 1) := by decide +kernel
theorem dX5_create_0 : decode cX5_create 0 = .ok (.iload_n 1, 1) := by decide +kernel
theorem dX5_create_1 : decode cX5_create 1 = .ok (.iconst 4, 1) := by decide +kernel
theorem dX5_create_2 : decode cX5_create 2 = .ok (.invokestatic 33, 3) := by decide +kernel
theorem dX5_create_5 : decode cX5_create 5 = .ok (.ifCond .ne 6, 3) := by decide +kernel
theorem dX5_create_8 : decode cX5_create 8 = .ok (.bipush (-11), 2) := by decide +kernel
theorem dX5_create_10 : decode cX5_create 10 = .ok (.ireturn, 1) := by decide +kernel
theorem dX5_create_11 : decode cX5_create 11 = .ok (.aload_n 0, 1) := by decide +kernel
theorem dX5_create_12 : decode cX5_create 12 = .ok (.getfield 12, 3) := by decide +kernel
theorem dX5_create_15 : decode cX5_create 15 = .ok (.invokevirtual 37, 3) := by decide +kernel
theorem dX5_create_18 : decode cX5_create 18 = .ok (.istore_n 2, 1) := by decide +kernel
theorem dX5_create_19 : decode cX5_create 19 = .ok (.iload_n 2, 1) := by decide +kernel
theorem dX5_create_20 : decode cX5_create 20 = .ok (.bipush 24, 2) := by decide +kernel
theorem dX5_create_22 : decode cX5_create 22 = .ok (.invokestatic 33, 3) := by decide +kernel
theorem dX5_create_25 : decode cX5_create 25 = .ok (.ifCond .ne 6, 3) := by decide +kernel
theorem dX5_create_28 : decode cX5_create 28 = .ok (.bipush (-13), 2) := by decide +kernel
theorem dX5_create_30 : decode cX5_create 30 = .ok (.ireturn, 1) := by decide +kernel
theorem dX5_create_31 : decode cX5_create 31 = .ok (.aload_n 0, 1) := by decide +kernel
theorem dX5_create_32 : decode cX5_create 32 = .ok (.dup, 1) := by decide +kernel
theorem dX5_create_33 : decode cX5_create 33 = .ok (.getfield 41, 3) := by decide +kernel
theorem dX5_create_36 : decode cX5_create 36 = .ok (.iconst 1, 1) := by decide +kernel
theorem dX5_create_37 : decode cX5_create 37 = .ok (.iadd, 1) := by decide +kernel
theorem dX5_create_38 : decode cX5_create 38 = .ok (.putfield 41, 3) := by decide +kernel
theorem dX5_create_41 : decode cX5_create 41 = .ok (.aload_n 0, 1) := by decide +kernel
theorem dX5_create_42 : decode cX5_create 42 = .ok (.getfield 25, 3) := by decide +kernel
theorem dX5_create_45 : decode cX5_create 45 = .ok (.iload_n 2, 1) := by decide +kernel
theorem dX5_create_46 : decode cX5_create 46 = .ok (.aload_n 0, 1) := by decide +kernel
theorem dX5_create_47 : decode cX5_create 47 = .ok (.getfield 21, 3) := by decide +kernel
theorem dX5_create_50 : decode cX5_create 50 = .ok (.getfield 44, 3) := by decide +kernel
theorem dX5_create_53 : decode cX5_create 53 = .ok (.iastore, 1) := by decide +kernel
theorem dX5_create_54 : decode cX5_create 54 = .ok (.aload_n 0, 1) := by decide +kernel
theorem dX5_create_55 : decode cX5_create 55 = .ok (.getfield 21, 3) := by decide +kernel
theorem dX5_create_58 : decode cX5_create 58 = .ok (.iload_n 2, 1) := by decide +kernel
theorem dX5_create_59 : decode cX5_create 59 = .ok (.invokevirtual 47, 3) := by decide +kernel
theorem dX5_create_62 : decode cX5_create 62 = .ok (.aload_n 0, 1) := by decide +kernel
theorem dX5_create_63 : decode cX5_create 63 = .ok (.iload_n 1, 1) := by decide +kernel
theorem dX5_create_64 : decode cX5_create 64 = .ok (.iload_n 2, 1) := by decide +kernel
theorem dX5_create_65 : decode cX5_create 65 = .ok (.invokevirtual 51, 3) := by decide +kernel
theorem dX5_create_68 : decode cX5_create 68 = .ok (.iload_n 2, 1) := by decide +kernel
theorem dX5_create_69 : decode cX5_create 69 = .ok (.ireturn, 1) := by decide +kernel
theorem dX5_writeField_0 : decode cX5_writeField 0 = .ok (.aload_n 0, 1) := by decide +kernel
theorem dX5_writeField_1 : decode cX5_writeField 1 = .ok (.getfield 12, 3) := by decide +kernel
theorem dX5_writeField_4 : decode cX5_writeField 4 = .ok (.iload_n 1, 1) := by decide +kernel
theorem dX5_writeField_5 : decode cX5_writeField 5 = .ok (.invokevirtual 55, 3) := by decide +kernel
theorem dX5_writeField_8 : decode cX5_writeField 8 = .ok (.ifCond .eq 22, 3) := by decide +kernel
theorem dX5_writeField_11 : decode cX5_writeField 11 = .ok (.iload_n 2, 1) := by decide +kernel
theorem dX5_writeField_12 : decode cX5_writeField 12 = .ok (.iconst 3, 1) := by decide +kernel
theorem dX5_writeField_13 : decode cX5_writeField 13 = .ok (.invokestatic 33, 3) := by decide +kernel
theorem dX5_writeField_16 : decode cX5_writeField 16 = .ok (.ifCond .eq 14, 3) := by decide +kernel
theorem dX5_writeField_19 : decode cX5_writeField 19 = .ok (.aload_n 0, 1) := by decide +kernel
theorem dX5_writeField_20 : decode cX5_writeField 20 = .ok (.getfield 12, 3) := by decide +kernel
theorem dX5_writeField_23 : decode cX5_writeField 23 = .ok (.iload_n 3, 1) := by decide +kernel
theorem dX5_writeField_24 : decode cX5_writeField 24 = .ok (.invokevirtual 59, 3) := by decide +kernel
theorem dX5_writeField_27 : decode cX5_writeField 27 = .ok (.ifCond .ne 6, 3) := by decide +kernel
theorem dX5_writeField_30 : decode cX5_writeField 30 = .ok (.bipush (-11), 2) := by decide +kernel
theorem dX5_writeField_32 : decode cX5_writeField 32 = .ok (.ireturn, 1) := by decide +kernel
theorem dX5_writeField_33 : decode cX5_writeField 33 = .ok (.iload_n 1, 1) := by decide +kernel
theorem dX5_writeField_34 : decode cX5_writeField 34 = .ok (.invokestatic 62, 3) := by decide +kernel
theorem dX5_writeField_37 : decode cX5_writeField 37 = .ok (.iload_n 3, 1) := by decide +kernel
theorem dX5_writeField_38 : decode cX5_writeField 38 = .ok (.invokestatic 62, 3) := by decide +kernel
theorem dX5_writeField_41 : decode cX5_writeField 41 = .ok (.ior, 1) := by decide +kernel
theorem dX5_writeField_42 : decode cX5_writeField 42 = .ok (.aload_n 0, 1) := by decide +kernel
theorem dX5_writeField_43 : decode cX5_writeField 43 = .ok (.getfield 12, 3) := by decide +kernel
theorem dX5_writeField_46 : decode cX5_writeField 46 = .ok (.invokevirtual 66, 3) := by decide +kernel
theorem dX5_writeField_49 : decode cX5_writeField 49 = .ok (.iconst (-1), 1) := by decide +kernel
theorem dX5_writeField_50 : decode cX5_writeField 50 = .ok (.ixor, 1) := by decide +kernel
theorem dX5_writeField_51 : decode cX5_writeField 51 = .ok (.iand, 1) := by decide +kernel
theorem dX5_writeField_52 : decode cX5_writeField 52 = .ok (.ifCond .eq 6, 3) := by decide +kernel
theorem dX5_writeField_55 : decode cX5_writeField 55 = .ok (.bipush (-12), 2) := by decide +kernel
theorem dX5_writeField_57 : decode cX5_writeField 57 = .ok (.ireturn, 1) := by decide +kernel
theorem dX5_writeField_58 : decode cX5_writeField 58 = .ok (.aload_n 0, 1) := by decide +kernel
theorem dX5_writeField_59 : decode cX5_writeField 59 = .ok (.getfield 12, 3) := by decide +kernel
theorem dX5_writeField_62 : decode cX5_writeField 62 = .ok (.iload_n 1, 1) := by decide +kernel
theorem dX5_writeField_63 : decode cX5_writeField 63 = .ok (.iload_n 2, 1) := by decide +kernel
theorem dX5_writeField_64 : decode cX5_writeField 64 = .ok (.invokevirtual 69, 3) := by decide +kernel
theorem dX5_writeField_67 : decode cX5_writeField 67 = .ok (.istore 4, 2) := by decide +kernel
theorem dX5_writeField_69 : decode cX5_writeField 69 = .ok (.aload_n 0, 1) := by decide +kernel
theorem dX5_writeField_70 : decode cX5_writeField 70 = .ok (.getfield 12, 3) := by decide +kernel
theorem dX5_writeField_73 : decode cX5_writeField 73 = .ok (.iload_n 1, 1) := by decide +kernel
theorem dX5_writeField_74 : decode cX5_writeField 74 = .ok (.iload_n 2, 1) := by decide +kernel
theorem dX5_writeField_75 : decode cX5_writeField 75 = .ok (.iload_n 3, 1) := by decide +kernel
theorem dX5_writeField_76 : decode cX5_writeField 76 = .ok (.invokevirtual 73, 3) := by decide +kernel
theorem dX5_writeField_79 : decode cX5_writeField 79 = .ok (.aload_n 0, 1) := by decide +kernel
theorem dX5_writeField_80 : decode cX5_writeField 80 = .ok (.aload_n 0, 1) := by decide +kernel
theorem dX5_writeField_81 : decode cX5_writeField 81 = .ok (.getfield 21, 3) := by decide +kernel
theorem dX5_writeField_84 : decode cX5_writeField 84 = .ok (.iload_n 1, 1) := by decide +kernel
theorem dX5_writeField_85 : decode cX5_writeField 85 = .ok (.invokevirtual 77, 3) := by decide +kernel
theorem dX5_writeField_88 : decode cX5_writeField 88 = .ok (.iload 4, 2) := by decide +kernel
theorem dX5_writeField_90 : decode cX5_writeField 90 = .ok (.iload_n 3, 1) := by decide +kernel
theorem dX5_writeField_91 : decode cX5_writeField 91 = .ok (.invokevirtual 80, 3) := by decide +kernel
theorem dX5_writeField_94 : decode cX5_writeField 94 = .ok (.iload 4, 2) := by decide +kernel
theorem dX5_writeField_96 : decode cX5_writeField 96 = .ok (.ireturn, 1) := by decide +kernel
theorem dX5_writeRoot_0 : decode cX5_writeRoot 0 = .ok (.iload_n 1, 1) := by decide +kernel
theorem dX5_writeRoot_1 : decode cX5_writeRoot 1 = .ok (.iconst 4, 1) := by decide +kernel
theorem dX5_writeRoot_2 : decode cX5_writeRoot 2 = .ok (.invokestatic 33, 3) := by decide +kernel
theorem dX5_writeRoot_5 : decode cX5_writeRoot 5 = .ok (.ifCond .eq 14, 3) := by decide +kernel
theorem dX5_writeRoot_8 : decode cX5_writeRoot 8 = .ok (.aload_n 0, 1) := by decide +kernel
theorem dX5_writeRoot_9 : decode cX5_writeRoot 9 = .ok (.getfield 12, 3) := by decide +kernel
theorem dX5_writeRoot_12 : decode cX5_writeRoot 12 = .ok (.iload_n 2, 1) := by decide +kernel
theorem dX5_writeRoot_13 : decode cX5_writeRoot 13 = .ok (.invokevirtual 59, 3) := by decide +kernel
theorem dX5_writeRoot_16 : decode cX5_writeRoot 16 = .ok (.ifCond .ne 6, 3) := by decide +kernel
theorem dX5_writeRoot_19 : decode cX5_writeRoot 19 = .ok (.bipush (-11), 2) := by decide +kernel
theorem dX5_writeRoot_21 : decode cX5_writeRoot 21 = .ok (.ireturn, 1) := by decide +kernel
theorem dX5_writeRoot_22 : decode cX5_writeRoot 22 = .ok (.iload_n 2, 1) := by decide +kernel
theorem dX5_writeRoot_23 : decode cX5_writeRoot 23 = .ok (.invokestatic 62, 3) := by decide +kernel
theorem dX5_writeRoot_26 : decode cX5_writeRoot 26 = .ok (.aload_n 0, 1) := by decide +kernel
theorem dX5_writeRoot_27 : decode cX5_writeRoot 27 = .ok (.getfield 12, 3) := by decide +kernel
theorem dX5_writeRoot_30 : decode cX5_writeRoot 30 = .ok (.invokevirtual 66, 3) := by decide +kernel
theorem dX5_writeRoot_33 : decode cX5_writeRoot 33 = .ok (.iconst (-1), 1) := by decide +kernel
theorem dX5_writeRoot_34 : decode cX5_writeRoot 34 = .ok (.ixor, 1) := by decide +kernel
theorem dX5_writeRoot_35 : decode cX5_writeRoot 35 = .ok (.iand, 1) := by decide +kernel
theorem dX5_writeRoot_36 : decode cX5_writeRoot 36 = .ok (.ifCond .eq 6, 3) := by decide +kernel
theorem dX5_writeRoot_39 : decode cX5_writeRoot 39 = .ok (.bipush (-12), 2) := by decide +kernel
theorem dX5_writeRoot_41 : decode cX5_writeRoot 41 = .ok (.ireturn, 1) := by decide +kernel
theorem dX5_writeRoot_42 : decode cX5_writeRoot 42 = .ok (.aload_n 0, 1) := by decide +kernel
theorem dX5_writeRoot_43 : decode cX5_writeRoot 43 = .ok (.getfield 12, 3) := by decide +kernel
theorem dX5_writeRoot_46 : decode cX5_writeRoot 46 = .ok (.iload_n 1, 1) := by decide +kernel
theorem dX5_writeRoot_47 : decode cX5_writeRoot 47 = .ok (.invokevirtual 84, 3) := by decide +kernel
theorem dX5_writeRoot_50 : decode cX5_writeRoot 50 = .ok (.istore_n 3, 1) := by decide +kernel
theorem dX5_writeRoot_51 : decode cX5_writeRoot 51 = .ok (.aload_n 0, 1) := by decide +kernel
theorem dX5_writeRoot_52 : decode cX5_writeRoot 52 = .ok (.iload_n 1, 1) := by decide +kernel
theorem dX5_writeRoot_53 : decode cX5_writeRoot 53 = .ok (.iload_n 2, 1) := by decide +kernel
theorem dX5_writeRoot_54 : decode cX5_writeRoot 54 = .ok (.invokevirtual 51, 3) := by decide +kernel
theorem dX5_writeRoot_57 : decode cX5_writeRoot 57 = .ok (.iload_n 3, 1) := by decide +kernel
theorem dX5_writeRoot_58 : decode cX5_writeRoot 58 = .ok (.ireturn, 1) := by decide +kernel
theorem dX5_writeHolder_0 : decode cX5_writeHolder 0 = .ok (.iload_n 1, 1) := by decide +kernel
theorem dX5_writeHolder_1 : decode cX5_writeHolder 1 = .ok (.iconst 4, 1) := by decide +kernel
theorem dX5_writeHolder_2 : decode cX5_writeHolder 2 = .ok (.invokestatic 33, 3) := by decide +kernel
theorem dX5_writeHolder_5 : decode cX5_writeHolder 5 = .ok (.ifCond .eq 14, 3) := by decide +kernel
theorem dX5_writeHolder_8 : decode cX5_writeHolder 8 = .ok (.aload_n 0, 1) := by decide +kernel
theorem dX5_writeHolder_9 : decode cX5_writeHolder 9 = .ok (.getfield 12, 3) := by decide +kernel
theorem dX5_writeHolder_12 : decode cX5_writeHolder 12 = .ok (.iload_n 2, 1) := by decide +kernel
theorem dX5_writeHolder_13 : decode cX5_writeHolder 13 = .ok (.invokevirtual 59, 3) := by decide +kernel
theorem dX5_writeHolder_16 : decode cX5_writeHolder 16 = .ok (.ifCond .ne 6, 3) := by decide +kernel
theorem dX5_writeHolder_19 : decode cX5_writeHolder 19 = .ok (.bipush (-11), 2) := by decide +kernel
theorem dX5_writeHolder_21 : decode cX5_writeHolder 21 = .ok (.ireturn, 1) := by decide +kernel
theorem dX5_writeHolder_22 : decode cX5_writeHolder 22 = .ok (.iload_n 2, 1) := by decide +kernel
theorem dX5_writeHolder_23 : decode cX5_writeHolder 23 = .ok (.invokestatic 62, 3) := by decide +kernel
theorem dX5_writeHolder_26 : decode cX5_writeHolder 26 = .ok (.aload_n 0, 1) := by decide +kernel
theorem dX5_writeHolder_27 : decode cX5_writeHolder 27 = .ok (.getfield 12, 3) := by decide +kernel
theorem dX5_writeHolder_30 : decode cX5_writeHolder 30 = .ok (.invokevirtual 66, 3) := by decide +kernel
theorem dX5_writeHolder_33 : decode cX5_writeHolder 33 = .ok (.iconst (-1), 1) := by decide +kernel
theorem dX5_writeHolder_34 : decode cX5_writeHolder 34 = .ok (.ixor, 1) := by decide +kernel
theorem dX5_writeHolder_35 : decode cX5_writeHolder 35 = .ok (.iand, 1) := by decide +kernel
theorem dX5_writeHolder_36 : decode cX5_writeHolder 36 = .ok (.ifCond .eq 6, 3) := by decide +kernel
theorem dX5_writeHolder_39 : decode cX5_writeHolder 39 = .ok (.bipush (-12), 2) := by decide +kernel
theorem dX5_writeHolder_41 : decode cX5_writeHolder 41 = .ok (.ireturn, 1) := by decide +kernel
theorem dX5_writeHolder_42 : decode cX5_writeHolder 42 = .ok (.aload_n 0, 1) := by decide +kernel
theorem dX5_writeHolder_43 : decode cX5_writeHolder 43 = .ok (.getfield 12, 3) := by decide +kernel
theorem dX5_writeHolder_46 : decode cX5_writeHolder 46 = .ok (.iload_n 1, 1) := by decide +kernel
theorem dX5_writeHolder_47 : decode cX5_writeHolder 47 = .ok (.invokevirtual 87, 3) := by decide +kernel
theorem dX5_writeHolder_50 : decode cX5_writeHolder 50 = .ok (.istore_n 3, 1) := by decide +kernel
theorem dX5_writeHolder_51 : decode cX5_writeHolder 51 = .ok (.aload_n 0, 1) := by decide +kernel
theorem dX5_writeHolder_52 : decode cX5_writeHolder 52 = .ok (.getfield 12, 3) := by decide +kernel
theorem dX5_writeHolder_55 : decode cX5_writeHolder 55 = .ok (.getfield 90, 3) := by decide +kernel
theorem dX5_writeHolder_58 : decode cX5_writeHolder 58 = .ok (.iload_n 1, 1) := by decide +kernel
theorem dX5_writeHolder_59 : decode cX5_writeHolder 59 = .ok (.iload_n 2, 1) := by decide +kernel
theorem dX5_writeHolder_60 : decode cX5_writeHolder 60 = .ok (.iastore, 1) := by decide +kernel
theorem dX5_writeHolder_61 : decode cX5_writeHolder 61 = .ok (.iload_n 3, 1) := by decide +kernel
theorem dX5_writeHolder_62 : decode cX5_writeHolder 62 = .ok (.ireturn, 1) := by decide +kernel
theorem dX5_shadeIfCareIsNeeded_0 : decode cX5_shadeIfCareIsNeeded 0 = .ok (.aload_n 0, 1) := by decide +kernel
theorem dX5_shadeIfCareIsNeeded_1 : decode cX5_shadeIfCareIsNeeded 1 = .ok (.getfield 21, 3) := by decide +kernel
theorem dX5_shadeIfCareIsNeeded_4 : decode cX5_shadeIfCareIsNeeded 4 = .ok (.invokevirtual 119, 3) := by decide +kernel
theorem dX5_shadeIfCareIsNeeded_7 : decode cX5_shadeIfCareIsNeeded 7 = .ok (.ifCond .eq 11, 3) := by decide +kernel
theorem dX5_shadeIfCareIsNeeded_10 : decode cX5_shadeIfCareIsNeeded 10 = .ok (.aload_n 0, 1) := by decide +kernel
theorem dX5_shadeIfCareIsNeeded_11 : decode cX5_shadeIfCareIsNeeded 11 = .ok (.getfield 21, 3) := by decide +kernel
theorem dX5_shadeIfCareIsNeeded_14 : decode cX5_shadeIfCareIsNeeded 14 = .ok (.iload_n 1, 1) := by decide +kernel
theorem dX5_shadeIfCareIsNeeded_15 : decode cX5_shadeIfCareIsNeeded 15 = .ok (.invokevirtual 123, 3) := by decide +kernel
theorem dX5_shadeIfCareIsNeeded_18 : decode cX5_shadeIfCareIsNeeded 18 = .ok (.return_, 1) := by decide +kernel
theorem dX5_askHolder_0 : decode cX5_askHolder 0 = .ok (.iload_n 1, 1) := by decide +kernel
theorem dX5_askHolder_1 : decode cX5_askHolder 1 = .ok (.iconst 4, 1) := by decide +kernel
theorem dX5_askHolder_2 : decode cX5_askHolder 2 = .ok (.invokestatic 33, 3) := by decide +kernel
theorem dX5_askHolder_5 : decode cX5_askHolder 5 = .ok (.ifCond .eq 11, 3) := by decide +kernel
theorem dX5_askHolder_8 : decode cX5_askHolder 8 = .ok (.iload_n 2, 1) := by decide +kernel
theorem dX5_askHolder_9 : decode cX5_askHolder 9 = .ok (.iconst 4, 1) := by decide +kernel
theorem dX5_askHolder_10 : decode cX5_askHolder 10 = .ok (.invokestatic 33, 3) := by decide +kernel
theorem dX5_askHolder_13 : decode cX5_askHolder 13 = .ok (.ifCond .ne 6, 3) := by decide +kernel
theorem dX5_askHolder_16 : decode cX5_askHolder 16 = .ok (.bipush (-11), 2) := by decide +kernel
theorem dX5_askHolder_18 : decode cX5_askHolder 18 = .ok (.ireturn, 1) := by decide +kernel
theorem dX5_askHolder_19 : decode cX5_askHolder 19 = .ok (.aload_n 0, 1) := by decide +kernel
theorem dX5_askHolder_20 : decode cX5_askHolder 20 = .ok (.getfield 12, 3) := by decide +kernel
theorem dX5_askHolder_23 : decode cX5_askHolder 23 = .ok (.iload_n 1, 1) := by decide +kernel
theorem dX5_askHolder_24 : decode cX5_askHolder 24 = .ok (.invokevirtual 87, 3) := by decide +kernel
theorem dX5_askHolder_27 : decode cX5_askHolder 27 = .ok (.istore_n 3, 1) := by decide +kernel
theorem dX5_askHolder_28 : decode cX5_askHolder 28 = .ok (.iload_n 3, 1) := by decide +kernel
theorem dX5_askHolder_29 : decode cX5_askHolder 29 = .ok (.iconst (-1), 1) := by decide +kernel
theorem dX5_askHolder_30 : decode cX5_askHolder 30 = .ok (.if_icmp .ne 6, 3) := by decide +kernel
theorem dX5_askHolder_33 : decode cX5_askHolder 33 = .ok (.bipush (-14), 2) := by decide +kernel
theorem dX5_askHolder_35 : decode cX5_askHolder 35 = .ok (.ireturn, 1) := by decide +kernel
theorem dX5_askHolder_36 : decode cX5_askHolder 36 = .ok (.aload_n 0, 1) := by decide +kernel
theorem dX5_askHolder_37 : decode cX5_askHolder 37 = .ok (.iload_n 2, 1) := by decide +kernel
theorem dX5_askHolder_38 : decode cX5_askHolder 38 = .ok (.iload_n 3, 1) := by decide +kernel
theorem dX5_askHolder_39 : decode cX5_askHolder 39 = .ok (.invokevirtual 51, 3) := by decide +kernel
theorem dX5_askHolder_42 : decode cX5_askHolder 42 = .ok (.aload_n 0, 1) := by decide +kernel
theorem dX5_askHolder_43 : decode cX5_askHolder 43 = .ok (.iload_n 3, 1) := by decide +kernel
theorem dX5_askHolder_44 : decode cX5_askHolder 44 = .ok (.invokevirtual 93, 3) := by decide +kernel
theorem dX5_askHolder_47 : decode cX5_askHolder 47 = .ok (.iload_n 3, 1) := by decide +kernel
theorem dX5_askHolder_48 : decode cX5_askHolder 48 = .ok (.ireturn, 1) := by decide +kernel
theorem dX5_wishFinish_0 : decode cX5_wishFinish 0 = .ok (.aload_n 0, 1) := by decide +kernel
theorem dX5_wishFinish_1 : decode cX5_wishFinish 1 = .ok (.getfield 12, 3) := by decide +kernel
theorem dX5_wishFinish_4 : decode cX5_wishFinish 4 = .ok (.iload_n 1, 1) := by decide +kernel
theorem dX5_wishFinish_5 : decode cX5_wishFinish 5 = .ok (.invokevirtual 55, 3) := by decide +kernel
theorem dX5_wishFinish_8 : decode cX5_wishFinish 8 = .ok (.ifCond .ne 6, 3) := by decide +kernel
theorem dX5_wishFinish_11 : decode cX5_wishFinish 11 = .ok (.bipush (-11), 2) := by decide +kernel
theorem dX5_wishFinish_13 : decode cX5_wishFinish 13 = .ok (.ireturn, 1) := by decide +kernel
theorem dX5_wishFinish_14 : decode cX5_wishFinish 14 = .ok (.iload_n 1, 1) := by decide +kernel
theorem dX5_wishFinish_15 : decode cX5_wishFinish 15 = .ok (.invokestatic 62, 3) := by decide +kernel
theorem dX5_wishFinish_18 : decode cX5_wishFinish 18 = .ok (.aload_n 0, 1) := by decide +kernel
theorem dX5_wishFinish_19 : decode cX5_wishFinish 19 = .ok (.getfield 12, 3) := by decide +kernel
theorem dX5_wishFinish_22 : decode cX5_wishFinish 22 = .ok (.invokevirtual 66, 3) := by decide +kernel
theorem dX5_wishFinish_25 : decode cX5_wishFinish 25 = .ok (.iand, 1) := by decide +kernel
theorem dX5_wishFinish_26 : decode cX5_wishFinish 26 = .ok (.aload_n 0, 1) := by decide +kernel
theorem dX5_wishFinish_27 : decode cX5_wishFinish 27 = .ok (.getfield 12, 3) := by decide +kernel
theorem dX5_wishFinish_30 : decode cX5_wishFinish 30 = .ok (.getfield 96, 3) := by decide +kernel
theorem dX5_wishFinish_33 : decode cX5_wishFinish 33 = .ok (.iconst (-1), 1) := by decide +kernel
theorem dX5_wishFinish_34 : decode cX5_wishFinish 34 = .ok (.ixor, 1) := by decide +kernel
theorem dX5_wishFinish_35 : decode cX5_wishFinish 35 = .ok (.iand, 1) := by decide +kernel
theorem dX5_wishFinish_36 : decode cX5_wishFinish 36 = .ok (.ifCond .ne 6, 3) := by decide +kernel
theorem dX5_wishFinish_39 : decode cX5_wishFinish 39 = .ok (.bipush (-12), 2) := by decide +kernel
theorem dX5_wishFinish_41 : decode cX5_wishFinish 41 = .ok (.ireturn, 1) := by decide +kernel
theorem dX5_wishFinish_42 : decode cX5_wishFinish 42 = .ok (.aload_n 0, 1) := by decide +kernel
theorem dX5_wishFinish_43 : decode cX5_wishFinish 43 = .ok (.getfield 12, 3) := by decide +kernel
theorem dX5_wishFinish_46 : decode cX5_wishFinish 46 = .ok (.dup, 1) := by decide +kernel
theorem dX5_wishFinish_47 : decode cX5_wishFinish 47 = .ok (.getfield 96, 3) := by decide +kernel
theorem dX5_wishFinish_50 : decode cX5_wishFinish 50 = .ok (.iload_n 1, 1) := by decide +kernel
theorem dX5_wishFinish_51 : decode cX5_wishFinish 51 = .ok (.invokestatic 62, 3) := by decide +kernel
theorem dX5_wishFinish_54 : decode cX5_wishFinish 54 = .ok (.ior, 1) := by decide +kernel
theorem dX5_wishFinish_55 : decode cX5_wishFinish 55 = .ok (.putfield 96, 3) := by decide +kernel
theorem dX5_wishFinish_58 : decode cX5_wishFinish 58 = .ok (.aload_n 0, 1) := by decide +kernel
theorem dX5_wishFinish_59 : decode cX5_wishFinish 59 = .ok (.getfield 12, 3) := by decide +kernel
theorem dX5_wishFinish_62 : decode cX5_wishFinish 62 = .ok (.getfield 96, 3) := by decide +kernel
theorem dX5_wishFinish_65 : decode cX5_wishFinish 65 = .ok (.invokestatic 99, 3) := by decide +kernel
theorem dX5_wishFinish_68 : decode cX5_wishFinish 68 = .ok (.ireturn, 1) := by decide +kernel
theorem dX5_finishFirst_0 : decode cX5_finishFirst 0 = .ok (.iload_n 1, 1) := by decide +kernel
theorem dX5_finishFirst_1 : decode cX5_finishFirst 1 = .ok (.iconst (-1), 1) := by decide +kernel
theorem dX5_finishFirst_2 : decode cX5_finishFirst 2 = .ok (.if_icmp .eq 14, 3) := by decide +kernel
theorem dX5_finishFirst_5 : decode cX5_finishFirst 5 = .ok (.iload_n 1, 1) := by decide +kernel
theorem dX5_finishFirst_6 : decode cX5_finishFirst 6 = .ok (.iconst 4, 1) := by decide +kernel
theorem dX5_finishFirst_7 : decode cX5_finishFirst 7 = .ok (.invokestatic 33, 3) := by decide +kernel
theorem dX5_finishFirst_10 : decode cX5_finishFirst 10 = .ok (.ifCond .ne 6, 3) := by decide +kernel
theorem dX5_finishFirst_13 : decode cX5_finishFirst 13 = .ok (.bipush (-11), 2) := by decide +kernel
theorem dX5_finishFirst_15 : decode cX5_finishFirst 15 = .ok (.ireturn, 1) := by decide +kernel
theorem dX5_finishFirst_16 : decode cX5_finishFirst 16 = .ok (.aload_n 0, 1) := by decide +kernel
theorem dX5_finishFirst_17 : decode cX5_finishFirst 17 = .ok (.getfield 12, 3) := by decide +kernel
theorem dX5_finishFirst_20 : decode cX5_finishFirst 20 = .ok (.getfield 104, 3) := by decide +kernel
theorem dX5_finishFirst_23 : decode cX5_finishFirst 23 = .ok (.invokevirtual 108, 3) := by decide +kernel
theorem dX5_finishFirst_26 : decode cX5_finishFirst 26 = .ok (.istore_n 2, 1) := by decide +kernel
theorem dX5_finishFirst_27 : decode cX5_finishFirst 27 = .ok (.iload_n 2, 1) := by decide +kernel
theorem dX5_finishFirst_28 : decode cX5_finishFirst 28 = .ok (.iconst (-1), 1) := by decide +kernel
theorem dX5_finishFirst_29 : decode cX5_finishFirst 29 = .ok (.if_icmp .ne 6, 3) := by decide +kernel
theorem dX5_finishFirst_32 : decode cX5_finishFirst 32 = .ok (.bipush (-12), 2) := by decide +kernel
theorem dX5_finishFirst_34 : decode cX5_finishFirst 34 = .ok (.ireturn, 1) := by decide +kernel
theorem dX5_finishFirst_35 : decode cX5_finishFirst 35 = .ok (.aload_n 0, 1) := by decide +kernel
theorem dX5_finishFirst_36 : decode cX5_finishFirst 36 = .ok (.dup, 1) := by decide +kernel
theorem dX5_finishFirst_37 : decode cX5_finishFirst 37 = .ok (.getfield 113, 3) := by decide +kernel
theorem dX5_finishFirst_40 : decode cX5_finishFirst 40 = .ok (.iconst 1, 1) := by decide +kernel
theorem dX5_finishFirst_41 : decode cX5_finishFirst 41 = .ok (.iadd, 1) := by decide +kernel
theorem dX5_finishFirst_42 : decode cX5_finishFirst 42 = .ok (.putfield 113, 3) := by decide +kernel
theorem dX5_finishFirst_45 : decode cX5_finishFirst 45 = .ok (.iload_n 1, 1) := by decide +kernel
theorem dX5_finishFirst_46 : decode cX5_finishFirst 46 = .ok (.iconst (-1), 1) := by decide +kernel
theorem dX5_finishFirst_47 : decode cX5_finishFirst 47 = .ok (.if_icmp .eq 9, 3) := by decide +kernel
theorem dX5_finishFirst_50 : decode cX5_finishFirst 50 = .ok (.aload_n 0, 1) := by decide +kernel
theorem dX5_finishFirst_51 : decode cX5_finishFirst 51 = .ok (.iload_n 1, 1) := by decide +kernel
theorem dX5_finishFirst_52 : decode cX5_finishFirst 52 = .ok (.iload_n 2, 1) := by decide +kernel
theorem dX5_finishFirst_53 : decode cX5_finishFirst 53 = .ok (.invokevirtual 51, 3) := by decide +kernel
theorem dX5_finishFirst_56 : decode cX5_finishFirst 56 = .ok (.aload_n 0, 1) := by decide +kernel
theorem dX5_finishFirst_57 : decode cX5_finishFirst 57 = .ok (.iload_n 2, 1) := by decide +kernel
theorem dX5_finishFirst_58 : decode cX5_finishFirst 58 = .ok (.invokevirtual 93, 3) := by decide +kernel
theorem dX5_finishFirst_61 : decode cX5_finishFirst 61 = .ok (.iload_n 2, 1) := by decide +kernel
theorem dX5_finishFirst_62 : decode cX5_finishFirst 62 = .ok (.ireturn, 1) := by decide +kernel
theorem dX5_beginSearch_0 : decode cX5_beginSearch 0 = .ok (.aload_n 0, 1) := by decide +kernel
theorem dX5_beginSearch_1 : decode cX5_beginSearch 1 = .ok (.getfield 21, 3) := by decide +kernel
theorem dX5_beginSearch_4 : decode cX5_beginSearch 4 = .ok (.invokevirtual 126, 3) := by decide +kernel
theorem dX5_beginSearch_7 : decode cX5_beginSearch 7 = .ok (.ifCond .eq 6, 3) := by decide +kernel
theorem dX5_beginSearch_10 : decode cX5_beginSearch 10 = .ok (.bipush (-12), 2) := by decide +kernel
theorem dX5_beginSearch_12 : decode cX5_beginSearch 12 = .ok (.ireturn, 1) := by decide +kernel
theorem dX5_beginSearch_13 : decode cX5_beginSearch 13 = .ok (.aload_n 0, 1) := by decide +kernel
theorem dX5_beginSearch_14 : decode cX5_beginSearch 14 = .ok (.getfield 21, 3) := by decide +kernel
theorem dX5_beginSearch_17 : decode cX5_beginSearch 17 = .ok (.aload_n 0, 1) := by decide +kernel
theorem dX5_beginSearch_18 : decode cX5_beginSearch 18 = .ok (.getfield 12, 3) := by decide +kernel
theorem dX5_beginSearch_21 : decode cX5_beginSearch 21 = .ok (.invokevirtual 129, 3) := by decide +kernel
theorem dX5_beginSearch_24 : decode cX5_beginSearch 24 = .ok (.aload_n 0, 1) := by decide +kernel
theorem dX5_beginSearch_25 : decode cX5_beginSearch 25 = .ok (.getfield 21, 3) := by decide +kernel
theorem dX5_beginSearch_28 : decode cX5_beginSearch 28 = .ok (.getfield 133, 3) := by decide +kernel
theorem dX5_beginSearch_31 : decode cX5_beginSearch 31 = .ok (.getfield 136, 3) := by decide +kernel
theorem dX5_beginSearch_34 : decode cX5_beginSearch 34 = .ok (.ireturn, 1) := by decide +kernel
theorem dX5_doSteps_0 : decode cX5_doSteps 0 = .ok (.iload_n 1, 1) := by decide +kernel
theorem dX5_doSteps_1 : decode cX5_doSteps 1 = .ok (.iconst 1, 1) := by decide +kernel
theorem dX5_doSteps_2 : decode cX5_doSteps 2 = .ok (.if_icmp .lt 9, 3) := by decide +kernel
theorem dX5_doSteps_5 : decode cX5_doSteps 5 = .ok (.iload_n 1, 1) := by decide +kernel
theorem dX5_doSteps_6 : decode cX5_doSteps 6 = .ok (.bipush 99, 2) := by decide +kernel
theorem dX5_doSteps_8 : decode cX5_doSteps 8 = .ok (.if_icmp .le 6, 3) := by decide +kernel
theorem dX5_doSteps_11 : decode cX5_doSteps 11 = .ok (.bipush (-11), 2) := by decide +kernel
theorem dX5_doSteps_13 : decode cX5_doSteps 13 = .ok (.ireturn, 1) := by decide +kernel
theorem dX5_doSteps_14 : decode cX5_doSteps 14 = .ok (.aload_n 0, 1) := by decide +kernel
theorem dX5_doSteps_15 : decode cX5_doSteps 15 = .ok (.getfield 21, 3) := by decide +kernel
theorem dX5_doSteps_18 : decode cX5_doSteps 18 = .ok (.invokevirtual 126, 3) := by decide +kernel
theorem dX5_doSteps_21 : decode cX5_doSteps 21 = .ok (.ifCond .ne 6, 3) := by decide +kernel
theorem dX5_doSteps_24 : decode cX5_doSteps 24 = .ok (.bipush (-12), 2) := by decide +kernel
theorem dX5_doSteps_26 : decode cX5_doSteps 26 = .ok (.ireturn, 1) := by decide +kernel
theorem dX5_doSteps_27 : decode cX5_doSteps 27 = .ok (.aload_n 0, 1) := by decide +kernel
theorem dX5_doSteps_28 : decode cX5_doSteps 28 = .ok (.getfield 21, 3) := by decide +kernel
theorem dX5_doSteps_31 : decode cX5_doSteps 31 = .ok (.getfield 139, 3) := by decide +kernel
theorem dX5_doSteps_34 : decode cX5_doSteps 34 = .ok (.istore_n 2, 1) := by decide +kernel
theorem dX5_doSteps_35 : decode cX5_doSteps 35 = .ok (.iconst 0, 1) := by decide +kernel
theorem dX5_doSteps_36 : decode cX5_doSteps 36 = .ok (.istore_n 3, 1) := by decide +kernel
theorem dX5_doSteps_37 : decode cX5_doSteps 37 = .ok (.iload_n 3, 1) := by decide +kernel
theorem dX5_doSteps_38 : decode cX5_doSteps 38 = .ok (.iload_n 1, 1) := by decide +kernel
theorem dX5_doSteps_39 : decode cX5_doSteps 39 = .ok (.if_icmp .ge 30, 3) := by decide +kernel
theorem dX5_doSteps_42 : decode cX5_doSteps 42 = .ok (.aload_n 0, 1) := by decide +kernel
theorem dX5_doSteps_43 : decode cX5_doSteps 43 = .ok (.getfield 21, 3) := by decide +kernel
theorem dX5_doSteps_46 : decode cX5_doSteps 46 = .ok (.invokevirtual 126, 3) := by decide +kernel
theorem dX5_doSteps_49 : decode cX5_doSteps 49 = .ok (.ifCond .eq 20, 3) := by decide +kernel
theorem dX5_doSteps_52 : decode cX5_doSteps 52 = .ok (.aload_n 0, 1) := by decide +kernel
theorem dX5_doSteps_53 : decode cX5_doSteps 53 = .ok (.getfield 21, 3) := by decide +kernel
theorem dX5_doSteps_56 : decode cX5_doSteps 56 = .ok (.aload_n 0, 1) := by decide +kernel
theorem dX5_doSteps_57 : decode cX5_doSteps 57 = .ok (.getfield 12, 3) := by decide +kernel
theorem dX5_doSteps_60 : decode cX5_doSteps 60 = .ok (.invokevirtual 142, 3) := by decide +kernel
theorem dX5_doSteps_63 : decode cX5_doSteps 63 = .ok (.iinc 3 1, 3) := by decide +kernel
theorem dX5_doSteps_66 : decode cX5_doSteps 66 = .ok (.goto (-29), 3) := by decide +kernel
theorem dX5_doSteps_69 : decode cX5_doSteps 69 = .ok (.aload_n 0, 1) := by decide +kernel
theorem dX5_doSteps_70 : decode cX5_doSteps 70 = .ok (.getfield 21, 3) := by decide +kernel
theorem dX5_doSteps_73 : decode cX5_doSteps 73 = .ok (.getfield 139, 3) := by decide +kernel
theorem dX5_doSteps_76 : decode cX5_doSteps 76 = .ok (.iload_n 2, 1) := by decide +kernel
theorem dX5_doSteps_77 : decode cX5_doSteps 77 = .ok (.isub, 1) := by decide +kernel
theorem dX5_doSteps_78 : decode cX5_doSteps 78 = .ok (.ireturn, 1) := by decide +kernel
theorem dX5_doAllSteps_0 : decode cX5_doAllSteps 0 = .ok (.aload_n 0, 1) := by decide +kernel
theorem dX5_doAllSteps_1 : decode cX5_doAllSteps 1 = .ok (.getfield 21, 3) := by decide +kernel
theorem dX5_doAllSteps_4 : decode cX5_doAllSteps 4 = .ok (.invokevirtual 126, 3) := by decide +kernel
theorem dX5_doAllSteps_7 : decode cX5_doAllSteps 7 = .ok (.ifCond .ne 14, 3) := by decide +kernel
theorem dX5_doAllSteps_10 : decode cX5_doAllSteps 10 = .ok (.aload_n 0, 1) := by decide +kernel
theorem dX5_doAllSteps_11 : decode cX5_doAllSteps 11 = .ok (.getfield 21, 3) := by decide +kernel
theorem dX5_doAllSteps_14 : decode cX5_doAllSteps 14 = .ok (.aload_n 0, 1) := by decide +kernel
theorem dX5_doAllSteps_15 : decode cX5_doAllSteps 15 = .ok (.getfield 12, 3) := by decide +kernel
theorem dX5_doAllSteps_18 : decode cX5_doAllSteps 18 = .ok (.invokevirtual 129, 3) := by decide +kernel
theorem dX5_doAllSteps_21 : decode cX5_doAllSteps 21 = .ok (.iconst 0, 1) := by decide +kernel
theorem dX5_doAllSteps_22 : decode cX5_doAllSteps 22 = .ok (.istore_n 1, 1) := by decide +kernel
theorem dX5_doAllSteps_23 : decode cX5_doAllSteps 23 = .ok (.iload_n 1, 1) := by decide +kernel
theorem dX5_doAllSteps_24 : decode cX5_doAllSteps 24 = .ok (.sipush 10000, 3) := by decide +kernel
theorem dX5_doAllSteps_27 : decode cX5_doAllSteps 27 = .ok (.if_icmp .ge 30, 3) := by decide +kernel
theorem dX5_doAllSteps_30 : decode cX5_doAllSteps 30 = .ok (.aload_n 0, 1) := by decide +kernel
theorem dX5_doAllSteps_31 : decode cX5_doAllSteps 31 = .ok (.getfield 21, 3) := by decide +kernel
theorem dX5_doAllSteps_34 : decode cX5_doAllSteps 34 = .ok (.invokevirtual 126, 3) := by decide +kernel
theorem dX5_doAllSteps_37 : decode cX5_doAllSteps 37 = .ok (.ifCond .eq 20, 3) := by decide +kernel
theorem dX5_doAllSteps_40 : decode cX5_doAllSteps 40 = .ok (.aload_n 0, 1) := by decide +kernel
theorem dX5_doAllSteps_41 : decode cX5_doAllSteps 41 = .ok (.getfield 21, 3) := by decide +kernel
theorem dX5_doAllSteps_44 : decode cX5_doAllSteps 44 = .ok (.aload_n 0, 1) := by decide +kernel
theorem dX5_doAllSteps_45 : decode cX5_doAllSteps 45 = .ok (.getfield 12, 3) := by decide +kernel
theorem dX5_doAllSteps_48 : decode cX5_doAllSteps 48 = .ok (.invokevirtual 142, 3) := by decide +kernel
theorem dX5_doAllSteps_51 : decode cX5_doAllSteps 51 = .ok (.iinc 1 1, 3) := by decide +kernel
theorem dX5_doAllSteps_54 : decode cX5_doAllSteps 54 = .ok (.goto (-31), 3) := by decide +kernel
theorem dX5_doAllSteps_57 : decode cX5_doAllSteps 57 = .ok (.iload_n 1, 1) := by decide +kernel
theorem dX5_doAllSteps_58 : decode cX5_doAllSteps 58 = .ok (.ireturn, 1) := by decide +kernel
theorem dX5_setCare_0 : decode cX5_setCare 0 = .ok (.iload_n 1, 1) := by decide +kernel
theorem dX5_setCare_1 : decode cX5_setCare 1 = .ok (.iconst 1, 1) := by decide +kernel
theorem dX5_setCare_2 : decode cX5_setCare 2 = .ok (.if_icmp .eq 11, 3) := by decide +kernel
theorem dX5_setCare_5 : decode cX5_setCare 5 = .ok (.iload_n 1, 1) := by decide +kernel
theorem dX5_setCare_6 : decode cX5_setCare 6 = .ok (.iconst 2, 1) := by decide +kernel
theorem dX5_setCare_7 : decode cX5_setCare 7 = .ok (.if_icmp .eq 6, 3) := by decide +kernel
theorem dX5_setCare_10 : decode cX5_setCare 10 = .ok (.bipush (-11), 2) := by decide +kernel
theorem dX5_setCare_12 : decode cX5_setCare 12 = .ok (.ireturn, 1) := by decide +kernel
theorem dX5_setCare_13 : decode cX5_setCare 13 = .ok (.aload_n 0, 1) := by decide +kernel
theorem dX5_setCare_14 : decode cX5_setCare 14 = .ok (.getfield 21, 3) := by decide +kernel
theorem dX5_setCare_17 : decode cX5_setCare 17 = .ok (.invokevirtual 126, 3) := by decide +kernel
theorem dX5_setCare_20 : decode cX5_setCare 20 = .ok (.ifCond .eq 6, 3) := by decide +kernel
theorem dX5_setCare_23 : decode cX5_setCare 23 = .ok (.bipush (-12), 2) := by decide +kernel
theorem dX5_setCare_25 : decode cX5_setCare 25 = .ok (.ireturn, 1) := by decide +kernel
theorem dX5_setCare_26 : decode cX5_setCare 26 = .ok (.aload_n 0, 1) := by decide +kernel
theorem dX5_setCare_27 : decode cX5_setCare 27 = .ok (.getfield 29, 3) := by decide +kernel
theorem dX5_setCare_30 : decode cX5_setCare 30 = .ok (.istore_n 2, 1) := by decide +kernel
theorem dX5_setCare_31 : decode cX5_setCare 31 = .ok (.aload_n 0, 1) := by decide +kernel
theorem dX5_setCare_32 : decode cX5_setCare 32 = .ok (.iload_n 1, 1) := by decide +kernel
theorem dX5_setCare_33 : decode cX5_setCare 33 = .ok (.putfield 29, 3) := by decide +kernel
theorem dX5_setCare_36 : decode cX5_setCare 36 = .ok (.iload_n 2, 1) := by decide +kernel
theorem dX5_setCare_37 : decode cX5_setCare 37 = .ok (.ireturn, 1) := by decide +kernel
theorem dX5_tellObject_0 : decode cX5_tellObject 0 = .ok (.iload_n 1, 1) := by decide +kernel
theorem dX5_tellObject_1 : decode cX5_tellObject 1 = .ok (.bipush 24, 2) := by decide +kernel
theorem dX5_tellObject_3 : decode cX5_tellObject 3 = .ok (.invokestatic 33, 3) := by decide +kernel
theorem dX5_tellObject_6 : decode cX5_tellObject 6 = .ok (.ifCond .eq 14, 3) := by decide +kernel
theorem dX5_tellObject_9 : decode cX5_tellObject 9 = .ok (.aload_n 0, 1) := by decide +kernel
theorem dX5_tellObject_10 : decode cX5_tellObject 10 = .ok (.getfield 12, 3) := by decide +kernel
theorem dX5_tellObject_13 : decode cX5_tellObject 13 = .ok (.iload_n 1, 1) := by decide +kernel
theorem dX5_tellObject_14 : decode cX5_tellObject 14 = .ok (.invokevirtual 55, 3) := by decide +kernel
theorem dX5_tellObject_17 : decode cX5_tellObject 17 = .ok (.ifCond .ne 6, 3) := by decide +kernel
theorem dX5_tellObject_20 : decode cX5_tellObject 20 = .ok (.bipush (-11), 2) := by decide +kernel
theorem dX5_tellObject_22 : decode cX5_tellObject 22 = .ok (.ireturn, 1) := by decide +kernel
theorem dX5_tellObject_23 : decode cX5_tellObject 23 = .ok (.iload_n 2, 1) := by decide +kernel
theorem dX5_tellObject_24 : decode cX5_tellObject 24 = .ok (.tableswitch 138 0 7 #[48, 57, 57, 57, 69, 90, 111, 123], 48) := by decide +kernel
theorem dX5_tellObject_72 : decode cX5_tellObject 72 = .ok (.aload_n 0, 1) := by decide +kernel
theorem dX5_tellObject_73 : decode cX5_tellObject 73 = .ok (.getfield 21, 3) := by decide +kernel
theorem dX5_tellObject_76 : decode cX5_tellObject 76 = .ok (.iload_n 1, 1) := by decide +kernel
theorem dX5_tellObject_77 : decode cX5_tellObject 77 = .ok (.invokevirtual 145, 3) := by decide +kernel
theorem dX5_tellObject_80 : decode cX5_tellObject 80 = .ok (.ireturn, 1) := by decide +kernel
theorem dX5_tellObject_81 : decode cX5_tellObject 81 = .ok (.aload_n 0, 1) := by decide +kernel
theorem dX5_tellObject_82 : decode cX5_tellObject 82 = .ok (.getfield 12, 3) := by decide +kernel
theorem dX5_tellObject_85 : decode cX5_tellObject 85 = .ok (.iload_n 1, 1) := by decide +kernel
theorem dX5_tellObject_86 : decode cX5_tellObject 86 = .ok (.iload_n 2, 1) := by decide +kernel
theorem dX5_tellObject_87 : decode cX5_tellObject 87 = .ok (.iconst 1, 1) := by decide +kernel
theorem dX5_tellObject_88 : decode cX5_tellObject 88 = .ok (.isub, 1) := by decide +kernel
theorem dX5_tellObject_89 : decode cX5_tellObject 89 = .ok (.invokevirtual 69, 3) := by decide +kernel
theorem dX5_tellObject_92 : decode cX5_tellObject 92 = .ok (.ireturn, 1) := by decide +kernel
theorem dX5_tellObject_93 : decode cX5_tellObject 93 = .ok (.aload_n 0, 1) := by decide +kernel
theorem dX5_tellObject_94 : decode cX5_tellObject 94 = .ok (.getfield 12, 3) := by decide +kernel
theorem dX5_tellObject_97 : decode cX5_tellObject 97 = .ok (.getfield 96, 3) := by decide +kernel
theorem dX5_tellObject_100 : decode cX5_tellObject 100 = .ok (.iload_n 1, 1) := by decide +kernel
theorem dX5_tellObject_101 : decode cX5_tellObject 101 = .ok (.invokestatic 62, 3) := by decide +kernel
theorem dX5_tellObject_104 : decode cX5_tellObject 104 = .ok (.iand, 1) := by decide +kernel
theorem dX5_tellObject_105 : decode cX5_tellObject 105 = .ok (.ifCond .eq 7, 3) := by decide +kernel
theorem dX5_tellObject_108 : decode cX5_tellObject 108 = .ok (.iconst 1, 1) := by decide +kernel
theorem dX5_tellObject_109 : decode cX5_tellObject 109 = .ok (.goto 4, 3) := by decide +kernel
theorem dX5_tellObject_112 : decode cX5_tellObject 112 = .ok (.iconst 0, 1) := by decide +kernel
theorem dX5_tellObject_113 : decode cX5_tellObject 113 = .ok (.ireturn, 1) := by decide +kernel
theorem dX5_tellObject_114 : decode cX5_tellObject 114 = .ok (.aload_n 0, 1) := by decide +kernel
theorem dX5_tellObject_115 : decode cX5_tellObject 115 = .ok (.getfield 12, 3) := by decide +kernel
theorem dX5_tellObject_118 : decode cX5_tellObject 118 = .ok (.invokevirtual 148, 3) := by decide +kernel
theorem dX5_tellObject_121 : decode cX5_tellObject 121 = .ok (.iload_n 1, 1) := by decide +kernel
theorem dX5_tellObject_122 : decode cX5_tellObject 122 = .ok (.invokestatic 62, 3) := by decide +kernel
theorem dX5_tellObject_125 : decode cX5_tellObject 125 = .ok (.iand, 1) := by decide +kernel
theorem dX5_tellObject_126 : decode cX5_tellObject 126 = .ok (.ifCond .eq 7, 3) := by decide +kernel
theorem dX5_tellObject_129 : decode cX5_tellObject 129 = .ok (.iconst 1, 1) := by decide +kernel
theorem dX5_tellObject_130 : decode cX5_tellObject 130 = .ok (.goto 4, 3) := by decide +kernel
theorem dX5_tellObject_133 : decode cX5_tellObject 133 = .ok (.iconst 0, 1) := by decide +kernel
theorem dX5_tellObject_134 : decode cX5_tellObject 134 = .ok (.ireturn, 1) := by decide +kernel
theorem dX5_tellObject_135 : decode cX5_tellObject 135 = .ok (.aload_n 0, 1) := by decide +kernel
theorem dX5_tellObject_136 : decode cX5_tellObject 136 = .ok (.getfield 12, 3) := by decide +kernel
theorem dX5_tellObject_139 : decode cX5_tellObject 139 = .ok (.getfield 104, 3) := by decide +kernel
theorem dX5_tellObject_142 : decode cX5_tellObject 142 = .ok (.iload_n 1, 1) := by decide +kernel
theorem dX5_tellObject_143 : decode cX5_tellObject 143 = .ok (.invokevirtual 151, 3) := by decide +kernel
theorem dX5_tellObject_146 : decode cX5_tellObject 146 = .ok (.ireturn, 1) := by decide +kernel
theorem dX5_tellObject_147 : decode cX5_tellObject 147 = .ok (.aload_n 0, 1) := by decide +kernel
theorem dX5_tellObject_148 : decode cX5_tellObject 148 = .ok (.getfield 21, 3) := by decide +kernel
theorem dX5_tellObject_151 : decode cX5_tellObject 151 = .ok (.getfield 44, 3) := by decide +kernel
theorem dX5_tellObject_154 : decode cX5_tellObject 154 = .ok (.aload_n 0, 1) := by decide +kernel
theorem dX5_tellObject_155 : decode cX5_tellObject 155 = .ok (.getfield 25, 3) := by decide +kernel
theorem dX5_tellObject_158 : decode cX5_tellObject 158 = .ok (.iload_n 1, 1) := by decide +kernel
theorem dX5_tellObject_159 : decode cX5_tellObject 159 = .ok (.iaload, 1) := by decide +kernel
theorem dX5_tellObject_160 : decode cX5_tellObject 160 = .ok (.isub, 1) := by decide +kernel
theorem dX5_tellObject_161 : decode cX5_tellObject 161 = .ok (.ireturn, 1) := by decide +kernel
theorem dX5_tellObject_162 : decode cX5_tellObject 162 = .ok (.bipush (-11), 2) := by decide +kernel
theorem dX5_tellObject_164 : decode cX5_tellObject 164 = .ok (.ireturn, 1) := by decide +kernel
theorem dX5_tellSet_0 : decode cX5_tellSet 0 = .ok (.iload_n 1, 1) := by decide +kernel
theorem dX5_tellSet_1 : decode cX5_tellSet 1 = .ok (.tableswitch 115 0 7 #[47, 55, 63, 71, 83, 91, 99, 107], 47) := by decide +kernel
theorem dX5_tellSet_48 : decode cX5_tellSet 48 = .ok (.aload_n 0, 1) := by decide +kernel
theorem dX5_tellSet_49 : decode cX5_tellSet 49 = .ok (.getfield 12, 3) := by decide +kernel
theorem dX5_tellSet_52 : decode cX5_tellSet 52 = .ok (.getfield 154, 3) := by decide +kernel
theorem dX5_tellSet_55 : decode cX5_tellSet 55 = .ok (.ireturn, 1) := by decide +kernel
theorem dX5_tellSet_56 : decode cX5_tellSet 56 = .ok (.aload_n 0, 1) := by decide +kernel
theorem dX5_tellSet_57 : decode cX5_tellSet 57 = .ok (.getfield 12, 3) := by decide +kernel
theorem dX5_tellSet_60 : decode cX5_tellSet 60 = .ok (.invokevirtual 148, 3) := by decide +kernel
theorem dX5_tellSet_63 : decode cX5_tellSet 63 = .ok (.ireturn, 1) := by decide +kernel
theorem dX5_tellSet_64 : decode cX5_tellSet 64 = .ok (.aload_n 0, 1) := by decide +kernel
theorem dX5_tellSet_65 : decode cX5_tellSet 65 = .ok (.getfield 12, 3) := by decide +kernel
theorem dX5_tellSet_68 : decode cX5_tellSet 68 = .ok (.invokevirtual 66, 3) := by decide +kernel
theorem dX5_tellSet_71 : decode cX5_tellSet 71 = .ok (.ireturn, 1) := by decide +kernel
theorem dX5_tellSet_72 : decode cX5_tellSet 72 = .ok (.aload_n 0, 1) := by decide +kernel
theorem dX5_tellSet_73 : decode cX5_tellSet 73 = .ok (.getfield 21, 3) := by decide +kernel
theorem dX5_tellSet_76 : decode cX5_tellSet 76 = .ok (.aload_n 0, 1) := by decide +kernel
theorem dX5_tellSet_77 : decode cX5_tellSet 77 = .ok (.getfield 12, 3) := by decide +kernel
theorem dX5_tellSet_80 : decode cX5_tellSet 80 = .ok (.invokevirtual 157, 3) := by decide +kernel
theorem dX5_tellSet_83 : decode cX5_tellSet 83 = .ok (.ireturn, 1) := by decide +kernel
theorem dX5_tellSet_84 : decode cX5_tellSet 84 = .ok (.aload_n 0, 1) := by decide +kernel
theorem dX5_tellSet_85 : decode cX5_tellSet 85 = .ok (.getfield 21, 3) := by decide +kernel
theorem dX5_tellSet_88 : decode cX5_tellSet 88 = .ok (.getfield 161, 3) := by decide +kernel
theorem dX5_tellSet_91 : decode cX5_tellSet 91 = .ok (.ireturn, 1) := by decide +kernel
theorem dX5_tellSet_92 : decode cX5_tellSet 92 = .ok (.aload_n 0, 1) := by decide +kernel
theorem dX5_tellSet_93 : decode cX5_tellSet 93 = .ok (.getfield 21, 3) := by decide +kernel
theorem dX5_tellSet_96 : decode cX5_tellSet 96 = .ok (.getfield 164, 3) := by decide +kernel
theorem dX5_tellSet_99 : decode cX5_tellSet 99 = .ok (.ireturn, 1) := by decide +kernel
theorem dX5_tellSet_100 : decode cX5_tellSet 100 = .ok (.aload_n 0, 1) := by decide +kernel
theorem dX5_tellSet_101 : decode cX5_tellSet 101 = .ok (.getfield 12, 3) := by decide +kernel
theorem dX5_tellSet_104 : decode cX5_tellSet 104 = .ok (.getfield 96, 3) := by decide +kernel
theorem dX5_tellSet_107 : decode cX5_tellSet 107 = .ok (.ireturn, 1) := by decide +kernel
theorem dX5_tellSet_108 : decode cX5_tellSet 108 = .ok (.aload_n 0, 1) := by decide +kernel
theorem dX5_tellSet_109 : decode cX5_tellSet 109 = .ok (.getfield 21, 3) := by decide +kernel
theorem dX5_tellSet_112 : decode cX5_tellSet 112 = .ok (.getfield 167, 3) := by decide +kernel
theorem dX5_tellSet_115 : decode cX5_tellSet 115 = .ok (.ireturn, 1) := by decide +kernel
theorem dX5_tellSet_116 : decode cX5_tellSet 116 = .ok (.bipush (-11), 2) := by decide +kernel
theorem dX5_tellSet_118 : decode cX5_tellSet 118 = .ok (.ireturn, 1) := by decide +kernel
theorem dX5_tellNumber_0 : decode cX5_tellNumber 0 = .ok (.iload_n 1, 1) := by decide +kernel
theorem dX5_tellNumber_1 : decode cX5_tellNumber 1 = .ok (.tableswitch 160 0 9 #[55, 63, 71, 79, 84, 92, 97, 108, 132, 155], 55) := by decide +kernel
theorem dX5_tellNumber_56 : decode cX5_tellNumber 56 = .ok (.aload_n 0, 1) := by decide +kernel
theorem dX5_tellNumber_57 : decode cX5_tellNumber 57 = .ok (.getfield 12, 3) := by decide +kernel
theorem dX5_tellNumber_60 : decode cX5_tellNumber 60 = .ok (.invokevirtual 170, 3) := by decide +kernel
theorem dX5_tellNumber_63 : decode cX5_tellNumber 63 = .ok (.ireturn, 1) := by decide +kernel
theorem dX5_tellNumber_64 : decode cX5_tellNumber 64 = .ok (.aload_n 0, 1) := by decide +kernel
theorem dX5_tellNumber_65 : decode cX5_tellNumber 65 = .ok (.getfield 21, 3) := by decide +kernel
theorem dX5_tellNumber_68 : decode cX5_tellNumber 68 = .ok (.getfield 173, 3) := by decide +kernel
theorem dX5_tellNumber_71 : decode cX5_tellNumber 71 = .ok (.ireturn, 1) := by decide +kernel
theorem dX5_tellNumber_72 : decode cX5_tellNumber 72 = .ok (.aload_n 0, 1) := by decide +kernel
theorem dX5_tellNumber_73 : decode cX5_tellNumber 73 = .ok (.getfield 21, 3) := by decide +kernel
theorem dX5_tellNumber_76 : decode cX5_tellNumber 76 = .ok (.getfield 44, 3) := by decide +kernel
theorem dX5_tellNumber_79 : decode cX5_tellNumber 79 = .ok (.ireturn, 1) := by decide +kernel
theorem dX5_tellNumber_80 : decode cX5_tellNumber 80 = .ok (.aload_n 0, 1) := by decide +kernel
theorem dX5_tellNumber_81 : decode cX5_tellNumber 81 = .ok (.getfield 41, 3) := by decide +kernel
theorem dX5_tellNumber_84 : decode cX5_tellNumber 84 = .ok (.ireturn, 1) := by decide +kernel
theorem dX5_tellNumber_85 : decode cX5_tellNumber 85 = .ok (.aload_n 0, 1) := by decide +kernel
theorem dX5_tellNumber_86 : decode cX5_tellNumber 86 = .ok (.getfield 21, 3) := by decide +kernel
theorem dX5_tellNumber_89 : decode cX5_tellNumber 89 = .ok (.getfield 139, 3) := by decide +kernel
theorem dX5_tellNumber_92 : decode cX5_tellNumber 92 = .ok (.ireturn, 1) := by decide +kernel
theorem dX5_tellNumber_93 : decode cX5_tellNumber 93 = .ok (.aload_n 0, 1) := by decide +kernel
theorem dX5_tellNumber_94 : decode cX5_tellNumber 94 = .ok (.getfield 113, 3) := by decide +kernel
theorem dX5_tellNumber_97 : decode cX5_tellNumber 97 = .ok (.ireturn, 1) := by decide +kernel
theorem dX5_tellNumber_98 : decode cX5_tellNumber 98 = .ok (.aload_n 0, 1) := by decide +kernel
theorem dX5_tellNumber_99 : decode cX5_tellNumber 99 = .ok (.getfield 12, 3) := by decide +kernel
theorem dX5_tellNumber_102 : decode cX5_tellNumber 102 = .ok (.getfield 104, 3) := by decide +kernel
theorem dX5_tellNumber_105 : decode cX5_tellNumber 105 = .ok (.getfield 136, 3) := by decide +kernel
theorem dX5_tellNumber_108 : decode cX5_tellNumber 108 = .ok (.ireturn, 1) := by decide +kernel
theorem dX5_tellNumber_109 : decode cX5_tellNumber 109 = .ok (.aload_n 0, 1) := by decide +kernel
theorem dX5_tellNumber_110 : decode cX5_tellNumber 110 = .ok (.getfield 21, 3) := by decide +kernel
theorem dX5_tellNumber_113 : decode cX5_tellNumber 113 = .ok (.getfield 173, 3) := by decide +kernel
theorem dX5_tellNumber_116 : decode cX5_tellNumber 116 = .ok (.iconst 3, 1) := by decide +kernel
theorem dX5_tellNumber_117 : decode cX5_tellNumber 117 = .ok (.if_icmp .ne 13, 3) := by decide +kernel
theorem dX5_tellNumber_120 : decode cX5_tellNumber 120 = .ok (.aload_n 0, 1) := by decide +kernel
theorem dX5_tellNumber_121 : decode cX5_tellNumber 121 = .ok (.getfield 21, 3) := by decide +kernel
theorem dX5_tellNumber_124 : decode cX5_tellNumber 124 = .ok (.getfield 176, 3) := by decide +kernel
theorem dX5_tellNumber_127 : decode cX5_tellNumber 127 = .ok (.goto 5, 3) := by decide +kernel
theorem dX5_tellNumber_130 : decode cX5_tellNumber 130 = .ok (.bipush (-14), 2) := by decide +kernel
theorem dX5_tellNumber_132 : decode cX5_tellNumber 132 = .ok (.ireturn, 1) := by decide +kernel
theorem dX5_tellNumber_133 : decode cX5_tellNumber 133 = .ok (.aload_n 0, 1) := by decide +kernel
theorem dX5_tellNumber_134 : decode cX5_tellNumber 134 = .ok (.getfield 21, 3) := by decide +kernel
theorem dX5_tellNumber_137 : decode cX5_tellNumber 137 = .ok (.getfield 44, 3) := by decide +kernel
theorem dX5_tellNumber_140 : decode cX5_tellNumber 140 = .ok (.ifCond .le 13, 3) := by decide +kernel
theorem dX5_tellNumber_143 : decode cX5_tellNumber 143 = .ok (.aload_n 0, 1) := by decide +kernel
theorem dX5_tellNumber_144 : decode cX5_tellNumber 144 = .ok (.getfield 21, 3) := by decide +kernel
theorem dX5_tellNumber_147 : decode cX5_tellNumber 147 = .ok (.getfield 179, 3) := by decide +kernel
theorem dX5_tellNumber_150 : decode cX5_tellNumber 150 = .ok (.goto 5, 3) := by decide +kernel
theorem dX5_tellNumber_153 : decode cX5_tellNumber 153 = .ok (.bipush (-14), 2) := by decide +kernel
theorem dX5_tellNumber_155 : decode cX5_tellNumber 155 = .ok (.ireturn, 1) := by decide +kernel
theorem dX5_tellNumber_156 : decode cX5_tellNumber 156 = .ok (.aload_n 0, 1) := by decide +kernel
theorem dX5_tellNumber_157 : decode cX5_tellNumber 157 = .ok (.getfield 29, 3) := by decide +kernel
theorem dX5_tellNumber_160 : decode cX5_tellNumber 160 = .ok (.ireturn, 1) := by decide +kernel
theorem dX5_tellNumber_161 : decode cX5_tellNumber 161 = .ok (.bipush (-11), 2) := by decide +kernel
theorem dX5_tellNumber_163 : decode cX5_tellNumber 163 = .ok (.ireturn, 1) := by decide +kernel
theorem dJ9_floorMod_7cf53_0 : decode cJ9_floorMod_7cf53 0 = .ok (.iload_n 0, 1) := by decide +kernel
theorem dJ9_floorMod_7cf53_1 : decode cJ9_floorMod_7cf53 1 = .ok (.iload_n 1, 1) := by decide +kernel
theorem dJ9_floorMod_7cf53_2 : decode cJ9_floorMod_7cf53 2 = .ok (.irem, 1) := by decide +kernel
theorem dJ9_floorMod_7cf53_3 : decode cJ9_floorMod_7cf53 3 = .ok (.istore_n 2, 1) := by decide +kernel
theorem dJ9_floorMod_7cf53_4 : decode cJ9_floorMod_7cf53 4 = .ok (.iload_n 0, 1) := by decide +kernel
theorem dJ9_floorMod_7cf53_5 : decode cJ9_floorMod_7cf53 5 = .ok (.iload_n 1, 1) := by decide +kernel
theorem dJ9_floorMod_7cf53_6 : decode cJ9_floorMod_7cf53 6 = .ok (.ixor, 1) := by decide +kernel
theorem dJ9_floorMod_7cf53_7 : decode cJ9_floorMod_7cf53 7 = .ok (.ifCond .ge 11, 3) := by decide +kernel
theorem dJ9_floorMod_7cf53_10 : decode cJ9_floorMod_7cf53 10 = .ok (.iload_n 2, 1) := by decide +kernel
theorem dJ9_floorMod_7cf53_11 : decode cJ9_floorMod_7cf53 11 = .ok (.ifCond .eq 7, 3) := by decide +kernel
theorem dJ9_floorMod_7cf53_14 : decode cJ9_floorMod_7cf53 14 = .ok (.iload_n 2, 1) := by decide +kernel
theorem dJ9_floorMod_7cf53_15 : decode cJ9_floorMod_7cf53 15 = .ok (.iload_n 1, 1) := by decide +kernel
theorem dJ9_floorMod_7cf53_16 : decode cJ9_floorMod_7cf53 16 = .ok (.iadd, 1) := by decide +kernel
theorem dJ9_floorMod_7cf53_17 : decode cJ9_floorMod_7cf53 17 = .ok (.ireturn, 1) := by decide +kernel
theorem dJ9_floorMod_7cf53_18 : decode cJ9_floorMod_7cf53 18 = .ok (.iload_n 2, 1) := by decide +kernel
theorem dJ9_floorMod_7cf53_19 : decode cJ9_floorMod_7cf53 19 = .ok (.ireturn, 1) := by decide +kernel
theorem dX3_copyFrom_0 : decode cX3_copyFrom 0 = .ok (.aload_n 1, 1) := by decide +kernel
theorem dX3_copyFrom_1 : decode cX3_copyFrom 1 = .ok (.getfield 9, 3) := by decide +kernel
theorem dX3_copyFrom_4 : decode cX3_copyFrom 4 = .ok (.iconst 0, 1) := by decide +kernel
theorem dX3_copyFrom_5 : decode cX3_copyFrom 5 = .ok (.aload_n 0, 1) := by decide +kernel
theorem dX3_copyFrom_6 : decode cX3_copyFrom 6 = .ok (.getfield 9, 3) := by decide +kernel
theorem dX3_copyFrom_9 : decode cX3_copyFrom 9 = .ok (.iconst 0, 1) := by decide +kernel
theorem dX3_copyFrom_10 : decode cX3_copyFrom 10 = .ok (.bipush 24, 2) := by decide +kernel
theorem dX3_copyFrom_12 : decode cX3_copyFrom 12 = .ok (.invokestatic 23, 3) := by decide +kernel
theorem dX3_copyFrom_15 : decode cX3_copyFrom 15 = .ok (.aload_n 0, 1) := by decide +kernel
theorem dX3_copyFrom_16 : decode cX3_copyFrom 16 = .ok (.aload_n 1, 1) := by decide +kernel
theorem dX3_copyFrom_17 : decode cX3_copyFrom 17 = .ok (.getfield 15, 3) := by decide +kernel
theorem dX3_copyFrom_20 : decode cX3_copyFrom 20 = .ok (.putfield 15, 3) := by decide +kernel
theorem dX3_copyFrom_23 : decode cX3_copyFrom 23 = .ok (.return_, 1) := by decide +kernel
theorem dX1_copyFrom_0 : decode cX1_copyFrom 0 = .ok (.aload_n 0, 1) := by decide +kernel
theorem dX1_copyFrom_1 : decode cX1_copyFrom 1 = .ok (.aload_n 1, 1) := by decide +kernel
theorem dX1_copyFrom_2 : decode cX1_copyFrom 2 = .ok (.getfield 34, 3) := by decide +kernel
theorem dX1_copyFrom_5 : decode cX1_copyFrom 5 = .ok (.putfield 34, 3) := by decide +kernel
theorem dX1_copyFrom_8 : decode cX1_copyFrom 8 = .ok (.aload_n 0, 1) := by decide +kernel
theorem dX1_copyFrom_9 : decode cX1_copyFrom 9 = .ok (.aload_n 1, 1) := by decide +kernel
theorem dX1_copyFrom_10 : decode cX1_copyFrom 10 = .ok (.getfield 65, 3) := by decide +kernel
theorem dX1_copyFrom_13 : decode cX1_copyFrom 13 = .ok (.putfield 65, 3) := by decide +kernel
theorem dX1_copyFrom_16 : decode cX1_copyFrom 16 = .ok (.aload_n 1, 1) := by decide +kernel
theorem dX1_copyFrom_17 : decode cX1_copyFrom 17 = .ok (.getfield 9, 3) := by decide +kernel
theorem dX1_copyFrom_20 : decode cX1_copyFrom 20 = .ok (.iconst 0, 1) := by decide +kernel
theorem dX1_copyFrom_21 : decode cX1_copyFrom 21 = .ok (.aload_n 0, 1) := by decide +kernel
theorem dX1_copyFrom_22 : decode cX1_copyFrom 22 = .ok (.getfield 9, 3) := by decide +kernel
theorem dX1_copyFrom_25 : decode cX1_copyFrom 25 = .ok (.iconst 0, 1) := by decide +kernel
theorem dX1_copyFrom_26 : decode cX1_copyFrom 26 = .ok (.bipush 72, 2) := by decide +kernel
theorem dX1_copyFrom_28 : decode cX1_copyFrom 28 = .ok (.invokestatic 88, 3) := by decide +kernel
theorem dX1_copyFrom_31 : decode cX1_copyFrom 31 = .ok (.aload_n 1, 1) := by decide +kernel
theorem dX1_copyFrom_32 : decode cX1_copyFrom 32 = .ok (.getfield 15, 3) := by decide +kernel
theorem dX1_copyFrom_35 : decode cX1_copyFrom 35 = .ok (.iconst 0, 1) := by decide +kernel
theorem dX1_copyFrom_36 : decode cX1_copyFrom 36 = .ok (.aload_n 0, 1) := by decide +kernel
theorem dX1_copyFrom_37 : decode cX1_copyFrom 37 = .ok (.getfield 15, 3) := by decide +kernel
theorem dX1_copyFrom_40 : decode cX1_copyFrom 40 = .ok (.iconst 0, 1) := by decide +kernel
theorem dX1_copyFrom_41 : decode cX1_copyFrom 41 = .ok (.iconst 4, 1) := by decide +kernel
theorem dX1_copyFrom_42 : decode cX1_copyFrom 42 = .ok (.invokestatic 88, 3) := by decide +kernel
theorem dX1_copyFrom_45 : decode cX1_copyFrom 45 = .ok (.aload_n 1, 1) := by decide +kernel
theorem dX1_copyFrom_46 : decode cX1_copyFrom 46 = .ok (.getfield 18, 3) := by decide +kernel
theorem dX1_copyFrom_49 : decode cX1_copyFrom 49 = .ok (.iconst 0, 1) := by decide +kernel
theorem dX1_copyFrom_50 : decode cX1_copyFrom 50 = .ok (.aload_n 0, 1) := by decide +kernel
theorem dX1_copyFrom_51 : decode cX1_copyFrom 51 = .ok (.getfield 18, 3) := by decide +kernel
theorem dX1_copyFrom_54 : decode cX1_copyFrom 54 = .ok (.iconst 0, 1) := by decide +kernel
theorem dX1_copyFrom_55 : decode cX1_copyFrom 55 = .ok (.iconst 4, 1) := by decide +kernel
theorem dX1_copyFrom_56 : decode cX1_copyFrom 56 = .ok (.invokestatic 88, 3) := by decide +kernel
theorem dX1_copyFrom_59 : decode cX1_copyFrom 59 = .ok (.aload_n 0, 1) := by decide +kernel
theorem dX1_copyFrom_60 : decode cX1_copyFrom 60 = .ok (.getfield 24, 3) := by decide +kernel
theorem dX1_copyFrom_63 : decode cX1_copyFrom 63 = .ok (.aload_n 1, 1) := by decide +kernel
theorem dX1_copyFrom_64 : decode cX1_copyFrom 64 = .ok (.getfield 24, 3) := by decide +kernel
theorem dX1_copyFrom_67 : decode cX1_copyFrom 67 = .ok (.invokevirtual 94, 3) := by decide +kernel
theorem dX1_copyFrom_70 : decode cX1_copyFrom 70 = .ok (.return_, 1) := by decide +kernel
theorem dX4_copyFrom_0 : decode cX4_copyFrom 0 = .ok (.aload_n 0, 1) := by decide +kernel
theorem dX4_copyFrom_1 : decode cX4_copyFrom 1 = .ok (.aload_n 1, 1) := by decide +kernel
theorem dX4_copyFrom_2 : decode cX4_copyFrom 2 = .ok (.getfield 9, 3) := by decide +kernel
theorem dX4_copyFrom_5 : decode cX4_copyFrom 5 = .ok (.putfield 9, 3) := by decide +kernel
theorem dX4_copyFrom_8 : decode cX4_copyFrom 8 = .ok (.aload_n 0, 1) := by decide +kernel
theorem dX4_copyFrom_9 : decode cX4_copyFrom 9 = .ok (.aload_n 1, 1) := by decide +kernel
theorem dX4_copyFrom_10 : decode cX4_copyFrom 10 = .ok (.getfield 33, 3) := by decide +kernel
theorem dX4_copyFrom_13 : decode cX4_copyFrom 13 = .ok (.putfield 33, 3) := by decide +kernel
theorem dX4_copyFrom_16 : decode cX4_copyFrom 16 = .ok (.aload_n 0, 1) := by decide +kernel
theorem dX4_copyFrom_17 : decode cX4_copyFrom 17 = .ok (.aload_n 1, 1) := by decide +kernel
theorem dX4_copyFrom_18 : decode cX4_copyFrom 18 = .ok (.getfield 22, 3) := by decide +kernel
theorem dX4_copyFrom_21 : decode cX4_copyFrom 21 = .ok (.putfield 22, 3) := by decide +kernel
theorem dX4_copyFrom_24 : decode cX4_copyFrom 24 = .ok (.aload_n 0, 1) := by decide +kernel
theorem dX4_copyFrom_25 : decode cX4_copyFrom 25 = .ok (.getfield 18, 3) := by decide +kernel
theorem dX4_copyFrom_28 : decode cX4_copyFrom 28 = .ok (.aload_n 1, 1) := by decide +kernel
theorem dX4_copyFrom_29 : decode cX4_copyFrom 29 = .ok (.getfield 18, 3) := by decide +kernel
theorem dX4_copyFrom_32 : decode cX4_copyFrom 32 = .ok (.invokevirtual 113, 3) := by decide +kernel
theorem dX4_copyFrom_35 : decode cX4_copyFrom 35 = .ok (.aload_n 0, 1) := by decide +kernel
theorem dX4_copyFrom_36 : decode cX4_copyFrom 36 = .ok (.aload_n 1, 1) := by decide +kernel
theorem dX4_copyFrom_37 : decode cX4_copyFrom 37 = .ok (.getfield 49, 3) := by decide +kernel
theorem dX4_copyFrom_40 : decode cX4_copyFrom 40 = .ok (.putfield 49, 3) := by decide +kernel
theorem dX4_copyFrom_43 : decode cX4_copyFrom 43 = .ok (.aload_n 0, 1) := by decide +kernel
theorem dX4_copyFrom_44 : decode cX4_copyFrom 44 = .ok (.aload_n 1, 1) := by decide +kernel
theorem dX4_copyFrom_45 : decode cX4_copyFrom 45 = .ok (.getfield 52, 3) := by decide +kernel
theorem dX4_copyFrom_48 : decode cX4_copyFrom 48 = .ok (.putfield 52, 3) := by decide +kernel
theorem dX4_copyFrom_51 : decode cX4_copyFrom 51 = .ok (.aload_n 0, 1) := by decide +kernel
theorem dX4_copyFrom_52 : decode cX4_copyFrom 52 = .ok (.aload_n 1, 1) := by decide +kernel
theorem dX4_copyFrom_53 : decode cX4_copyFrom 53 = .ok (.getfield 55, 3) := by decide +kernel
theorem dX4_copyFrom_56 : decode cX4_copyFrom 56 = .ok (.putfield 55, 3) := by decide +kernel
theorem dX4_copyFrom_59 : decode cX4_copyFrom 59 = .ok (.aload_n 0, 1) := by decide +kernel
theorem dX4_copyFrom_60 : decode cX4_copyFrom 60 = .ok (.aload_n 1, 1) := by decide +kernel
theorem dX4_copyFrom_61 : decode cX4_copyFrom 61 = .ok (.getfield 58, 3) := by decide +kernel
theorem dX4_copyFrom_64 : decode cX4_copyFrom 64 = .ok (.putfield 58, 3) := by decide +kernel
theorem dX4_copyFrom_67 : decode cX4_copyFrom 67 = .ok (.aload_n 0, 1) := by decide +kernel
theorem dX4_copyFrom_68 : decode cX4_copyFrom 68 = .ok (.aload_n 1, 1) := by decide +kernel
theorem dX4_copyFrom_69 : decode cX4_copyFrom 69 = .ok (.getfield 110, 3) := by decide +kernel
theorem dX4_copyFrom_72 : decode cX4_copyFrom 72 = .ok (.putfield 110, 3) := by decide +kernel
theorem dX4_copyFrom_75 : decode cX4_copyFrom 75 = .ok (.return_, 1) := by decide +kernel
theorem dX5_copyFrom_0 : decode cX5_copyFrom 0 = .ok (.aload_n 0, 1) := by decide +kernel
theorem dX5_copyFrom_1 : decode cX5_copyFrom 1 = .ok (.getfield 12, 3) := by decide +kernel
theorem dX5_copyFrom_4 : decode cX5_copyFrom 4 = .ok (.aload_n 1, 1) := by decide +kernel
theorem dX5_copyFrom_5 : decode cX5_copyFrom 5 = .ok (.getfield 12, 3) := by decide +kernel
theorem dX5_copyFrom_8 : decode cX5_copyFrom 8 = .ok (.invokevirtual 182, 3) := by decide +kernel
theorem dX5_copyFrom_11 : decode cX5_copyFrom 11 = .ok (.aload_n 0, 1) := by decide +kernel
theorem dX5_copyFrom_12 : decode cX5_copyFrom 12 = .ok (.getfield 21, 3) := by decide +kernel
theorem dX5_copyFrom_15 : decode cX5_copyFrom 15 = .ok (.aload_n 1, 1) := by decide +kernel
theorem dX5_copyFrom_16 : decode cX5_copyFrom 16 = .ok (.getfield 21, 3) := by decide +kernel
theorem dX5_copyFrom_19 : decode cX5_copyFrom 19 = .ok (.invokevirtual 185, 3) := by decide +kernel
theorem dX5_copyFrom_22 : decode cX5_copyFrom 22 = .ok (.aload_n 1, 1) := by decide +kernel
theorem dX5_copyFrom_23 : decode cX5_copyFrom 23 = .ok (.getfield 25, 3) := by decide +kernel
theorem dX5_copyFrom_26 : decode cX5_copyFrom 26 = .ok (.iconst 0, 1) := by decide +kernel
theorem dX5_copyFrom_27 : decode cX5_copyFrom 27 = .ok (.aload_n 0, 1) := by decide +kernel
theorem dX5_copyFrom_28 : decode cX5_copyFrom 28 = .ok (.getfield 25, 3) := by decide +kernel
theorem dX5_copyFrom_31 : decode cX5_copyFrom 31 = .ok (.iconst 0, 1) := by decide +kernel
theorem dX5_copyFrom_32 : decode cX5_copyFrom 32 = .ok (.bipush 24, 2) := by decide +kernel
theorem dX5_copyFrom_34 : decode cX5_copyFrom 34 = .ok (.invokestatic 188, 3) := by decide +kernel
theorem dX5_copyFrom_37 : decode cX5_copyFrom 37 = .ok (.aload_n 0, 1) := by decide +kernel
theorem dX5_copyFrom_38 : decode cX5_copyFrom 38 = .ok (.aload_n 1, 1) := by decide +kernel
theorem dX5_copyFrom_39 : decode cX5_copyFrom 39 = .ok (.getfield 29, 3) := by decide +kernel
theorem dX5_copyFrom_42 : decode cX5_copyFrom 42 = .ok (.putfield 29, 3) := by decide +kernel
theorem dX5_copyFrom_45 : decode cX5_copyFrom 45 = .ok (.aload_n 0, 1) := by decide +kernel
theorem dX5_copyFrom_46 : decode cX5_copyFrom 46 = .ok (.aload_n 1, 1) := by decide +kernel
theorem dX5_copyFrom_47 : decode cX5_copyFrom 47 = .ok (.getfield 41, 3) := by decide +kernel
theorem dX5_copyFrom_50 : decode cX5_copyFrom 50 = .ok (.putfield 41, 3) := by decide +kernel
theorem dX5_copyFrom_53 : decode cX5_copyFrom 53 = .ok (.aload_n 0, 1) := by decide +kernel
theorem dX5_copyFrom_54 : decode cX5_copyFrom 54 = .ok (.aload_n 1, 1) := by decide +kernel
theorem dX5_copyFrom_55 : decode cX5_copyFrom 55 = .ok (.getfield 113, 3) := by decide +kernel
theorem dX5_copyFrom_58 : decode cX5_copyFrom 58 = .ok (.putfield 113, 3) := by decide +kernel
theorem dX5_copyFrom_61 : decode cX5_copyFrom 61 = .ok (.return_, 1) := by decide +kernel
