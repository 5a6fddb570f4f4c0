theorem dX2_stateAt_0 : decode cX2_stateAt 0 = .ok (.aload_n 0, 1) := by decide +kernel
theorem dX2_stateAt_1 : decode cX2_stateAt 1 = .ok (.getfield 11, 3) := by decide +kernel
theorem dX2_stateAt_4 : decode cX2_stateAt 4 = .ok (.aload_n 0, 1) := by decide +kernel
theorem dX2_stateAt_5 : decode cX2_stateAt 5 = .ok (.getfield 18, 3) := by decide +kernel
theorem dX2_stateAt_8 : decode cX2_stateAt 8 = .ok (.iload_n 1, 1) := by decide +kernel
theorem dX2_stateAt_9 : decode cX2_stateAt 9 = .ok (.iadd, 1) := by decide +kernel
theorem dX2_stateAt_10 : decode cX2_stateAt 10 = .ok (.iconst 5, 1) := by decide +kernel
theorem dX2_stateAt_11 : decode cX2_stateAt 11 = .ok (.invokestatic 22, 3) := by decide +kernel
theorem dX2_stateAt_14 : decode cX2_stateAt 14 = .ok (.aaload, 1) := by decide +kernel
theorem dX2_stateAt_15 : decode cX2_stateAt 15 = .ok (.areturn, 1) := by decide +kernel
theorem dX2_note_0 : decode cX2_note 0 = .ok (.aload_n 0, 1) := by decide +kernel
theorem dX2_note_1 : decode cX2_note 1 = .ok (.aload_n 0, 1) := by decide +kernel
theorem dX2_note_2 : decode cX2_note 2 = .ok (.getfield 28, 3) := by decide +kernel
theorem dX2_note_5 : decode cX2_note 5 = .ok (.invokevirtual 31, 3) := by decide +kernel
theorem dX2_note_8 : decode cX2_note 8 = .ok (.aload_n 1, 1) := by decide +kernel
theorem dX2_note_9 : decode cX2_note 9 = .ok (.invokevirtual 35, 3) := by decide +kernel
theorem dX2_note_12 : decode cX2_note 12 = .ok (.return_, 1) := by decide +kernel
theorem dX2_takeBack_0 : decode cX2_takeBack 0 = .ok (.aload_n 0, 1) := by decide +kernel
theorem dX2_takeBack_1 : decode cX2_takeBack 1 = .ok (.getfield 28, 3) := by decide +kernel
theorem dX2_takeBack_4 : decode cX2_takeBack 4 = .ok (.ifCond .gt 6, 3) := by decide +kernel
theorem dX2_takeBack_7 : decode cX2_takeBack 7 = .ok (.bipush (-12), 2) := by decide +kernel
theorem dX2_takeBack_9 : decode cX2_takeBack 9 = .ok (.ireturn, 1) := by decide +kernel
theorem dX2_takeBack_10 : decode cX2_takeBack 10 = .ok (.aload_n 0, 1) := by decide +kernel
theorem dX2_takeBack_11 : decode cX2_takeBack 11 = .ok (.dup, 1) := by decide +kernel
theorem dX2_takeBack_12 : decode cX2_takeBack 12 = .ok (.getfield 28, 3) := by decide +kernel
theorem dX2_takeBack_15 : decode cX2_takeBack 15 = .ok (.iconst 1, 1) := by decide +kernel
theorem dX2_takeBack_16 : decode cX2_takeBack 16 = .ok (.isub, 1) := by decide +kernel
theorem dX2_takeBack_17 : decode cX2_takeBack 17 = .ok (.putfield 28, 3) := by decide +kernel
theorem dX2_takeBack_20 : decode cX2_takeBack 20 = .ok (.aload_n 1, 1) := by decide +kernel
theorem dX2_takeBack_21 : decode cX2_takeBack 21 = .ok (.aload_n 0, 1) := by decide +kernel
theorem dX2_takeBack_22 : decode cX2_takeBack 22 = .ok (.aload_n 0, 1) := by decide +kernel
theorem dX2_takeBack_23 : decode cX2_takeBack 23 = .ok (.getfield 28, 3) := by decide +kernel
theorem dX2_takeBack_26 : decode cX2_takeBack 26 = .ok (.invokevirtual 31, 3) := by decide +kernel
theorem dX2_takeBack_29 : decode cX2_takeBack 29 = .ok (.invokevirtual 35, 3) := by decide +kernel
theorem dX2_takeBack_32 : decode cX2_takeBack 32 = .ok (.aload_n 0, 1) := by decide +kernel
theorem dX2_takeBack_33 : decode cX2_takeBack 33 = .ok (.getfield 28, 3) := by decide +kernel
theorem dX2_takeBack_36 : decode cX2_takeBack 36 = .ok (.ireturn, 1) := by decide +kernel
theorem dX2_settle_0 : decode cX2_settle 0 = .ok (.iload_n 1, 1) := by decide +kernel
theorem dX2_settle_1 : decode cX2_settle 1 = .ok (.invokestatic 39, 3) := by decide +kernel
theorem dX2_settle_4 : decode cX2_settle 4 = .ok (.ifCond .eq 5, 3) := by decide +kernel
theorem dX2_settle_7 : decode cX2_settle 7 = .ok (.iload_n 1, 1) := by decide +kernel
theorem dX2_settle_8 : decode cX2_settle 8 = .ok (.ireturn, 1) := by decide +kernel
theorem dX2_settle_9 : decode cX2_settle 9 = .ok (.aload_n 0, 1) := by decide +kernel
theorem dX2_settle_10 : decode cX2_settle 10 = .ok (.getfield 28, 3) := by decide +kernel
theorem dX2_settle_13 : decode cX2_settle 13 = .ok (.iconst 4, 1) := by decide +kernel
theorem dX2_settle_14 : decode cX2_settle 14 = .ok (.if_icmp .ge 16, 3) := by decide +kernel
theorem dX2_settle_17 : decode cX2_settle 17 = .ok (.aload_n 0, 1) := by decide +kernel
theorem dX2_settle_18 : decode cX2_settle 18 = .ok (.dup, 1) := by decide +kernel
theorem dX2_settle_19 : decode cX2_settle 19 = .ok (.getfield 28, 3) := by decide +kernel
theorem dX2_settle_22 : decode cX2_settle 22 = .ok (.iconst 1, 1) := by decide +kernel
theorem dX2_settle_23 : decode cX2_settle 23 = .ok (.iadd, 1) := by decide +kernel
theorem dX2_settle_24 : decode cX2_settle 24 = .ok (.putfield 28, 3) := by decide +kernel
theorem dX2_settle_27 : decode cX2_settle 27 = .ok (.goto 17, 3) := by decide +kernel
theorem dX2_settle_30 : decode cX2_settle 30 = .ok (.aload_n 0, 1) := by decide +kernel
theorem dX2_settle_31 : decode cX2_settle 31 = .ok (.aload_n 0, 1) := by decide +kernel
theorem dX2_settle_32 : decode cX2_settle 32 = .ok (.getfield 18, 3) := by decide +kernel
theorem dX2_settle_35 : decode cX2_settle 35 = .ok (.iconst 1, 1) := by decide +kernel
theorem dX2_settle_36 : decode cX2_settle 36 = .ok (.iadd, 1) := by decide +kernel
theorem dX2_settle_37 : decode cX2_settle 37 = .ok (.iconst 5, 1) := by decide +kernel
theorem dX2_settle_38 : decode cX2_settle 38 = .ok (.invokestatic 22, 3) := by decide +kernel
theorem dX2_settle_41 : decode cX2_settle 41 = .ok (.putfield 18, 3) := by decide +kernel
theorem dX2_settle_44 : decode cX2_settle 44 = .ok (.iload_n 1, 1) := by decide +kernel
theorem dX2_settle_45 : decode cX2_settle 45 = .ok (.ireturn, 1) := by decide +kernel
theorem dX6_all_0 : decode cX6_all 0 = .ok (.aload_n 0, 1) := by decide +kernel
theorem dX6_all_1 : decode cX6_all 1 = .ok (.getfield 25, 3) := by decide +kernel
theorem dX6_all_4 : decode cX6_all 4 = .ok (.aload_n 0, 1) := by decide +kernel
theorem dX6_all_5 : decode cX6_all 5 = .ok (.getfield 10, 3) := by decide +kernel
theorem dX6_all_8 : decode cX6_all 8 = .ok (.invokevirtual 40, 3) := by decide +kernel
theorem dX6_all_11 : decode cX6_all 11 = .ok (.aload_n 0, 1) := by decide +kernel
theorem dX6_all_12 : decode cX6_all 12 = .ok (.getfield 25, 3) := by decide +kernel
theorem dX6_all_15 : decode cX6_all 15 = .ok (.aload_n 0, 1) := by decide +kernel
theorem dX6_all_16 : decode cX6_all 16 = .ok (.getfield 10, 3) := by decide +kernel
theorem dX6_all_19 : decode cX6_all 19 = .ok (.invokevirtual 78, 3) := by decide +kernel
theorem dX6_all_22 : decode cX6_all 22 = .ok (.invokevirtual 48, 3) := by decide +kernel
theorem dX6_all_25 : decode cX6_all 25 = .ok (.ireturn, 1) := by decide +kernel
theorem dX6_ask_0 : decode cX6_ask 0 = .ok (.aload_n 0, 1) := by decide +kernel
theorem dX6_ask_1 : decode cX6_ask 1 = .ok (.getfield 25, 3) := by decide +kernel
theorem dX6_ask_4 : decode cX6_ask 4 = .ok (.aload_n 0, 1) := by decide +kernel
theorem dX6_ask_5 : decode cX6_ask 5 = .ok (.getfield 10, 3) := by decide +kernel
theorem dX6_ask_8 : decode cX6_ask 8 = .ok (.invokevirtual 40, 3) := by decide +kernel
theorem dX6_ask_11 : decode cX6_ask 11 = .ok (.aload_n 0, 1) := by decide +kernel
theorem dX6_ask_12 : decode cX6_ask 12 = .ok (.getfield 25, 3) := by decide +kernel
theorem dX6_ask_15 : decode cX6_ask 15 = .ok (.aload_n 0, 1) := by decide +kernel
theorem dX6_ask_16 : decode cX6_ask 16 = .ok (.getfield 10, 3) := by decide +kernel
theorem dX6_ask_19 : decode cX6_ask 19 = .ok (.iload_n 1, 1) := by decide +kernel
theorem dX6_ask_20 : decode cX6_ask 20 = .ok (.iload_n 2, 1) := by decide +kernel
theorem dX6_ask_21 : decode cX6_ask 21 = .ok (.invokevirtual 62, 3) := by decide +kernel
theorem dX6_ask_24 : decode cX6_ask 24 = .ok (.invokevirtual 48, 3) := by decide +kernel
theorem dX6_ask_27 : decode cX6_ask 27 = .ok (.ireturn, 1) := by decide +kernel
theorem dX6_begin_0 : decode cX6_begin 0 = .ok (.aload_n 0, 1) := by decide +kernel
theorem dX6_begin_1 : decode cX6_begin 1 = .ok (.getfield 25, 3) := by decide +kernel
theorem dX6_begin_4 : decode cX6_begin 4 = .ok (.aload_n 0, 1) := by decide +kernel
theorem dX6_begin_5 : decode cX6_begin 5 = .ok (.getfield 10, 3) := by decide +kernel
theorem dX6_begin_8 : decode cX6_begin 8 = .ok (.invokevirtual 40, 3) := by decide +kernel
theorem dX6_begin_11 : decode cX6_begin 11 = .ok (.aload_n 0, 1) := by decide +kernel
theorem dX6_begin_12 : decode cX6_begin 12 = .ok (.getfield 25, 3) := by decide +kernel
theorem dX6_begin_15 : decode cX6_begin 15 = .ok (.aload_n 0, 1) := by decide +kernel
theorem dX6_begin_16 : decode cX6_begin 16 = .ok (.getfield 10, 3) := by decide +kernel
theorem dX6_begin_19 : decode cX6_begin 19 = .ok (.invokevirtual 71, 3) := by decide +kernel
theorem dX6_begin_22 : decode cX6_begin 22 = .ok (.invokevirtual 48, 3) := by decide +kernel
theorem dX6_begin_25 : decode cX6_begin 25 = .ok (.ireturn, 1) := by decide +kernel
theorem dX6_clearText_0 : decode cX6_clearText 0 = .ok (.aload_n 0, 1) := by decide +kernel
theorem dX6_clearText_1 : decode cX6_clearText 1 = .ok (.getfield 32, 3) := by decide +kernel
theorem dX6_clearText_4 : decode cX6_clearText 4 = .ok (.invokevirtual 166, 3) := by decide +kernel
theorem dX6_clearText_7 : decode cX6_clearText 7 = .ok (.ireturn, 1) := by decide +kernel
theorem dX6_count_0 : decode cX6_count 0 = .ok (.iload_n 1, 1) := by decide +kernel
theorem dX6_count_1 : decode cX6_count 1 = .ok (.tableswitch 56 10 12 #[27, 35, 43], 27) := by decide +kernel
theorem dX6_count_28 : decode cX6_count 28 = .ok (.aload_n 0, 1) := by decide +kernel
theorem dX6_count_29 : decode cX6_count 29 = .ok (.getfield 25, 3) := by decide +kernel
theorem dX6_count_32 : decode cX6_count 32 = .ok (.getfield 114, 3) := by decide +kernel
theorem dX6_count_35 : decode cX6_count 35 = .ok (.ireturn, 1) := by decide +kernel
theorem dX6_count_36 : decode cX6_count 36 = .ok (.aload_n 0, 1) := by decide +kernel
theorem dX6_count_37 : decode cX6_count 37 = .ok (.getfield 32, 3) := by decide +kernel
theorem dX6_count_40 : decode cX6_count 40 = .ok (.getfield 118, 3) := by decide +kernel
theorem dX6_count_43 : decode cX6_count 43 = .ok (.ireturn, 1) := by decide +kernel
theorem dX6_count_44 : decode cX6_count 44 = .ok (.aload_n 0, 1) := by decide +kernel
theorem dX6_count_45 : decode cX6_count 45 = .ok (.getfield 36, 3) := by decide +kernel
theorem dX6_count_48 : decode cX6_count 48 = .ok (.ifCond .eq 7, 3) := by decide +kernel
theorem dX6_count_51 : decode cX6_count 51 = .ok (.iconst 1, 1) := by decide +kernel
theorem dX6_count_52 : decode cX6_count 52 = .ok (.goto 4, 3) := by decide +kernel
theorem dX6_count_55 : decode cX6_count 55 = .ok (.iconst 0, 1) := by decide +kernel
theorem dX6_count_56 : decode cX6_count 56 = .ok (.ireturn, 1) := by decide +kernel
theorem dX6_count_57 : decode cX6_count 57 = .ok (.aload_n 0, 1) := by decide +kernel
theorem dX6_count_58 : decode cX6_count 58 = .ok (.getfield 10, 3) := by decide +kernel
theorem dX6_count_61 : decode cX6_count 61 = .ok (.iload_n 1, 1) := by decide +kernel
theorem dX6_count_62 : decode cX6_count 62 = .ok (.invokevirtual 121, 3) := by decide +kernel
theorem dX6_count_65 : decode cX6_count 65 = .ok (.ireturn, 1) := by decide +kernel
theorem dX6_far_0 : decode cX6_far 0 = .ok (.aload_n 0, 1) := by decide +kernel
theorem dX6_far_1 : decode cX6_far 1 = .ok (.getfield 10, 3) := by decide +kernel
theorem dX6_far_4 : decode cX6_far 4 = .ok (.getfield 87, 3) := by decide +kernel
theorem dX6_far_7 : decode cX6_far 7 = .ok (.iload_n 1, 1) := by decide +kernel
theorem dX6_far_8 : decode cX6_far 8 = .ok (.invokevirtual 124, 3) := by decide +kernel
theorem dX6_far_11 : decode cX6_far 11 = .ok (.ifCond .ne 6, 3) := by decide +kernel
theorem dX6_far_14 : decode cX6_far 14 = .ok (.bipush (-11), 2) := by decide +kernel
theorem dX6_far_16 : decode cX6_far 16 = .ok (.ireturn, 1) := by decide +kernel
theorem dX6_far_17 : decode cX6_far 17 = .ok (.aload_n 0, 1) := by decide +kernel
theorem dX6_far_18 : decode cX6_far 18 = .ok (.getfield 10, 3) := by decide +kernel
theorem dX6_far_21 : decode cX6_far 21 = .ok (.getfield 87, 3) := by decide +kernel
theorem dX6_far_24 : decode cX6_far 24 = .ok (.iload_n 1, 1) := by decide +kernel
theorem dX6_far_25 : decode cX6_far 25 = .ok (.invokevirtual 128, 3) := by decide +kernel
theorem dX6_far_28 : decode cX6_far 28 = .ok (.istore_n 2, 1) := by decide +kernel
theorem dX6_far_29 : decode cX6_far 29 = .ok (.iload_n 2, 1) := by decide +kernel
theorem dX6_far_30 : decode cX6_far 30 = .ok (.iconst (-1), 1) := by decide +kernel
theorem dX6_far_31 : decode cX6_far 31 = .ok (.if_icmp .ne 8, 3) := by decide +kernel
theorem dX6_far_34 : decode cX6_far 34 = .ok (.bipush (-14), 2) := by decide +kernel
theorem dX6_far_36 : decode cX6_far 36 = .ok (.goto 4, 3) := by decide +kernel
theorem dX6_far_39 : decode cX6_far 39 = .ok (.iload_n 2, 1) := by decide +kernel
theorem dX6_far_40 : decode cX6_far 40 = .ok (.ireturn, 1) := by decide +kernel
theorem dX6_fault_0 : decode cX6_fault 0 = .ok (.iload_n 1, 1) := by decide +kernel
theorem dX6_fault_1 : decode cX6_fault 1 = .ok (.ifCond .lt 8, 3) := by decide +kernel
theorem dX6_fault_4 : decode cX6_fault 4 = .ok (.iload_n 1, 1) := by decide +kernel
theorem dX6_fault_5 : decode cX6_fault 5 = .ok (.iconst 2, 1) := by decide +kernel
theorem dX6_fault_6 : decode cX6_fault 6 = .ok (.if_icmp .le 6, 3) := by decide +kernel
theorem dX6_fault_9 : decode cX6_fault 9 = .ok (.bipush (-11), 2) := by decide +kernel
theorem dX6_fault_11 : decode cX6_fault 11 = .ok (.ireturn, 1) := by decide +kernel
theorem dX6_fault_12 : decode cX6_fault 12 = .ok (.aload_n 0, 1) := by decide +kernel
theorem dX6_fault_13 : decode cX6_fault 13 = .ok (.getfield 16, 3) := by decide +kernel
theorem dX6_fault_16 : decode cX6_fault 16 = .ok (.aload_n 0, 1) := by decide +kernel
theorem dX6_fault_17 : decode cX6_fault 17 = .ok (.getfield 10, 3) := by decide +kernel
theorem dX6_fault_20 : decode cX6_fault 20 = .ok (.invokevirtual 143, 3) := by decide +kernel
theorem dX6_fault_23 : decode cX6_fault 23 = .ok (.aload_n 0, 1) := by decide +kernel
theorem dX6_fault_24 : decode cX6_fault 24 = .ok (.getfield 32, 3) := by decide +kernel
theorem dX6_fault_27 : decode cX6_fault 27 = .ok (.aload_n 0, 1) := by decide +kernel
theorem dX6_fault_28 : decode cX6_fault 28 = .ok (.getfield 16, 3) := by decide +kernel
theorem dX6_fault_31 : decode cX6_fault 31 = .ok (.invokevirtual 169, 3) := by decide +kernel
theorem dX6_fault_34 : decode cX6_fault 34 = .ok (.aload_n 0, 1) := by decide +kernel
theorem dX6_fault_35 : decode cX6_fault 35 = .ok (.getfield 32, 3) := by decide +kernel
theorem dX6_fault_38 : decode cX6_fault 38 = .ok (.iload_n 1, 1) := by decide +kernel
theorem dX6_fault_39 : decode cX6_fault 39 = .ok (.invokevirtual 172, 3) := by decide +kernel
theorem dX6_fault_42 : decode cX6_fault 42 = .ok (.ireturn, 1) := by decide +kernel
theorem dX6_field_0 : decode cX6_field 0 = .ok (.aload_n 0, 1) := by decide +kernel
theorem dX6_field_1 : decode cX6_field 1 = .ok (.getfield 25, 3) := by decide +kernel
theorem dX6_field_4 : decode cX6_field 4 = .ok (.aload_n 0, 1) := by decide +kernel
theorem dX6_field_5 : decode cX6_field 5 = .ok (.getfield 10, 3) := by decide +kernel
theorem dX6_field_8 : decode cX6_field 8 = .ok (.invokevirtual 40, 3) := by decide +kernel
theorem dX6_field_11 : decode cX6_field 11 = .ok (.aload_n 0, 1) := by decide +kernel
theorem dX6_field_12 : decode cX6_field 12 = .ok (.getfield 25, 3) := by decide +kernel
theorem dX6_field_15 : decode cX6_field 15 = .ok (.aload_n 0, 1) := by decide +kernel
theorem dX6_field_16 : decode cX6_field 16 = .ok (.getfield 10, 3) := by decide +kernel
theorem dX6_field_19 : decode cX6_field 19 = .ok (.iload_n 1, 1) := by decide +kernel
theorem dX6_field_20 : decode cX6_field 20 = .ok (.iload_n 2, 1) := by decide +kernel
theorem dX6_field_21 : decode cX6_field 21 = .ok (.iload_n 3, 1) := by decide +kernel
theorem dX6_field_22 : decode cX6_field 22 = .ok (.invokevirtual 51, 3) := by decide +kernel
theorem dX6_field_25 : decode cX6_field 25 = .ok (.invokevirtual 48, 3) := by decide +kernel
theorem dX6_field_28 : decode cX6_field 28 = .ok (.ireturn, 1) := by decide +kernel
theorem dX6_finish_0 : decode cX6_finish 0 = .ok (.aload_n 0, 1) := by decide +kernel
theorem dX6_finish_1 : decode cX6_finish 1 = .ok (.getfield 25, 3) := by decide +kernel
theorem dX6_finish_4 : decode cX6_finish 4 = .ok (.aload_n 0, 1) := by decide +kernel
theorem dX6_finish_5 : decode cX6_finish 5 = .ok (.getfield 10, 3) := by decide +kernel
theorem dX6_finish_8 : decode cX6_finish 8 = .ok (.invokevirtual 40, 3) := by decide +kernel
theorem dX6_finish_11 : decode cX6_finish 11 = .ok (.aload_n 0, 1) := by decide +kernel
theorem dX6_finish_12 : decode cX6_finish 12 = .ok (.getfield 25, 3) := by decide +kernel
theorem dX6_finish_15 : decode cX6_finish 15 = .ok (.aload_n 0, 1) := by decide +kernel
theorem dX6_finish_16 : decode cX6_finish 16 = .ok (.getfield 10, 3) := by decide +kernel
theorem dX6_finish_19 : decode cX6_finish 19 = .ok (.iload_n 1, 1) := by decide +kernel
theorem dX6_finish_20 : decode cX6_finish 20 = .ok (.invokevirtual 68, 3) := by decide +kernel
theorem dX6_finish_23 : decode cX6_finish 23 = .ok (.invokevirtual 48, 3) := by decide +kernel
theorem dX6_finish_26 : decode cX6_finish 26 = .ok (.ireturn, 1) := by decide +kernel
theorem dX6_grey_0 : decode cX6_grey 0 = .ok (.iload_n 1, 1) := by decide +kernel
theorem dX6_grey_1 : decode cX6_grey 1 = .ok (.ifCond .ge 6, 3) := by decide +kernel
theorem dX6_grey_4 : decode cX6_grey 4 = .ok (.bipush (-11), 2) := by decide +kernel
theorem dX6_grey_6 : decode cX6_grey 6 = .ok (.ireturn, 1) := by decide +kernel
theorem dX6_grey_7 : decode cX6_grey 7 = .ok (.aload_n 0, 1) := by decide +kernel
theorem dX6_grey_8 : decode cX6_grey 8 = .ok (.getfield 10, 3) := by decide +kernel
theorem dX6_grey_11 : decode cX6_grey 11 = .ok (.getfield 96, 3) := by decide +kernel
theorem dX6_grey_14 : decode cX6_grey 14 = .ok (.getfield 100, 3) := by decide +kernel
theorem dX6_grey_17 : decode cX6_grey 17 = .ok (.iload_n 1, 1) := by decide +kernel
theorem dX6_grey_18 : decode cX6_grey 18 = .ok (.invokevirtual 106, 3) := by decide +kernel
theorem dX6_grey_21 : decode cX6_grey 21 = .ok (.istore_n 2, 1) := by decide +kernel
theorem dX6_grey_22 : decode cX6_grey 22 = .ok (.iload_n 2, 1) := by decide +kernel
theorem dX6_grey_23 : decode cX6_grey 23 = .ok (.iconst (-1), 1) := by decide +kernel
theorem dX6_grey_24 : decode cX6_grey 24 = .ok (.if_icmp .ne 8, 3) := by decide +kernel
theorem dX6_grey_27 : decode cX6_grey 27 = .ok (.bipush (-14), 2) := by decide +kernel
theorem dX6_grey_29 : decode cX6_grey 29 = .ok (.goto 4, 3) := by decide +kernel
theorem dX6_grey_32 : decode cX6_grey 32 = .ok (.iload_n 2, 1) := by decide +kernel
theorem dX6_grey_33 : decode cX6_grey 33 = .ok (.ireturn, 1) := by decide +kernel
theorem dX6_hangs_0 : decode cX6_hangs 0 = .ok (.aload_n 0, 1) := by decide +kernel
theorem dX6_hangs_1 : decode cX6_hangs 1 = .ok (.getfield 10, 3) := by decide +kernel
theorem dX6_hangs_4 : decode cX6_hangs 4 = .ok (.getfield 87, 3) := by decide +kernel
theorem dX6_hangs_7 : decode cX6_hangs 7 = .ok (.astore_n 2, 1) := by decide +kernel
theorem dX6_hangs_8 : decode cX6_hangs 8 = .ok (.aload_n 2, 1) := by decide +kernel
theorem dX6_hangs_9 : decode cX6_hangs 9 = .ok (.iload_n 1, 1) := by decide +kernel
theorem dX6_hangs_10 : decode cX6_hangs 10 = .ok (.invokevirtual 124, 3) := by decide +kernel
theorem dX6_hangs_13 : decode cX6_hangs 13 = .ok (.ifCond .ne 6, 3) := by decide +kernel
theorem dX6_hangs_16 : decode cX6_hangs 16 = .ok (.bipush (-11), 2) := by decide +kernel
theorem dX6_hangs_18 : decode cX6_hangs 18 = .ok (.ireturn, 1) := by decide +kernel
theorem dX6_hangs_19 : decode cX6_hangs 19 = .ok (.aload_n 2, 1) := by decide +kernel
theorem dX6_hangs_20 : decode cX6_hangs 20 = .ok (.invokevirtual 131, 3) := by decide +kernel
theorem dX6_hangs_23 : decode cX6_hangs 23 = .ok (.istore_n 3, 1) := by decide +kernel
theorem dX6_hangs_24 : decode cX6_hangs 24 = .ok (.iload_n 3, 1) := by decide +kernel
theorem dX6_hangs_25 : decode cX6_hangs 25 = .ok (.iload_n 1, 1) := by decide +kernel
theorem dX6_hangs_26 : decode cX6_hangs 26 = .ok (.invokestatic 134, 3) := by decide +kernel
theorem dX6_hangs_29 : decode cX6_hangs 29 = .ok (.iand, 1) := by decide +kernel
theorem dX6_hangs_30 : decode cX6_hangs 30 = .ok (.ifCond .ne 6, 3) := by decide +kernel
theorem dX6_hangs_33 : decode cX6_hangs 33 = .ok (.bipush (-12), 2) := by decide +kernel
theorem dX6_hangs_35 : decode cX6_hangs 35 = .ok (.ireturn, 1) := by decide +kernel
theorem dX6_hangs_36 : decode cX6_hangs 36 = .ok (.iload_n 3, 1) := by decide +kernel
theorem dX6_hangs_37 : decode cX6_hangs 37 = .ok (.aload_n 2, 1) := by decide +kernel
theorem dX6_hangs_38 : decode cX6_hangs 38 = .ok (.aload_n 2, 1) := by decide +kernel
theorem dX6_hangs_39 : decode cX6_hangs 39 = .ok (.invokevirtual 137, 3) := by decide +kernel
theorem dX6_hangs_42 : decode cX6_hangs 42 = .ok (.iload_n 1, 1) := by decide +kernel
theorem dX6_hangs_43 : decode cX6_hangs 43 = .ok (.invokestatic 134, 3) := by decide +kernel
theorem dX6_hangs_46 : decode cX6_hangs 46 = .ok (.invokevirtual 140, 3) := by decide +kernel
theorem dX6_hangs_49 : decode cX6_hangs 49 = .ok (.iconst (-1), 1) := by decide +kernel
theorem dX6_hangs_50 : decode cX6_hangs 50 = .ok (.ixor, 1) := by decide +kernel
theorem dX6_hangs_51 : decode cX6_hangs 51 = .ok (.iand, 1) := by decide +kernel
theorem dX6_hangs_52 : decode cX6_hangs 52 = .ok (.ireturn, 1) := by decide +kernel
theorem dX6_keep_0 : decode cX6_keep 0 = .ok (.aload_n 0, 1) := by decide +kernel
theorem dX6_keep_1 : decode cX6_keep 1 = .ok (.getfield 19, 3) := by decide +kernel
theorem dX6_keep_4 : decode cX6_keep 4 = .ok (.aload_n 0, 1) := by decide +kernel
theorem dX6_keep_5 : decode cX6_keep 5 = .ok (.getfield 10, 3) := by decide +kernel
theorem dX6_keep_8 : decode cX6_keep 8 = .ok (.invokevirtual 143, 3) := by decide +kernel
theorem dX6_keep_11 : decode cX6_keep 11 = .ok (.aload_n 0, 1) := by decide +kernel
theorem dX6_keep_12 : decode cX6_keep 12 = .ok (.iconst 1, 1) := by decide +kernel
theorem dX6_keep_13 : decode cX6_keep 13 = .ok (.putfield 36, 3) := by decide +kernel
theorem dX6_keep_16 : decode cX6_keep 16 = .ok (.aload_n 0, 1) := by decide +kernel
theorem dX6_keep_17 : decode cX6_keep 17 = .ok (.getfield 10, 3) := by decide +kernel
theorem dX6_keep_20 : decode cX6_keep 20 = .ok (.getfield 87, 3) := by decide +kernel
theorem dX6_keep_23 : decode cX6_keep 23 = .ok (.invokevirtual 157, 3) := by decide +kernel
theorem dX6_keep_26 : decode cX6_keep 26 = .ok (.ireturn, 1) := by decide +kernel
theorem dX6_late_0 : decode cX6_late 0 = .ok (.aload_n 0, 1) := by decide +kernel
theorem dX6_late_1 : decode cX6_late 1 = .ok (.getfield 10, 3) := by decide +kernel
theorem dX6_late_4 : decode cX6_late 4 = .ok (.invokevirtual 149, 3) := by decide +kernel
theorem dX6_late_7 : decode cX6_late 7 = .ok (.invokestatic 152, 3) := by decide +kernel
theorem dX6_late_10 : decode cX6_late 10 = .ok (.ireturn, 1) := by decide +kernel
theorem dX6_make_0 : decode cX6_make 0 = .ok (.aload_n 0, 1) := by decide +kernel
theorem dX6_make_1 : decode cX6_make 1 = .ok (.getfield 25, 3) := by decide +kernel
theorem dX6_make_4 : decode cX6_make 4 = .ok (.aload_n 0, 1) := by decide +kernel
theorem dX6_make_5 : decode cX6_make 5 = .ok (.getfield 10, 3) := by decide +kernel
theorem dX6_make_8 : decode cX6_make 8 = .ok (.invokevirtual 40, 3) := by decide +kernel
theorem dX6_make_11 : decode cX6_make 11 = .ok (.aload_n 0, 1) := by decide +kernel
theorem dX6_make_12 : decode cX6_make 12 = .ok (.getfield 25, 3) := by decide +kernel
theorem dX6_make_15 : decode cX6_make 15 = .ok (.aload_n 0, 1) := by decide +kernel
theorem dX6_make_16 : decode cX6_make 16 = .ok (.getfield 10, 3) := by decide +kernel
theorem dX6_make_19 : decode cX6_make 19 = .ok (.iload_n 1, 1) := by decide +kernel
theorem dX6_make_20 : decode cX6_make 20 = .ok (.invokevirtual 44, 3) := by decide +kernel
theorem dX6_make_23 : decode cX6_make 23 = .ok (.invokevirtual 48, 3) := by decide +kernel
theorem dX6_make_26 : decode cX6_make 26 = .ok (.ireturn, 1) := by decide +kernel
theorem dX6_objectOf_0 : decode cX6_objectOf 0 = .ok (.aload_n 0, 1) := by decide +kernel
theorem dX6_objectOf_1 : decode cX6_objectOf 1 = .ok (.getfield 10, 3) := by decide +kernel
theorem dX6_objectOf_4 : decode cX6_objectOf 4 = .ok (.iload_n 1, 1) := by decide +kernel
theorem dX6_objectOf_5 : decode cX6_objectOf 5 = .ok (.iload_n 2, 1) := by decide +kernel
theorem dX6_objectOf_6 : decode cX6_objectOf 6 = .ok (.invokevirtual 84, 3) := by decide +kernel
theorem dX6_objectOf_9 : decode cX6_objectOf 9 = .ok (.ireturn, 1) := by decide +kernel
theorem dX6_objects_0 : decode cX6_objects 0 = .ok (.aload_n 0, 1) := by decide +kernel
theorem dX6_objects_1 : decode cX6_objects 1 = .ok (.getfield 10, 3) := by decide +kernel
theorem dX6_objects_4 : decode cX6_objects 4 = .ok (.iload_n 1, 1) := by decide +kernel
theorem dX6_objects_5 : decode cX6_objects 5 = .ok (.invokevirtual 111, 3) := by decide +kernel
theorem dX6_objects_8 : decode cX6_objects 8 = .ok (.ireturn, 1) := by decide +kernel
theorem dX6_play_0 : decode cX6_play 0 = .ok (.aload_n 0, 1) := by decide +kernel
theorem dX6_play_1 : decode cX6_play 1 = .ok (.getfield 16, 3) := by decide +kernel
theorem dX6_play_4 : decode cX6_play 4 = .ok (.aload_n 0, 1) := by decide +kernel
theorem dX6_play_5 : decode cX6_play 5 = .ok (.getfield 10, 3) := by decide +kernel
theorem dX6_play_8 : decode cX6_play 8 = .ok (.invokevirtual 143, 3) := by decide +kernel
theorem dX6_play_11 : decode cX6_play 11 = .ok (.aload_n 0, 1) := by decide +kernel
theorem dX6_play_12 : decode cX6_play 12 = .ok (.getfield 32, 3) := by decide +kernel
theorem dX6_play_15 : decode cX6_play 15 = .ok (.aload_n 0, 1) := by decide +kernel
theorem dX6_play_16 : decode cX6_play 16 = .ok (.getfield 16, 3) := by decide +kernel
theorem dX6_play_19 : decode cX6_play 19 = .ok (.invokevirtual 169, 3) := by decide +kernel
theorem dX6_play_22 : decode cX6_play 22 = .ok (.aload_n 0, 1) := by decide +kernel
theorem dX6_play_23 : decode cX6_play 23 = .ok (.getfield 32, 3) := by decide +kernel
theorem dX6_play_26 : decode cX6_play 26 = .ok (.getfield 175, 3) := by decide +kernel
theorem dX6_play_29 : decode cX6_play 29 = .ok (.ifCond .eq 6, 3) := by decide +kernel
theorem dX6_play_32 : decode cX6_play 32 = .ok (.bipush (-12), 2) := by decide +kernel
theorem dX6_play_34 : decode cX6_play 34 = .ok (.ireturn, 1) := by decide +kernel
theorem dX6_play_35 : decode cX6_play 35 = .ok (.aload_n 0, 1) := by decide +kernel
theorem dX6_play_36 : decode cX6_play 36 = .ok (.getfield 25, 3) := by decide +kernel
theorem dX6_play_39 : decode cX6_play 39 = .ok (.aload_n 0, 1) := by decide +kernel
theorem dX6_play_40 : decode cX6_play 40 = .ok (.getfield 10, 3) := by decide +kernel
theorem dX6_play_43 : decode cX6_play 43 = .ok (.invokevirtual 40, 3) := by decide +kernel
theorem dX6_play_46 : decode cX6_play 46 = .ok (.aload_n 0, 1) := by decide +kernel
theorem dX6_play_47 : decode cX6_play 47 = .ok (.getfield 10, 3) := by decide +kernel
theorem dX6_play_50 : decode cX6_play 50 = .ok (.aload_n 0, 1) := by decide +kernel
theorem dX6_play_51 : decode cX6_play 51 = .ok (.getfield 16, 3) := by decide +kernel
theorem dX6_play_54 : decode cX6_play 54 = .ok (.invokevirtual 143, 3) := by decide +kernel
theorem dX6_play_57 : decode cX6_play 57 = .ok (.aload_n 0, 1) := by decide +kernel
theorem dX6_play_58 : decode cX6_play 58 = .ok (.getfield 25, 3) := by decide +kernel
theorem dX6_play_61 : decode cX6_play 61 = .ok (.aload_n 0, 1) := by decide +kernel
theorem dX6_play_62 : decode cX6_play 62 = .ok (.getfield 32, 3) := by decide +kernel
theorem dX6_play_65 : decode cX6_play 65 = .ok (.getfield 178, 3) := by decide +kernel
theorem dX6_play_68 : decode cX6_play 68 = .ok (.invokevirtual 48, 3) := by decide +kernel
theorem dX6_play_71 : decode cX6_play 71 = .ok (.ireturn, 1) := by decide +kernel
theorem dX6_refers_0 : decode cX6_refers 0 = .ok (.aload_n 0, 1) := by decide +kernel
theorem dX6_refers_1 : decode cX6_refers 1 = .ok (.getfield 10, 3) := by decide +kernel
theorem dX6_refers_4 : decode cX6_refers 4 = .ok (.getfield 87, 3) := by decide +kernel
theorem dX6_refers_7 : decode cX6_refers 7 = .ok (.iload_n 1, 1) := by decide +kernel
theorem dX6_refers_8 : decode cX6_refers 8 = .ok (.iload_n 2, 1) := by decide +kernel
theorem dX6_refers_9 : decode cX6_refers 9 = .ok (.invokevirtual 91, 3) := by decide +kernel
theorem dX6_refers_12 : decode cX6_refers 12 = .ok (.ireturn, 1) := by decide +kernel
theorem dX6_restore_0 : decode cX6_restore 0 = .ok (.aload_n 0, 1) := by decide +kernel
theorem dX6_restore_1 : decode cX6_restore 1 = .ok (.getfield 36, 3) := by decide +kernel
theorem dX6_restore_4 : decode cX6_restore 4 = .ok (.ifCond .ne 6, 3) := by decide +kernel
theorem dX6_restore_7 : decode cX6_restore 7 = .ok (.bipush (-12), 2) := by decide +kernel
theorem dX6_restore_9 : decode cX6_restore 9 = .ok (.ireturn, 1) := by decide +kernel
theorem dX6_restore_10 : decode cX6_restore 10 = .ok (.aload_n 0, 1) := by decide +kernel
theorem dX6_restore_11 : decode cX6_restore 11 = .ok (.getfield 25, 3) := by decide +kernel
theorem dX6_restore_14 : decode cX6_restore 14 = .ok (.aload_n 0, 1) := by decide +kernel
theorem dX6_restore_15 : decode cX6_restore 15 = .ok (.getfield 10, 3) := by decide +kernel
theorem dX6_restore_18 : decode cX6_restore 18 = .ok (.invokevirtual 40, 3) := by decide +kernel
theorem dX6_restore_21 : decode cX6_restore 21 = .ok (.aload_n 0, 1) := by decide +kernel
theorem dX6_restore_22 : decode cX6_restore 22 = .ok (.getfield 10, 3) := by decide +kernel
theorem dX6_restore_25 : decode cX6_restore 25 = .ok (.aload_n 0, 1) := by decide +kernel
theorem dX6_restore_26 : decode cX6_restore 26 = .ok (.getfield 19, 3) := by decide +kernel
theorem dX6_restore_29 : decode cX6_restore 29 = .ok (.invokevirtual 143, 3) := by decide +kernel
theorem dX6_restore_32 : decode cX6_restore 32 = .ok (.aload_n 0, 1) := by decide +kernel
theorem dX6_restore_33 : decode cX6_restore 33 = .ok (.getfield 25, 3) := by decide +kernel
theorem dX6_restore_36 : decode cX6_restore 36 = .ok (.aload_n 0, 1) := by decide +kernel
theorem dX6_restore_37 : decode cX6_restore 37 = .ok (.getfield 10, 3) := by decide +kernel
theorem dX6_restore_40 : decode cX6_restore 40 = .ok (.getfield 87, 3) := by decide +kernel
theorem dX6_restore_43 : decode cX6_restore 43 = .ok (.invokevirtual 157, 3) := by decide +kernel
theorem dX6_restore_46 : decode cX6_restore 46 = .ok (.invokevirtual 48, 3) := by decide +kernel
theorem dX6_restore_49 : decode cX6_restore 49 = .ok (.ireturn, 1) := by decide +kernel
theorem dX6_root_0 : decode cX6_root 0 = .ok (.aload_n 0, 1) := by decide +kernel
theorem dX6_root_1 : decode cX6_root 1 = .ok (.getfield 25, 3) := by decide +kernel
theorem dX6_root_4 : decode cX6_root 4 = .ok (.aload_n 0, 1) := by decide +kernel
theorem dX6_root_5 : decode cX6_root 5 = .ok (.getfield 10, 3) := by decide +kernel
theorem dX6_root_8 : decode cX6_root 8 = .ok (.invokevirtual 40, 3) := by decide +kernel
theorem dX6_root_11 : decode cX6_root 11 = .ok (.aload_n 0, 1) := by decide +kernel
theorem dX6_root_12 : decode cX6_root 12 = .ok (.getfield 25, 3) := by decide +kernel
theorem dX6_root_15 : decode cX6_root 15 = .ok (.aload_n 0, 1) := by decide +kernel
theorem dX6_root_16 : decode cX6_root 16 = .ok (.getfield 10, 3) := by decide +kernel
theorem dX6_root_19 : decode cX6_root 19 = .ok (.iload_n 1, 1) := by decide +kernel
theorem dX6_root_20 : decode cX6_root 20 = .ok (.iload_n 2, 1) := by decide +kernel
theorem dX6_root_21 : decode cX6_root 21 = .ok (.invokevirtual 55, 3) := by decide +kernel
theorem dX6_root_24 : decode cX6_root 24 = .ok (.invokevirtual 48, 3) := by decide +kernel
theorem dX6_root_27 : decode cX6_root 27 = .ok (.ireturn, 1) := by decide +kernel
theorem dX6_set_0 : decode cX6_set 0 = .ok (.aload_n 0, 1) := by decide +kernel
theorem dX6_set_1 : decode cX6_set 1 = .ok (.getfield 25, 3) := by decide +kernel
theorem dX6_set_4 : decode cX6_set 4 = .ok (.aload_n 0, 1) := by decide +kernel
theorem dX6_set_5 : decode cX6_set 5 = .ok (.getfield 10, 3) := by decide +kernel
theorem dX6_set_8 : decode cX6_set 8 = .ok (.invokevirtual 40, 3) := by decide +kernel
theorem dX6_set_11 : decode cX6_set 11 = .ok (.aload_n 0, 1) := by decide +kernel
theorem dX6_set_12 : decode cX6_set 12 = .ok (.getfield 25, 3) := by decide +kernel
theorem dX6_set_15 : decode cX6_set 15 = .ok (.aload_n 0, 1) := by decide +kernel
theorem dX6_set_16 : decode cX6_set 16 = .ok (.getfield 10, 3) := by decide +kernel
theorem dX6_set_19 : decode cX6_set 19 = .ok (.iload_n 1, 1) := by decide +kernel
theorem dX6_set_20 : decode cX6_set 20 = .ok (.invokevirtual 81, 3) := by decide +kernel
theorem dX6_set_23 : decode cX6_set 23 = .ok (.invokevirtual 48, 3) := by decide +kernel
theorem dX6_set_26 : decode cX6_set 26 = .ok (.ireturn, 1) := by decide +kernel
theorem dX6_step_0 : decode cX6_step 0 = .ok (.aload_n 0, 1) := by decide +kernel
theorem dX6_step_1 : decode cX6_step 1 = .ok (.getfield 25, 3) := by decide +kernel
theorem dX6_step_4 : decode cX6_step 4 = .ok (.aload_n 0, 1) := by decide +kernel
theorem dX6_step_5 : decode cX6_step 5 = .ok (.getfield 10, 3) := by decide +kernel
theorem dX6_step_8 : decode cX6_step 8 = .ok (.invokevirtual 40, 3) := by decide +kernel
theorem dX6_step_11 : decode cX6_step 11 = .ok (.aload_n 0, 1) := by decide +kernel
theorem dX6_step_12 : decode cX6_step 12 = .ok (.getfield 25, 3) := by decide +kernel
theorem dX6_step_15 : decode cX6_step 15 = .ok (.aload_n 0, 1) := by decide +kernel
theorem dX6_step_16 : decode cX6_step 16 = .ok (.getfield 10, 3) := by decide +kernel
theorem dX6_step_19 : decode cX6_step 19 = .ok (.iload_n 1, 1) := by decide +kernel
theorem dX6_step_20 : decode cX6_step 20 = .ok (.invokevirtual 75, 3) := by decide +kernel
theorem dX6_step_23 : decode cX6_step 23 = .ok (.invokevirtual 48, 3) := by decide +kernel
theorem dX6_step_26 : decode cX6_step 26 = .ok (.ireturn, 1) := by decide +kernel
theorem dX6_type_0 : decode cX6_type 0 = .ok (.aload_n 0, 1) := by decide +kernel
theorem dX6_type_1 : decode cX6_type 1 = .ok (.getfield 32, 3) := by decide +kernel
theorem dX6_type_4 : decode cX6_type 4 = .ok (.iload_n 1, 1) := by decide +kernel
theorem dX6_type_5 : decode cX6_type 5 = .ok (.invokevirtual 163, 3) := by decide +kernel
theorem dX6_type_8 : decode cX6_type 8 = .ok (.ireturn, 1) := by decide +kernel
theorem dX6_undo_0 : decode cX6_undo 0 = .ok (.aload_n 0, 1) := by decide +kernel
theorem dX6_undo_1 : decode cX6_undo 1 = .ok (.getfield 25, 3) := by decide +kernel
theorem dX6_undo_4 : decode cX6_undo 4 = .ok (.aload_n 0, 1) := by decide +kernel
theorem dX6_undo_5 : decode cX6_undo 5 = .ok (.getfield 10, 3) := by decide +kernel
theorem dX6_undo_8 : decode cX6_undo 8 = .ok (.invokevirtual 159, 3) := by decide +kernel
theorem dX6_undo_11 : decode cX6_undo 11 = .ok (.ireturn, 1) := by decide +kernel
theorem dX6_want_0 : decode cX6_want 0 = .ok (.aload_n 0, 1) := by decide +kernel
theorem dX6_want_1 : decode cX6_want 1 = .ok (.getfield 25, 3) := by decide +kernel
theorem dX6_want_4 : decode cX6_want 4 = .ok (.aload_n 0, 1) := by decide +kernel
theorem dX6_want_5 : decode cX6_want 5 = .ok (.getfield 10, 3) := by decide +kernel
theorem dX6_want_8 : decode cX6_want 8 = .ok (.invokevirtual 40, 3) := by decide +kernel
theorem dX6_want_11 : decode cX6_want 11 = .ok (.aload_n 0, 1) := by decide +kernel
theorem dX6_want_12 : decode cX6_want 12 = .ok (.getfield 25, 3) := by decide +kernel
theorem dX6_want_15 : decode cX6_want 15 = .ok (.aload_n 0, 1) := by decide +kernel
theorem dX6_want_16 : decode cX6_want 16 = .ok (.getfield 10, 3) := by decide +kernel
theorem dX6_want_19 : decode cX6_want 19 = .ok (.iload_n 1, 1) := by decide +kernel
theorem dX6_want_20 : decode cX6_want 20 = .ok (.invokevirtual 65, 3) := by decide +kernel
theorem dX6_want_23 : decode cX6_want 23 = .ok (.invokevirtual 48, 3) := by decide +kernel
theorem dX6_want_26 : decode cX6_want 26 = .ok (.ireturn, 1) := by decide +kernel
theorem dX6_weak_0 : decode cX6_weak 0 = .ok (.aload_n 0, 1) := by decide +kernel
theorem dX6_weak_1 : decode cX6_weak 1 = .ok (.getfield 25, 3) := by decide +kernel
theorem dX6_weak_4 : decode cX6_weak 4 = .ok (.aload_n 0, 1) := by decide +kernel
theorem dX6_weak_5 : decode cX6_weak 5 = .ok (.getfield 10, 3) := by decide +kernel
theorem dX6_weak_8 : decode cX6_weak 8 = .ok (.invokevirtual 40, 3) := by decide +kernel
theorem dX6_weak_11 : decode cX6_weak 11 = .ok (.aload_n 0, 1) := by decide +kernel
theorem dX6_weak_12 : decode cX6_weak 12 = .ok (.getfield 25, 3) := by decide +kernel
theorem dX6_weak_15 : decode cX6_weak 15 = .ok (.aload_n 0, 1) := by decide +kernel
theorem dX6_weak_16 : decode cX6_weak 16 = .ok (.getfield 10, 3) := by decide +kernel
theorem dX6_weak_19 : decode cX6_weak 19 = .ok (.iload_n 1, 1) := by decide +kernel
theorem dX6_weak_20 : decode cX6_weak 20 = .ok (.iload_n 2, 1) := by decide +kernel
theorem dX6_weak_21 : decode cX6_weak 21 = .ok (.invokevirtual 59, 3) := by decide +kernel
theorem dX6_weak_24 : decode cX6_weak 24 = .ok (.invokevirtual 48, 3) := by decide +kernel
theorem dX6_weak_27 : decode cX6_weak 27 = .ok (.ireturn, 1) := by decide +kernel
theorem dX6_wouldGo_0 : decode cX6_wouldGo 0 = .ok (.aload_n 0, 1) := by decide +kernel
theorem dX6_wouldGo_1 : decode cX6_wouldGo 1 = .ok (.getfield 16, 3) := by decide +kernel
theorem dX6_wouldGo_4 : decode cX6_wouldGo 4 = .ok (.aload_n 0, 1) := by decide +kernel
theorem dX6_wouldGo_5 : decode cX6_wouldGo 5 = .ok (.getfield 10, 3) := by decide +kernel
theorem dX6_wouldGo_8 : decode cX6_wouldGo 8 = .ok (.invokevirtual 143, 3) := by decide +kernel
theorem dX6_wouldGo_11 : decode cX6_wouldGo 11 = .ok (.aload_n 0, 1) := by decide +kernel
theorem dX6_wouldGo_12 : decode cX6_wouldGo 12 = .ok (.getfield 16, 3) := by decide +kernel
theorem dX6_wouldGo_15 : decode cX6_wouldGo 15 = .ok (.invokevirtual 78, 3) := by decide +kernel
theorem dX6_wouldGo_18 : decode cX6_wouldGo 18 = .ok (.pop, 1) := by decide +kernel
theorem dX6_wouldGo_19 : decode cX6_wouldGo 19 = .ok (.aload_n 0, 1) := by decide +kernel
theorem dX6_wouldGo_20 : decode cX6_wouldGo 20 = .ok (.getfield 10, 3) := by decide +kernel
theorem dX6_wouldGo_23 : decode cX6_wouldGo 23 = .ok (.getfield 87, 3) := by decide +kernel
theorem dX6_wouldGo_26 : decode cX6_wouldGo 26 = .ok (.getfield 146, 3) := by decide +kernel
theorem dX6_wouldGo_29 : decode cX6_wouldGo 29 = .ok (.aload_n 0, 1) := by decide +kernel
theorem dX6_wouldGo_30 : decode cX6_wouldGo 30 = .ok (.getfield 16, 3) := by decide +kernel
theorem dX6_wouldGo_33 : decode cX6_wouldGo 33 = .ok (.getfield 87, 3) := by decide +kernel
theorem dX6_wouldGo_36 : decode cX6_wouldGo 36 = .ok (.getfield 146, 3) := by decide +kernel
theorem dX6_wouldGo_39 : decode cX6_wouldGo 39 = .ok (.iconst (-1), 1) := by decide +kernel
theorem dX6_wouldGo_40 : decode cX6_wouldGo 40 = .ok (.ixor, 1) := by decide +kernel
theorem dX6_wouldGo_41 : decode cX6_wouldGo 41 = .ok (.iand, 1) := by decide +kernel
theorem dX6_wouldGo_42 : decode cX6_wouldGo 42 = .ok (.ireturn, 1) := by decide +kernel
