theorem dL_post_0 : decode bL_post 0 = .ok (.aload 5, 2) := by decide +kernel
theorem dL_post_2 : decode bL_post 2 = .ok (.iconst 0, 1) := by decide +kernel
theorem dL_post_3 : decode bL_post 3 = .ok (.aload_n 0, 1) := by decide +kernel
theorem dL_post_4 : decode bL_post 4 = .ok (.iload_n 1, 1) := by decide +kernel
theorem dL_post_5 : decode bL_post 5 = .ok (.iload_n 2, 1) := by decide +kernel
theorem dL_post_6 : decode bL_post 6 = .ok (.iload_n 3, 1) := by decide +kernel
theorem dL_post_7 : decode bL_post 7 = .ok (.iload 4, 2) := by decide +kernel
theorem dL_post_9 : decode bL_post 9 = .ok (.invokevirtual 7, 3) := by decide +kernel
theorem dL_post_12 : decode bL_post 12 = .ok (.i2l, 1) := by decide +kernel
theorem dL_post_13 : decode bL_post 13 = .ok (.lastore, 1) := by decide +kernel
theorem dL_post_14 : decode bL_post 14 = .ok (.goto 19, 3) := by decide +kernel
theorem dL_post_17 : decode bL_post 17 = .ok (.astore 6, 2) := by decide +kernel
theorem dL_post_19 : decode bL_post 19 = .ok (.iconst 1, 1) := by decide +kernel
theorem dL_post_20 : decode bL_post 20 = .ok (.ireturn, 1) := by decide +kernel
theorem dL_post_21 : decode bL_post 21 = .ok (.astore 6, 2) := by decide +kernel
theorem dL_post_23 : decode bL_post 23 = .ok (.iconst 2, 1) := by decide +kernel
theorem dL_post_24 : decode bL_post 24 = .ok (.ireturn, 1) := by decide +kernel
theorem dL_post_25 : decode bL_post 25 = .ok (.astore 6, 2) := by decide +kernel
theorem dL_post_27 : decode bL_post 27 = .ok (.iconst 3, 1) := by decide +kernel
theorem dL_post_28 : decode bL_post 28 = .ok (.ireturn, 1) := by decide +kernel
theorem dL_post_29 : decode bL_post 29 = .ok (.astore 6, 2) := by decide +kernel
theorem dL_post_31 : decode bL_post 31 = .ok (.iconst 4, 1) := by decide +kernel
theorem dL_post_32 : decode bL_post 32 = .ok (.ireturn, 1) := by decide +kernel
theorem dL_post_33 : decode bL_post 33 = .ok (.iconst 0, 1) := by decide +kernel
theorem dL_post_34 : decode bL_post 34 = .ok (.ireturn, 1) := by decide +kernel
theorem dL_correct_0 : decode bL_correct 0 = .ok (.aload_n 3, 1) := by decide +kernel
theorem dL_correct_1 : decode bL_correct 1 = .ok (.iconst 0, 1) := by decide +kernel
theorem dL_correct_2 : decode bL_correct 2 = .ok (.aload_n 0, 1) := by decide +kernel
theorem dL_correct_3 : decode bL_correct 3 = .ok (.iload_n 1, 1) := by decide +kernel
theorem dL_correct_4 : decode bL_correct 4 = .ok (.iload_n 2, 1) := by decide +kernel
theorem dL_correct_5 : decode bL_correct 5 = .ok (.invokevirtual 21, 3) := by decide +kernel
theorem dL_correct_8 : decode bL_correct 8 = .ok (.i2l, 1) := by decide +kernel
theorem dL_correct_9 : decode bL_correct 9 = .ok (.lastore, 1) := by decide +kernel
theorem dL_correct_10 : decode bL_correct 10 = .ok (.goto 23, 3) := by decide +kernel
theorem dL_correct_13 : decode bL_correct 13 = .ok (.astore 4, 2) := by decide +kernel
theorem dL_correct_15 : decode bL_correct 15 = .ok (.iconst 1, 1) := by decide +kernel
theorem dL_correct_16 : decode bL_correct 16 = .ok (.ireturn, 1) := by decide +kernel
theorem dL_correct_17 : decode bL_correct 17 = .ok (.astore 4, 2) := by decide +kernel
theorem dL_correct_19 : decode bL_correct 19 = .ok (.iconst 2, 1) := by decide +kernel
theorem dL_correct_20 : decode bL_correct 20 = .ok (.ireturn, 1) := by decide +kernel
theorem dL_correct_21 : decode bL_correct 21 = .ok (.astore 4, 2) := by decide +kernel
theorem dL_correct_23 : decode bL_correct 23 = .ok (.iconst 3, 1) := by decide +kernel
theorem dL_correct_24 : decode bL_correct 24 = .ok (.ireturn, 1) := by decide +kernel
theorem dL_correct_25 : decode bL_correct 25 = .ok (.astore 4, 2) := by decide +kernel
theorem dL_correct_27 : decode bL_correct 27 = .ok (.iconst 4, 1) := by decide +kernel
theorem dL_correct_28 : decode bL_correct 28 = .ok (.ireturn, 1) := by decide +kernel
theorem dL_correct_29 : decode bL_correct 29 = .ok (.astore 4, 2) := by decide +kernel
theorem dL_correct_31 : decode bL_correct 31 = .ok (.iconst 5, 1) := by decide +kernel
theorem dL_correct_32 : decode bL_correct 32 = .ok (.ireturn, 1) := by decide +kernel
theorem dL_correct_33 : decode bL_correct 33 = .ok (.iconst 0, 1) := by decide +kernel
theorem dL_correct_34 : decode bL_correct 34 = .ok (.ireturn, 1) := by decide +kernel
theorem dL_annul_0 : decode bL_annul 0 = .ok (.aload_n 2, 1) := by decide +kernel
theorem dL_annul_1 : decode bL_annul 1 = .ok (.iconst 0, 1) := by decide +kernel
theorem dL_annul_2 : decode bL_annul 2 = .ok (.aload_n 0, 1) := by decide +kernel
theorem dL_annul_3 : decode bL_annul 3 = .ok (.iload_n 1, 1) := by decide +kernel
theorem dL_annul_4 : decode bL_annul 4 = .ok (.invokevirtual 27, 3) := by decide +kernel
theorem dL_annul_7 : decode bL_annul 7 = .ok (.i2l, 1) := by decide +kernel
theorem dL_annul_8 : decode bL_annul 8 = .ok (.lastore, 1) := by decide +kernel
theorem dL_annul_9 : decode bL_annul 9 = .ok (.goto 12, 3) := by decide +kernel
theorem dL_annul_12 : decode bL_annul 12 = .ok (.astore_n 3, 1) := by decide +kernel
theorem dL_annul_13 : decode bL_annul 13 = .ok (.iconst 1, 1) := by decide +kernel
theorem dL_annul_14 : decode bL_annul 14 = .ok (.ireturn, 1) := by decide +kernel
theorem dL_annul_15 : decode bL_annul 15 = .ok (.astore_n 3, 1) := by decide +kernel
theorem dL_annul_16 : decode bL_annul 16 = .ok (.iconst 2, 1) := by decide +kernel
theorem dL_annul_17 : decode bL_annul 17 = .ok (.ireturn, 1) := by decide +kernel
theorem dL_annul_18 : decode bL_annul 18 = .ok (.astore_n 3, 1) := by decide +kernel
theorem dL_annul_19 : decode bL_annul 19 = .ok (.iconst 3, 1) := by decide +kernel
theorem dL_annul_20 : decode bL_annul 20 = .ok (.ireturn, 1) := by decide +kernel
theorem dL_annul_21 : decode bL_annul 21 = .ok (.iconst 0, 1) := by decide +kernel
theorem dL_annul_22 : decode bL_annul 22 = .ok (.ireturn, 1) := by decide +kernel
theorem dL_balance_0 : decode bL_balance 0 = .ok (.aload 4, 2) := by decide +kernel
theorem dL_balance_2 : decode bL_balance 2 = .ok (.iconst 0, 1) := by decide +kernel
theorem dL_balance_3 : decode bL_balance 3 = .ok (.aload_n 0, 1) := by decide +kernel
theorem dL_balance_4 : decode bL_balance 4 = .ok (.iload_n 1, 1) := by decide +kernel
theorem dL_balance_5 : decode bL_balance 5 = .ok (.iload_n 2, 1) := by decide +kernel
theorem dL_balance_6 : decode bL_balance 6 = .ok (.iload_n 3, 1) := by decide +kernel
theorem dL_balance_7 : decode bL_balance 7 = .ok (.invokevirtual 31, 3) := by decide +kernel
theorem dL_balance_10 : decode bL_balance 10 = .ok (.i2l, 1) := by decide +kernel
theorem dL_balance_11 : decode bL_balance 11 = .ok (.lastore, 1) := by decide +kernel
theorem dL_balance_12 : decode bL_balance 12 = .ok (.goto 11, 3) := by decide +kernel
theorem dL_balance_15 : decode bL_balance 15 = .ok (.astore 5, 2) := by decide +kernel
theorem dL_balance_17 : decode bL_balance 17 = .ok (.iconst 1, 1) := by decide +kernel
theorem dL_balance_18 : decode bL_balance 18 = .ok (.ireturn, 1) := by decide +kernel
theorem dL_balance_19 : decode bL_balance 19 = .ok (.astore 5, 2) := by decide +kernel
theorem dL_balance_21 : decode bL_balance 21 = .ok (.iconst 2, 1) := by decide +kernel
theorem dL_balance_22 : decode bL_balance 22 = .ok (.ireturn, 1) := by decide +kernel
theorem dL_balance_23 : decode bL_balance 23 = .ok (.iconst 0, 1) := by decide +kernel
theorem dL_balance_24 : decode bL_balance 24 = .ok (.ireturn, 1) := by decide +kernel
theorem dL_trial_0 : decode bL_trial 0 = .ok (.aload_n 3, 1) := by decide +kernel
theorem dL_trial_1 : decode bL_trial 1 = .ok (.iconst 0, 1) := by decide +kernel
theorem dL_trial_2 : decode bL_trial 2 = .ok (.aload_n 0, 1) := by decide +kernel
theorem dL_trial_3 : decode bL_trial 3 = .ok (.iload_n 1, 1) := by decide +kernel
theorem dL_trial_4 : decode bL_trial 4 = .ok (.iload_n 2, 1) := by decide +kernel
theorem dL_trial_5 : decode bL_trial 5 = .ok (.invokevirtual 35, 3) := by decide +kernel
theorem dL_trial_8 : decode bL_trial 8 = .ok (.i2l, 1) := by decide +kernel
theorem dL_trial_9 : decode bL_trial 9 = .ok (.lastore, 1) := by decide +kernel
theorem dL_trial_10 : decode bL_trial 10 = .ok (.goto 11, 3) := by decide +kernel
theorem dL_trial_13 : decode bL_trial 13 = .ok (.astore 4, 2) := by decide +kernel
theorem dL_trial_15 : decode bL_trial 15 = .ok (.iconst 1, 1) := by decide +kernel
theorem dL_trial_16 : decode bL_trial 16 = .ok (.ireturn, 1) := by decide +kernel
theorem dL_trial_17 : decode bL_trial 17 = .ok (.astore 4, 2) := by decide +kernel
theorem dL_trial_19 : decode bL_trial 19 = .ok (.iconst 2, 1) := by decide +kernel
theorem dL_trial_20 : decode bL_trial 20 = .ok (.ireturn, 1) := by decide +kernel
theorem dL_trial_21 : decode bL_trial 21 = .ok (.iconst 0, 1) := by decide +kernel
theorem dL_trial_22 : decode bL_trial 22 = .ok (.ireturn, 1) := by decide +kernel
theorem dL_turnover_0 : decode bL_turnover 0 = .ok (.aload_n 2, 1) := by decide +kernel
theorem dL_turnover_1 : decode bL_turnover 1 = .ok (.iconst 0, 1) := by decide +kernel
theorem dL_turnover_2 : decode bL_turnover 2 = .ok (.aload_n 0, 1) := by decide +kernel
theorem dL_turnover_3 : decode bL_turnover 3 = .ok (.iload_n 1, 1) := by decide +kernel
theorem dL_turnover_4 : decode bL_turnover 4 = .ok (.invokevirtual 38, 3) := by decide +kernel
theorem dL_turnover_7 : decode bL_turnover 7 = .ok (.i2l, 1) := by decide +kernel
theorem dL_turnover_8 : decode bL_turnover 8 = .ok (.lastore, 1) := by decide +kernel
theorem dL_turnover_9 : decode bL_turnover 9 = .ok (.goto 9, 3) := by decide +kernel
theorem dL_turnover_12 : decode bL_turnover 12 = .ok (.astore_n 3, 1) := by decide +kernel
theorem dL_turnover_13 : decode bL_turnover 13 = .ok (.iconst 1, 1) := by decide +kernel
theorem dL_turnover_14 : decode bL_turnover 14 = .ok (.ireturn, 1) := by decide +kernel
theorem dL_turnover_15 : decode bL_turnover 15 = .ok (.astore_n 3, 1) := by decide +kernel
theorem dL_turnover_16 : decode bL_turnover 16 = .ok (.iconst 2, 1) := by decide +kernel
theorem dL_turnover_17 : decode bL_turnover 17 = .ok (.ireturn, 1) := by decide +kernel
theorem dL_turnover_18 : decode bL_turnover 18 = .ok (.iconst 0, 1) := by decide +kernel
theorem dL_turnover_19 : decode bL_turnover 19 = .ok (.ireturn, 1) := by decide +kernel
theorem dL_open_0 : decode bL_open 0 = .ok (.aload 5, 2) := by decide +kernel
theorem dL_open_2 : decode bL_open 2 = .ok (.iconst 0, 1) := by decide +kernel
theorem dL_open_3 : decode bL_open 3 = .ok (.aload_n 0, 1) := by decide +kernel
theorem dL_open_4 : decode bL_open 4 = .ok (.iload_n 1, 1) := by decide +kernel
theorem dL_open_5 : decode bL_open 5 = .ok (.iload_n 2, 1) := by decide +kernel
theorem dL_open_6 : decode bL_open 6 = .ok (.iload_n 3, 1) := by decide +kernel
theorem dL_open_7 : decode bL_open 7 = .ok (.iload 4, 2) := by decide +kernel
theorem dL_open_9 : decode bL_open 9 = .ok (.invokevirtual 41, 3) := by decide +kernel
theorem dL_open_12 : decode bL_open 12 = .ok (.i2l, 1) := by decide +kernel
theorem dL_open_13 : decode bL_open 13 = .ok (.lastore, 1) := by decide +kernel
theorem dL_open_14 : decode bL_open 14 = .ok (.goto 11, 3) := by decide +kernel
theorem dL_open_17 : decode bL_open 17 = .ok (.astore 6, 2) := by decide +kernel
theorem dL_open_19 : decode bL_open 19 = .ok (.iconst 1, 1) := by decide +kernel
theorem dL_open_20 : decode bL_open 20 = .ok (.ireturn, 1) := by decide +kernel
theorem dL_open_21 : decode bL_open 21 = .ok (.astore 6, 2) := by decide +kernel
theorem dL_open_23 : decode bL_open 23 = .ok (.iconst 2, 1) := by decide +kernel
theorem dL_open_24 : decode bL_open 24 = .ok (.ireturn, 1) := by decide +kernel
theorem dL_open_25 : decode bL_open 25 = .ok (.iconst 0, 1) := by decide +kernel
theorem dL_open_26 : decode bL_open 26 = .ok (.ireturn, 1) := by decide +kernel
theorem dL_next_0 : decode bL_next 0 = .ok (.aload_n 1, 1) := by decide +kernel
theorem dL_next_1 : decode bL_next 1 = .ok (.iconst 0, 1) := by decide +kernel
theorem dL_next_2 : decode bL_next 2 = .ok (.aload_n 0, 1) := by decide +kernel
theorem dL_next_3 : decode bL_next 3 = .ok (.invokevirtual 44, 3) := by decide +kernel
theorem dL_next_6 : decode bL_next 6 = .ok (.i2l, 1) := by decide +kernel
theorem dL_next_7 : decode bL_next 7 = .ok (.lastore, 1) := by decide +kernel
theorem dL_next_8 : decode bL_next 8 = .ok (.goto 6, 3) := by decide +kernel
theorem dL_next_11 : decode bL_next 11 = .ok (.astore_n 2, 1) := by decide +kernel
theorem dL_next_12 : decode bL_next 12 = .ok (.iconst 1, 1) := by decide +kernel
theorem dL_next_13 : decode bL_next 13 = .ok (.ireturn, 1) := by decide +kernel
theorem dL_next_14 : decode bL_next 14 = .ok (.iconst 0, 1) := by decide +kernel
theorem dL_next_15 : decode bL_next 15 = .ok (.ireturn, 1) := by decide +kernel
theorem dL_moved_0 : decode bL_moved 0 = .ok (.aload_n 1, 1) := by decide +kernel
theorem dL_moved_1 : decode bL_moved 1 = .ok (.iconst 0, 1) := by decide +kernel
theorem dL_moved_2 : decode bL_moved 2 = .ok (.aload_n 0, 1) := by decide +kernel
theorem dL_moved_3 : decode bL_moved 3 = .ok (.invokevirtual 48, 3) := by decide +kernel
theorem dL_moved_6 : decode bL_moved 6 = .ok (.i2l, 1) := by decide +kernel
theorem dL_moved_7 : decode bL_moved 7 = .ok (.lastore, 1) := by decide +kernel
theorem dL_moved_8 : decode bL_moved 8 = .ok (.goto 6, 3) := by decide +kernel
theorem dL_moved_11 : decode bL_moved 11 = .ok (.astore_n 2, 1) := by decide +kernel
theorem dL_moved_12 : decode bL_moved 12 = .ok (.iconst 1, 1) := by decide +kernel
theorem dL_moved_13 : decode bL_moved 13 = .ok (.ireturn, 1) := by decide +kernel
theorem dL_moved_14 : decode bL_moved 14 = .ok (.iconst 0, 1) := by decide +kernel
theorem dL_moved_15 : decode bL_moved 15 = .ok (.ireturn, 1) := by decide +kernel
theorem dL_field_0 : decode bL_field 0 = .ok (.aload 4, 2) := by decide +kernel
theorem dL_field_2 : decode bL_field 2 = .ok (.iconst 0, 1) := by decide +kernel
theorem dL_field_3 : decode bL_field 3 = .ok (.aload_n 0, 1) := by decide +kernel
theorem dL_field_4 : decode bL_field 4 = .ok (.iload_n 1, 1) := by decide +kernel
theorem dL_field_5 : decode bL_field 5 = .ok (.iload_n 2, 1) := by decide +kernel
theorem dL_field_6 : decode bL_field 6 = .ok (.iload_n 3, 1) := by decide +kernel
theorem dL_field_7 : decode bL_field 7 = .ok (.invokevirtual 51, 3) := by decide +kernel
theorem dL_field_10 : decode bL_field 10 = .ok (.i2l, 1) := by decide +kernel
theorem dL_field_11 : decode bL_field 11 = .ok (.lastore, 1) := by decide +kernel
theorem dL_field_12 : decode bL_field 12 = .ok (.goto 7, 3) := by decide +kernel
theorem dL_field_15 : decode bL_field 15 = .ok (.astore 5, 2) := by decide +kernel
theorem dL_field_17 : decode bL_field 17 = .ok (.iconst 1, 1) := by decide +kernel
theorem dL_field_18 : decode bL_field 18 = .ok (.ireturn, 1) := by decide +kernel
theorem dL_field_19 : decode bL_field 19 = .ok (.iconst 0, 1) := by decide +kernel
theorem dL_field_20 : decode bL_field 20 = .ok (.ireturn, 1) := by decide +kernel
theorem dL_entries_0 : decode bL_entries 0 = .ok (.aload_n 1, 1) := by decide +kernel
theorem dL_entries_1 : decode bL_entries 1 = .ok (.iconst 0, 1) := by decide +kernel
theorem dL_entries_2 : decode bL_entries 2 = .ok (.aload_n 0, 1) := by decide +kernel
theorem dL_entries_3 : decode bL_entries 3 = .ok (.invokevirtual 54, 3) := by decide +kernel
theorem dL_entries_6 : decode bL_entries 6 = .ok (.i2l, 1) := by decide +kernel
theorem dL_entries_7 : decode bL_entries 7 = .ok (.lastore, 1) := by decide +kernel
theorem dL_entries_8 : decode bL_entries 8 = .ok (.goto 6, 3) := by decide +kernel
theorem dL_entries_11 : decode bL_entries 11 = .ok (.astore_n 2, 1) := by decide +kernel
theorem dL_entries_12 : decode bL_entries 12 = .ok (.iconst 1, 1) := by decide +kernel
theorem dL_entries_13 : decode bL_entries 13 = .ok (.ireturn, 1) := by decide +kernel
theorem dL_entries_14 : decode bL_entries 14 = .ok (.iconst 0, 1) := by decide +kernel
theorem dL_entries_15 : decode bL_entries 15 = .ok (.ireturn, 1) := by decide +kernel
theorem dL_law_0 : decode bL_law 0 = .ok (.new 8, 3) := by decide +kernel
theorem dL_law_3 : decode bL_law 3 = .ok (.dup, 1) := by decide +kernel
theorem dL_law_4 : decode bL_law 4 = .ok (.invokespecial 57, 3) := by decide +kernel
theorem dL_law_7 : decode bL_law 7 = .ok (.astore_n 1, 1) := by decide +kernel
theorem dL_law_8 : decode bL_law 8 = .ok (.new 58, 3) := by decide +kernel
theorem dL_law_11 : decode bL_law 11 = .ok (.dup, 1) := by decide +kernel
theorem dL_law_12 : decode bL_law 12 = .ok (.invokespecial 60, 3) := by decide +kernel
theorem dL_law_15 : decode bL_law 15 = .ok (.astore_n 2, 1) := by decide +kernel
theorem dL_law_16 : decode bL_law 16 = .ok (.iconst 1, 1) := by decide +kernel
theorem dL_law_17 : decode bL_law 17 = .ok (.newarray .long, 2) := by decide +kernel
theorem dL_law_19 : decode bL_law 19 = .ok (.astore_n 3, 1) := by decide +kernel
theorem dL_law_20 : decode bL_law 20 = .ok (.iconst 0, 1) := by decide +kernel
theorem dL_law_21 : decode bL_law 21 = .ok (.istore 4, 2) := by decide +kernel
theorem dL_law_23 : decode bL_law 23 = .ok (.iload 4, 2) := by decide +kernel
theorem dL_law_25 : decode bL_law 25 = .ok (.aload_n 0, 1) := by decide +kernel
theorem dL_law_26 : decode bL_law 26 = .ok (.arraylength, 1) := by decide +kernel
theorem dL_law_27 : decode bL_law 27 = .ok (.iconst 5, 1) := by decide +kernel
theorem dL_law_28 : decode bL_law 28 = .ok (.isub, 1) := by decide +kernel
theorem dL_law_29 : decode bL_law 29 = .ok (.if_icmp .gt 902, 3) := by decide +kernel
theorem dL_law_32 : decode bL_law 32 = .ok (.aload_n 0, 1) := by decide +kernel
theorem dL_law_33 : decode bL_law 33 = .ok (.iload 4, 2) := by decide +kernel
theorem dL_law_35 : decode bL_law 35 = .ok (.iaload, 1) := by decide +kernel
theorem dL_law_36 : decode bL_law 36 = .ok (.bipush 15, 2) := by decide +kernel
theorem dL_law_38 : decode bL_law 38 = .ok (.iand, 1) := by decide +kernel
theorem dL_law_39 : decode bL_law 39 = .ok (.tableswitch 886 0 14 #[73, 165, 233, 289, 369, 437, 493, 585, 629, 673, 753, 797, 810, 824, 837], 73) := by decide +kernel
theorem dL_law_112 : decode bL_law 112 = .ok (.aload_n 1, 1) := by decide +kernel
theorem dL_law_113 : decode bL_law 113 = .ok (.aload_n 0, 1) := by decide +kernel
theorem dL_law_114 : decode bL_law 114 = .ok (.iload 4, 2) := by decide +kernel
theorem dL_law_116 : decode bL_law 116 = .ok (.iconst 1, 1) := by decide +kernel
theorem dL_law_117 : decode bL_law 117 = .ok (.iadd, 1) := by decide +kernel
theorem dL_law_118 : decode bL_law 118 = .ok (.iaload, 1) := by decide +kernel
theorem dL_law_119 : decode bL_law 119 = .ok (.aload_n 0, 1) := by decide +kernel
theorem dL_law_120 : decode bL_law 120 = .ok (.iload 4, 2) := by decide +kernel
theorem dL_law_122 : decode bL_law 122 = .ok (.iconst 2, 1) := by decide +kernel
theorem dL_law_123 : decode bL_law 123 = .ok (.iadd, 1) := by decide +kernel
theorem dL_law_124 : decode bL_law 124 = .ok (.iaload, 1) := by decide +kernel
theorem dL_law_125 : decode bL_law 125 = .ok (.aload_n 0, 1) := by decide +kernel
theorem dL_law_126 : decode bL_law 126 = .ok (.iload 4, 2) := by decide +kernel
theorem dL_law_128 : decode bL_law 128 = .ok (.iconst 3, 1) := by decide +kernel
theorem dL_law_129 : decode bL_law 129 = .ok (.iadd, 1) := by decide +kernel
theorem dL_law_130 : decode bL_law 130 = .ok (.iaload, 1) := by decide +kernel
theorem dL_law_131 : decode bL_law 131 = .ok (.aload_n 0, 1) := by decide +kernel
theorem dL_law_132 : decode bL_law 132 = .ok (.iload 4, 2) := by decide +kernel
theorem dL_law_134 : decode bL_law 134 = .ok (.iconst 4, 1) := by decide +kernel
theorem dL_law_135 : decode bL_law 135 = .ok (.iadd, 1) := by decide +kernel
theorem dL_law_136 : decode bL_law 136 = .ok (.iaload, 1) := by decide +kernel
theorem dL_law_137 : decode bL_law 137 = .ok (.aload_n 3, 1) := by decide +kernel
theorem dL_law_138 : decode bL_law 138 = .ok (.invokestatic 61, 3) := by decide +kernel
theorem dL_law_141 : decode bL_law 141 = .ok (.istore 5, 2) := by decide +kernel
theorem dL_law_143 : decode bL_law 143 = .ok (.aload_n 2, 1) := by decide +kernel
theorem dL_law_144 : decode bL_law 144 = .ok (.aload_n 0, 1) := by decide +kernel
theorem dL_law_145 : decode bL_law 145 = .ok (.iload 4, 2) := by decide +kernel
theorem dL_law_147 : decode bL_law 147 = .ok (.iconst 1, 1) := by decide +kernel
theorem dL_law_148 : decode bL_law 148 = .ok (.iadd, 1) := by decide +kernel
theorem dL_law_149 : decode bL_law 149 = .ok (.iaload, 1) := by decide +kernel
theorem dL_law_150 : decode bL_law 150 = .ok (.aload_n 0, 1) := by decide +kernel
theorem dL_law_151 : decode bL_law 151 = .ok (.iload 4, 2) := by decide +kernel
theorem dL_law_153 : decode bL_law 153 = .ok (.iconst 2, 1) := by decide +kernel
theorem dL_law_154 : decode bL_law 154 = .ok (.iadd, 1) := by decide +kernel
theorem dL_law_155 : decode bL_law 155 = .ok (.iaload, 1) := by decide +kernel
theorem dL_law_156 : decode bL_law 156 = .ok (.aload_n 0, 1) := by decide +kernel
theorem dL_law_157 : decode bL_law 157 = .ok (.iload 4, 2) := by decide +kernel
theorem dL_law_159 : decode bL_law 159 = .ok (.iconst 3, 1) := by decide +kernel
theorem dL_law_160 : decode bL_law 160 = .ok (.iadd, 1) := by decide +kernel
theorem dL_law_161 : decode bL_law 161 = .ok (.iaload, 1) := by decide +kernel
theorem dL_law_162 : decode bL_law 162 = .ok (.aload_n 0, 1) := by decide +kernel
theorem dL_law_163 : decode bL_law 163 = .ok (.iload 4, 2) := by decide +kernel
theorem dL_law_165 : decode bL_law 165 = .ok (.iconst 4, 1) := by decide +kernel
theorem dL_law_166 : decode bL_law 166 = .ok (.iadd, 1) := by decide +kernel
theorem dL_law_167 : decode bL_law 167 = .ok (.iaload, 1) := by decide +kernel
theorem dL_law_168 : decode bL_law 168 = .ok (.invokevirtual 66, 3) := by decide +kernel
theorem dL_law_171 : decode bL_law 171 = .ok (.istore 6, 2) := by decide +kernel
theorem dL_law_173 : decode bL_law 173 = .ok (.aload_n 2, 1) := by decide +kernel
theorem dL_law_174 : decode bL_law 174 = .ok (.invokevirtual 67, 3) := by decide +kernel
theorem dL_law_177 : decode bL_law 177 = .ok (.iload 5, 2) := by decide +kernel
theorem dL_law_179 : decode bL_law 179 = .ok (.if_icmp .eq 5, 3) := by decide +kernel
theorem dL_law_182 : decode bL_law 182 = .ok (.iconst 0, 1) := by decide +kernel
theorem dL_law_183 : decode bL_law 183 = .ok (.ireturn, 1) := by decide +kernel
theorem dL_law_184 : decode bL_law 184 = .ok (.iload 5, 2) := by decide +kernel
theorem dL_law_186 : decode bL_law 186 = .ok (.ifCond .ne 15, 3) := by decide +kernel
theorem dL_law_189 : decode bL_law 189 = .ok (.aload_n 3, 1) := by decide +kernel
theorem dL_law_190 : decode bL_law 190 = .ok (.iconst 0, 1) := by decide +kernel
theorem dL_law_191 : decode bL_law 191 = .ok (.laload, 1) := by decide +kernel
theorem dL_law_192 : decode bL_law 192 = .ok (.iload 6, 2) := by decide +kernel
theorem dL_law_194 : decode bL_law 194 = .ok (.i2l, 1) := by decide +kernel
theorem dL_law_195 : decode bL_law 195 = .ok (.lcmp, 1) := by decide +kernel
theorem dL_law_196 : decode bL_law 196 = .ok (.ifCond .eq 5, 3) := by decide +kernel
theorem dL_law_199 : decode bL_law 199 = .ok (.iconst 0, 1) := by decide +kernel
theorem dL_law_200 : decode bL_law 200 = .ok (.ireturn, 1) := by decide +kernel
theorem dL_law_201 : decode bL_law 201 = .ok (.goto 724, 3) := by decide +kernel
theorem dL_law_204 : decode bL_law 204 = .ok (.aload_n 1, 1) := by decide +kernel
theorem dL_law_205 : decode bL_law 205 = .ok (.aload_n 0, 1) := by decide +kernel
theorem dL_law_206 : decode bL_law 206 = .ok (.iload 4, 2) := by decide +kernel
theorem dL_law_208 : decode bL_law 208 = .ok (.iconst 1, 1) := by decide +kernel
theorem dL_law_209 : decode bL_law 209 = .ok (.iadd, 1) := by decide +kernel
theorem dL_law_210 : decode bL_law 210 = .ok (.iaload, 1) := by decide +kernel
theorem dL_law_211 : decode bL_law 211 = .ok (.aload_n 0, 1) := by decide +kernel
theorem dL_law_212 : decode bL_law 212 = .ok (.iload 4, 2) := by decide +kernel
theorem dL_law_214 : decode bL_law 214 = .ok (.iconst 2, 1) := by decide +kernel
theorem dL_law_215 : decode bL_law 215 = .ok (.iadd, 1) := by decide +kernel
theorem dL_law_216 : decode bL_law 216 = .ok (.iaload, 1) := by decide +kernel
theorem dL_law_217 : decode bL_law 217 = .ok (.aload_n 3, 1) := by decide +kernel
theorem dL_law_218 : decode bL_law 218 = .ok (.invokestatic 70, 3) := by decide +kernel
theorem dL_law_221 : decode bL_law 221 = .ok (.istore 5, 2) := by decide +kernel
theorem dL_law_223 : decode bL_law 223 = .ok (.aload_n 2, 1) := by decide +kernel
theorem dL_law_224 : decode bL_law 224 = .ok (.aload_n 0, 1) := by decide +kernel
theorem dL_law_225 : decode bL_law 225 = .ok (.iload 4, 2) := by decide +kernel
theorem dL_law_227 : decode bL_law 227 = .ok (.iconst 1, 1) := by decide +kernel
theorem dL_law_228 : decode bL_law 228 = .ok (.iadd, 1) := by decide +kernel
theorem dL_law_229 : decode bL_law 229 = .ok (.iaload, 1) := by decide +kernel
theorem dL_law_230 : decode bL_law 230 = .ok (.aload_n 0, 1) := by decide +kernel
theorem dL_law_231 : decode bL_law 231 = .ok (.iload 4, 2) := by decide +kernel
theorem dL_law_233 : decode bL_law 233 = .ok (.iconst 2, 1) := by decide +kernel
theorem dL_law_234 : decode bL_law 234 = .ok (.iadd, 1) := by decide +kernel
theorem dL_law_235 : decode bL_law 235 = .ok (.iaload, 1) := by decide +kernel
theorem dL_law_236 : decode bL_law 236 = .ok (.invokevirtual 73, 3) := by decide +kernel
theorem dL_law_239 : decode bL_law 239 = .ok (.istore 6, 2) := by decide +kernel
theorem dL_law_241 : decode bL_law 241 = .ok (.aload_n 2, 1) := by decide +kernel
theorem dL_law_242 : decode bL_law 242 = .ok (.invokevirtual 67, 3) := by decide +kernel
theorem dL_law_245 : decode bL_law 245 = .ok (.iload 5, 2) := by decide +kernel
theorem dL_law_247 : decode bL_law 247 = .ok (.if_icmp .eq 5, 3) := by decide +kernel
theorem dL_law_250 : decode bL_law 250 = .ok (.iconst 0, 1) := by decide +kernel
theorem dL_law_251 : decode bL_law 251 = .ok (.ireturn, 1) := by decide +kernel
theorem dL_law_252 : decode bL_law 252 = .ok (.iload 5, 2) := by decide +kernel
theorem dL_law_254 : decode bL_law 254 = .ok (.ifCond .ne 15, 3) := by decide +kernel
theorem dL_law_257 : decode bL_law 257 = .ok (.aload_n 3, 1) := by decide +kernel
theorem dL_law_258 : decode bL_law 258 = .ok (.iconst 0, 1) := by decide +kernel
theorem dL_law_259 : decode bL_law 259 = .ok (.laload, 1) := by decide +kernel
theorem dL_law_260 : decode bL_law 260 = .ok (.iload 6, 2) := by decide +kernel
theorem dL_law_262 : decode bL_law 262 = .ok (.i2l, 1) := by decide +kernel
theorem dL_law_263 : decode bL_law 263 = .ok (.lcmp, 1) := by decide +kernel
theorem dL_law_264 : decode bL_law 264 = .ok (.ifCond .eq 5, 3) := by decide +kernel
theorem dL_law_267 : decode bL_law 267 = .ok (.iconst 0, 1) := by decide +kernel
theorem dL_law_268 : decode bL_law 268 = .ok (.ireturn, 1) := by decide +kernel
theorem dL_law_269 : decode bL_law 269 = .ok (.goto 656, 3) := by decide +kernel
theorem dL_law_272 : decode bL_law 272 = .ok (.aload_n 1, 1) := by decide +kernel
theorem dL_law_273 : decode bL_law 273 = .ok (.aload_n 0, 1) := by decide +kernel
theorem dL_law_274 : decode bL_law 274 = .ok (.iload 4, 2) := by decide +kernel
theorem dL_law_276 : decode bL_law 276 = .ok (.iconst 1, 1) := by decide +kernel
theorem dL_law_277 : decode bL_law 277 = .ok (.iadd, 1) := by decide +kernel
theorem dL_law_278 : decode bL_law 278 = .ok (.iaload, 1) := by decide +kernel
theorem dL_law_279 : decode bL_law 279 = .ok (.aload_n 3, 1) := by decide +kernel
theorem dL_law_280 : decode bL_law 280 = .ok (.invokestatic 74, 3) := by decide +kernel
theorem dL_law_283 : decode bL_law 283 = .ok (.istore 5, 2) := by decide +kernel
theorem dL_law_285 : decode bL_law 285 = .ok (.aload_n 2, 1) := by decide +kernel
theorem dL_law_286 : decode bL_law 286 = .ok (.aload_n 0, 1) := by decide +kernel
theorem dL_law_287 : decode bL_law 287 = .ok (.iload 4, 2) := by decide +kernel
theorem dL_law_289 : decode bL_law 289 = .ok (.iconst 1, 1) := by decide +kernel
theorem dL_law_290 : decode bL_law 290 = .ok (.iadd, 1) := by decide +kernel
theorem dL_law_291 : decode bL_law 291 = .ok (.iaload, 1) := by decide +kernel
theorem dL_law_292 : decode bL_law 292 = .ok (.invokevirtual 77, 3) := by decide +kernel
theorem dL_law_295 : decode bL_law 295 = .ok (.istore 6, 2) := by decide +kernel
theorem dL_law_297 : decode bL_law 297 = .ok (.aload_n 2, 1) := by decide +kernel
theorem dL_law_298 : decode bL_law 298 = .ok (.invokevirtual 67, 3) := by decide +kernel
theorem dL_law_301 : decode bL_law 301 = .ok (.iload 5, 2) := by decide +kernel
theorem dL_law_303 : decode bL_law 303 = .ok (.if_icmp .eq 5, 3) := by decide +kernel
theorem dL_law_306 : decode bL_law 306 = .ok (.iconst 0, 1) := by decide +kernel
theorem dL_law_307 : decode bL_law 307 = .ok (.ireturn, 1) := by decide +kernel
theorem dL_law_308 : decode bL_law 308 = .ok (.iload 5, 2) := by decide +kernel
theorem dL_law_310 : decode bL_law 310 = .ok (.ifCond .ne 15, 3) := by decide +kernel
theorem dL_law_313 : decode bL_law 313 = .ok (.aload_n 3, 1) := by decide +kernel
theorem dL_law_314 : decode bL_law 314 = .ok (.iconst 0, 1) := by decide +kernel
theorem dL_law_315 : decode bL_law 315 = .ok (.laload, 1) := by decide +kernel
theorem dL_law_316 : decode bL_law 316 = .ok (.iload 6, 2) := by decide +kernel
theorem dL_law_318 : decode bL_law 318 = .ok (.i2l, 1) := by decide +kernel
theorem dL_law_319 : decode bL_law 319 = .ok (.lcmp, 1) := by decide +kernel
theorem dL_law_320 : decode bL_law 320 = .ok (.ifCond .eq 5, 3) := by decide +kernel
theorem dL_law_323 : decode bL_law 323 = .ok (.iconst 0, 1) := by decide +kernel
theorem dL_law_324 : decode bL_law 324 = .ok (.ireturn, 1) := by decide +kernel
theorem dL_law_325 : decode bL_law 325 = .ok (.goto 600, 3) := by decide +kernel
theorem dL_law_328 : decode bL_law 328 = .ok (.aload_n 1, 1) := by decide +kernel
theorem dL_law_329 : decode bL_law 329 = .ok (.aload_n 0, 1) := by decide +kernel
theorem dL_law_330 : decode bL_law 330 = .ok (.iload 4, 2) := by decide +kernel
theorem dL_law_332 : decode bL_law 332 = .ok (.iconst 1, 1) := by decide +kernel
theorem dL_law_333 : decode bL_law 333 = .ok (.iadd, 1) := by decide +kernel
theorem dL_law_334 : decode bL_law 334 = .ok (.iaload, 1) := by decide +kernel
theorem dL_law_335 : decode bL_law 335 = .ok (.aload_n 0, 1) := by decide +kernel
theorem dL_law_336 : decode bL_law 336 = .ok (.iload 4, 2) := by decide +kernel
theorem dL_law_338 : decode bL_law 338 = .ok (.iconst 2, 1) := by decide +kernel
theorem dL_law_339 : decode bL_law 339 = .ok (.iadd, 1) := by decide +kernel
theorem dL_law_340 : decode bL_law 340 = .ok (.iaload, 1) := by decide +kernel
theorem dL_law_341 : decode bL_law 341 = .ok (.aload_n 0, 1) := by decide +kernel
theorem dL_law_342 : decode bL_law 342 = .ok (.iload 4, 2) := by decide +kernel
theorem dL_law_344 : decode bL_law 344 = .ok (.iconst 3, 1) := by decide +kernel
theorem dL_law_345 : decode bL_law 345 = .ok (.iadd, 1) := by decide +kernel
theorem dL_law_346 : decode bL_law 346 = .ok (.iaload, 1) := by decide +kernel
theorem dL_law_347 : decode bL_law 347 = .ok (.aload_n 3, 1) := by decide +kernel
theorem dL_law_348 : decode bL_law 348 = .ok (.invokestatic 78, 3) := by decide +kernel
theorem dL_law_351 : decode bL_law 351 = .ok (.istore 5, 2) := by decide +kernel
theorem dL_law_353 : decode bL_law 353 = .ok (.aload_n 2, 1) := by decide +kernel
theorem dL_law_354 : decode bL_law 354 = .ok (.aload_n 0, 1) := by decide +kernel
theorem dL_law_355 : decode bL_law 355 = .ok (.iload 4, 2) := by decide +kernel
theorem dL_law_357 : decode bL_law 357 = .ok (.iconst 1, 1) := by decide +kernel
theorem dL_law_358 : decode bL_law 358 = .ok (.iadd, 1) := by decide +kernel
theorem dL_law_359 : decode bL_law 359 = .ok (.iaload, 1) := by decide +kernel
theorem dL_law_360 : decode bL_law 360 = .ok (.aload_n 0, 1) := by decide +kernel
theorem dL_law_361 : decode bL_law 361 = .ok (.iload 4, 2) := by decide +kernel
theorem dL_law_363 : decode bL_law 363 = .ok (.iconst 2, 1) := by decide +kernel
theorem dL_law_364 : decode bL_law 364 = .ok (.iadd, 1) := by decide +kernel
theorem dL_law_365 : decode bL_law 365 = .ok (.iaload, 1) := by decide +kernel
theorem dL_law_366 : decode bL_law 366 = .ok (.aload_n 0, 1) := by decide +kernel
theorem dL_law_367 : decode bL_law 367 = .ok (.iload 4, 2) := by decide +kernel
theorem dL_law_369 : decode bL_law 369 = .ok (.iconst 3, 1) := by decide +kernel
theorem dL_law_370 : decode bL_law 370 = .ok (.iadd, 1) := by decide +kernel
theorem dL_law_371 : decode bL_law 371 = .ok (.iaload, 1) := by decide +kernel
theorem dL_law_372 : decode bL_law 372 = .ok (.invokevirtual 81, 3) := by decide +kernel
theorem dL_law_375 : decode bL_law 375 = .ok (.istore 6, 2) := by decide +kernel
theorem dL_law_377 : decode bL_law 377 = .ok (.aload_n 2, 1) := by decide +kernel
theorem dL_law_378 : decode bL_law 378 = .ok (.invokevirtual 67, 3) := by decide +kernel
theorem dL_law_381 : decode bL_law 381 = .ok (.iload 5, 2) := by decide +kernel
theorem dL_law_383 : decode bL_law 383 = .ok (.if_icmp .eq 5, 3) := by decide +kernel
theorem dL_law_386 : decode bL_law 386 = .ok (.iconst 0, 1) := by decide +kernel
theorem dL_law_387 : decode bL_law 387 = .ok (.ireturn, 1) := by decide +kernel
theorem dL_law_388 : decode bL_law 388 = .ok (.iload 5, 2) := by decide +kernel
theorem dL_law_390 : decode bL_law 390 = .ok (.ifCond .ne 15, 3) := by decide +kernel
theorem dL_law_393 : decode bL_law 393 = .ok (.aload_n 3, 1) := by decide +kernel
theorem dL_law_394 : decode bL_law 394 = .ok (.iconst 0, 1) := by decide +kernel
theorem dL_law_395 : decode bL_law 395 = .ok (.laload, 1) := by decide +kernel
theorem dL_law_396 : decode bL_law 396 = .ok (.iload 6, 2) := by decide +kernel
theorem dL_law_398 : decode bL_law 398 = .ok (.i2l, 1) := by decide +kernel
theorem dL_law_399 : decode bL_law 399 = .ok (.lcmp, 1) := by decide +kernel
theorem dL_law_400 : decode bL_law 400 = .ok (.ifCond .eq 5, 3) := by decide +kernel
theorem dL_law_403 : decode bL_law 403 = .ok (.iconst 0, 1) := by decide +kernel
theorem dL_law_404 : decode bL_law 404 = .ok (.ireturn, 1) := by decide +kernel
theorem dL_law_405 : decode bL_law 405 = .ok (.goto 520, 3) := by decide +kernel
theorem dL_law_408 : decode bL_law 408 = .ok (.aload_n 1, 1) := by decide +kernel
theorem dL_law_409 : decode bL_law 409 = .ok (.aload_n 0, 1) := by decide +kernel
theorem dL_law_410 : decode bL_law 410 = .ok (.iload 4, 2) := by decide +kernel
theorem dL_law_412 : decode bL_law 412 = .ok (.iconst 1, 1) := by decide +kernel
theorem dL_law_413 : decode bL_law 413 = .ok (.iadd, 1) := by decide +kernel
theorem dL_law_414 : decode bL_law 414 = .ok (.iaload, 1) := by decide +kernel
theorem dL_law_415 : decode bL_law 415 = .ok (.aload_n 0, 1) := by decide +kernel
theorem dL_law_416 : decode bL_law 416 = .ok (.iload 4, 2) := by decide +kernel
theorem dL_law_418 : decode bL_law 418 = .ok (.iconst 2, 1) := by decide +kernel
theorem dL_law_419 : decode bL_law 419 = .ok (.iadd, 1) := by decide +kernel
theorem dL_law_420 : decode bL_law 420 = .ok (.iaload, 1) := by decide +kernel
theorem dL_law_421 : decode bL_law 421 = .ok (.aload_n 3, 1) := by decide +kernel
theorem dL_law_422 : decode bL_law 422 = .ok (.invokestatic 82, 3) := by decide +kernel
theorem dL_law_425 : decode bL_law 425 = .ok (.istore 5, 2) := by decide +kernel
theorem dL_law_427 : decode bL_law 427 = .ok (.aload_n 2, 1) := by decide +kernel
theorem dL_law_428 : decode bL_law 428 = .ok (.aload_n 0, 1) := by decide +kernel
theorem dL_law_429 : decode bL_law 429 = .ok (.iload 4, 2) := by decide +kernel
theorem dL_law_431 : decode bL_law 431 = .ok (.iconst 1, 1) := by decide +kernel
theorem dL_law_432 : decode bL_law 432 = .ok (.iadd, 1) := by decide +kernel
theorem dL_law_433 : decode bL_law 433 = .ok (.iaload, 1) := by decide +kernel
theorem dL_law_434 : decode bL_law 434 = .ok (.aload_n 0, 1) := by decide +kernel
theorem dL_law_435 : decode bL_law 435 = .ok (.iload 4, 2) := by decide +kernel
theorem dL_law_437 : decode bL_law 437 = .ok (.iconst 2, 1) := by decide +kernel
theorem dL_law_438 : decode bL_law 438 = .ok (.iadd, 1) := by decide +kernel
theorem dL_law_439 : decode bL_law 439 = .ok (.iaload, 1) := by decide +kernel
theorem dL_law_440 : decode bL_law 440 = .ok (.invokevirtual 84, 3) := by decide +kernel
theorem dL_law_443 : decode bL_law 443 = .ok (.istore 6, 2) := by decide +kernel
theorem dL_law_445 : decode bL_law 445 = .ok (.aload_n 2, 1) := by decide +kernel
theorem dL_law_446 : decode bL_law 446 = .ok (.invokevirtual 67, 3) := by decide +kernel
theorem dL_law_449 : decode bL_law 449 = .ok (.iload 5, 2) := by decide +kernel
theorem dL_law_451 : decode bL_law 451 = .ok (.if_icmp .eq 5, 3) := by decide +kernel
theorem dL_law_454 : decode bL_law 454 = .ok (.iconst 0, 1) := by decide +kernel
theorem dL_law_455 : decode bL_law 455 = .ok (.ireturn, 1) := by decide +kernel
theorem dL_law_456 : decode bL_law 456 = .ok (.iload 5, 2) := by decide +kernel
theorem dL_law_458 : decode bL_law 458 = .ok (.ifCond .ne 15, 3) := by decide +kernel
theorem dL_law_461 : decode bL_law 461 = .ok (.aload_n 3, 1) := by decide +kernel
theorem dL_law_462 : decode bL_law 462 = .ok (.iconst 0, 1) := by decide +kernel
theorem dL_law_463 : decode bL_law 463 = .ok (.laload, 1) := by decide +kernel
theorem dL_law_464 : decode bL_law 464 = .ok (.iload 6, 2) := by decide +kernel
theorem dL_law_466 : decode bL_law 466 = .ok (.i2l, 1) := by decide +kernel
theorem dL_law_467 : decode bL_law 467 = .ok (.lcmp, 1) := by decide +kernel
theorem dL_law_468 : decode bL_law 468 = .ok (.ifCond .eq 5, 3) := by decide +kernel
theorem dL_law_471 : decode bL_law 471 = .ok (.iconst 0, 1) := by decide +kernel
theorem dL_law_472 : decode bL_law 472 = .ok (.ireturn, 1) := by decide +kernel
theorem dL_law_473 : decode bL_law 473 = .ok (.goto 452, 3) := by decide +kernel
theorem dL_law_476 : decode bL_law 476 = .ok (.aload_n 1, 1) := by decide +kernel
theorem dL_law_477 : decode bL_law 477 = .ok (.aload_n 0, 1) := by decide +kernel
theorem dL_law_478 : decode bL_law 478 = .ok (.iload 4, 2) := by decide +kernel
theorem dL_law_480 : decode bL_law 480 = .ok (.iconst 1, 1) := by decide +kernel
theorem dL_law_481 : decode bL_law 481 = .ok (.iadd, 1) := by decide +kernel
theorem dL_law_482 : decode bL_law 482 = .ok (.iaload, 1) := by decide +kernel
theorem dL_law_483 : decode bL_law 483 = .ok (.aload_n 3, 1) := by decide +kernel
theorem dL_law_484 : decode bL_law 484 = .ok (.invokestatic 85, 3) := by decide +kernel
theorem dL_law_487 : decode bL_law 487 = .ok (.istore 5, 2) := by decide +kernel
theorem dL_law_489 : decode bL_law 489 = .ok (.aload_n 2, 1) := by decide +kernel
theorem dL_law_490 : decode bL_law 490 = .ok (.aload_n 0, 1) := by decide +kernel
theorem dL_law_491 : decode bL_law 491 = .ok (.iload 4, 2) := by decide +kernel
theorem dL_law_493 : decode bL_law 493 = .ok (.iconst 1, 1) := by decide +kernel
theorem dL_law_494 : decode bL_law 494 = .ok (.iadd, 1) := by decide +kernel
theorem dL_law_495 : decode bL_law 495 = .ok (.iaload, 1) := by decide +kernel
theorem dL_law_496 : decode bL_law 496 = .ok (.invokevirtual 87, 3) := by decide +kernel
theorem dL_law_499 : decode bL_law 499 = .ok (.istore 6, 2) := by decide +kernel
theorem dL_law_501 : decode bL_law 501 = .ok (.aload_n 2, 1) := by decide +kernel
theorem dL_law_502 : decode bL_law 502 = .ok (.invokevirtual 67, 3) := by decide +kernel
theorem dL_law_505 : decode bL_law 505 = .ok (.iload 5, 2) := by decide +kernel
theorem dL_law_507 : decode bL_law 507 = .ok (.if_icmp .eq 5, 3) := by decide +kernel
theorem dL_law_510 : decode bL_law 510 = .ok (.iconst 0, 1) := by decide +kernel
theorem dL_law_511 : decode bL_law 511 = .ok (.ireturn, 1) := by decide +kernel
theorem dL_law_512 : decode bL_law 512 = .ok (.iload 5, 2) := by decide +kernel
theorem dL_law_514 : decode bL_law 514 = .ok (.ifCond .ne 15, 3) := by decide +kernel
theorem dL_law_517 : decode bL_law 517 = .ok (.aload_n 3, 1) := by decide +kernel
theorem dL_law_518 : decode bL_law 518 = .ok (.iconst 0, 1) := by decide +kernel
theorem dL_law_519 : decode bL_law 519 = .ok (.laload, 1) := by decide +kernel
theorem dL_law_520 : decode bL_law 520 = .ok (.iload 6, 2) := by decide +kernel
theorem dL_law_522 : decode bL_law 522 = .ok (.i2l, 1) := by decide +kernel
theorem dL_law_523 : decode bL_law 523 = .ok (.lcmp, 1) := by decide +kernel
theorem dL_law_524 : decode bL_law 524 = .ok (.ifCond .eq 5, 3) := by decide +kernel
theorem dL_law_527 : decode bL_law 527 = .ok (.iconst 0, 1) := by decide +kernel
theorem dL_law_528 : decode bL_law 528 = .ok (.ireturn, 1) := by decide +kernel
theorem dL_law_529 : decode bL_law 529 = .ok (.goto 396, 3) := by decide +kernel
theorem dL_law_532 : decode bL_law 532 = .ok (.aload_n 1, 1) := by decide +kernel
theorem dL_law_533 : decode bL_law 533 = .ok (.aload_n 0, 1) := by decide +kernel
theorem dL_law_534 : decode bL_law 534 = .ok (.iload 4, 2) := by decide +kernel
theorem dL_law_536 : decode bL_law 536 = .ok (.iconst 1, 1) := by decide +kernel
theorem dL_law_537 : decode bL_law 537 = .ok (.iadd, 1) := by decide +kernel
theorem dL_law_538 : decode bL_law 538 = .ok (.iaload, 1) := by decide +kernel
theorem dL_law_539 : decode bL_law 539 = .ok (.aload_n 0, 1) := by decide +kernel
theorem dL_law_540 : decode bL_law 540 = .ok (.iload 4, 2) := by decide +kernel
theorem dL_law_542 : decode bL_law 542 = .ok (.iconst 2, 1) := by decide +kernel
theorem dL_law_543 : decode bL_law 543 = .ok (.iadd, 1) := by decide +kernel
theorem dL_law_544 : decode bL_law 544 = .ok (.iaload, 1) := by decide +kernel
theorem dL_law_545 : decode bL_law 545 = .ok (.aload_n 0, 1) := by decide +kernel
theorem dL_law_546 : decode bL_law 546 = .ok (.iload 4, 2) := by decide +kernel
theorem dL_law_548 : decode bL_law 548 = .ok (.iconst 3, 1) := by decide +kernel
theorem dL_law_549 : decode bL_law 549 = .ok (.iadd, 1) := by decide +kernel
theorem dL_law_550 : decode bL_law 550 = .ok (.iaload, 1) := by decide +kernel
theorem dL_law_551 : decode bL_law 551 = .ok (.aload_n 0, 1) := by decide +kernel
theorem dL_law_552 : decode bL_law 552 = .ok (.iload 4, 2) := by decide +kernel
theorem dL_law_554 : decode bL_law 554 = .ok (.iconst 4, 1) := by decide +kernel
theorem dL_law_555 : decode bL_law 555 = .ok (.iadd, 1) := by decide +kernel
theorem dL_law_556 : decode bL_law 556 = .ok (.iaload, 1) := by decide +kernel
theorem dL_law_557 : decode bL_law 557 = .ok (.aload_n 3, 1) := by decide +kernel
theorem dL_law_558 : decode bL_law 558 = .ok (.invokestatic 88, 3) := by decide +kernel
theorem dL_law_561 : decode bL_law 561 = .ok (.istore 5, 2) := by decide +kernel
theorem dL_law_563 : decode bL_law 563 = .ok (.aload_n 2, 1) := by decide +kernel
theorem dL_law_564 : decode bL_law 564 = .ok (.aload_n 0, 1) := by decide +kernel
theorem dL_law_565 : decode bL_law 565 = .ok (.iload 4, 2) := by decide +kernel
theorem dL_law_567 : decode bL_law 567 = .ok (.iconst 1, 1) := by decide +kernel
theorem dL_law_568 : decode bL_law 568 = .ok (.iadd, 1) := by decide +kernel
theorem dL_law_569 : decode bL_law 569 = .ok (.iaload, 1) := by decide +kernel
theorem dL_law_570 : decode bL_law 570 = .ok (.aload_n 0, 1) := by decide +kernel
theorem dL_law_571 : decode bL_law 571 = .ok (.iload 4, 2) := by decide +kernel
theorem dL_law_573 : decode bL_law 573 = .ok (.iconst 2, 1) := by decide +kernel
theorem dL_law_574 : decode bL_law 574 = .ok (.iadd, 1) := by decide +kernel
theorem dL_law_575 : decode bL_law 575 = .ok (.iaload, 1) := by decide +kernel
theorem dL_law_576 : decode bL_law 576 = .ok (.aload_n 0, 1) := by decide +kernel
theorem dL_law_577 : decode bL_law 577 = .ok (.iload 4, 2) := by decide +kernel
theorem dL_law_579 : decode bL_law 579 = .ok (.iconst 3, 1) := by decide +kernel
theorem dL_law_580 : decode bL_law 580 = .ok (.iadd, 1) := by decide +kernel
theorem dL_law_581 : decode bL_law 581 = .ok (.iaload, 1) := by decide +kernel
theorem dL_law_582 : decode bL_law 582 = .ok (.aload_n 0, 1) := by decide +kernel
theorem dL_law_583 : decode bL_law 583 = .ok (.iload 4, 2) := by decide +kernel
theorem dL_law_585 : decode bL_law 585 = .ok (.iconst 4, 1) := by decide +kernel
theorem dL_law_586 : decode bL_law 586 = .ok (.iadd, 1) := by decide +kernel
theorem dL_law_587 : decode bL_law 587 = .ok (.iaload, 1) := by decide +kernel
theorem dL_law_588 : decode bL_law 588 = .ok (.invokevirtual 90, 3) := by decide +kernel
theorem dL_law_591 : decode bL_law 591 = .ok (.istore 6, 2) := by decide +kernel
theorem dL_law_593 : decode bL_law 593 = .ok (.aload_n 2, 1) := by decide +kernel
theorem dL_law_594 : decode bL_law 594 = .ok (.invokevirtual 67, 3) := by decide +kernel
theorem dL_law_597 : decode bL_law 597 = .ok (.iload 5, 2) := by decide +kernel
theorem dL_law_599 : decode bL_law 599 = .ok (.if_icmp .eq 5, 3) := by decide +kernel
theorem dL_law_602 : decode bL_law 602 = .ok (.iconst 0, 1) := by decide +kernel
theorem dL_law_603 : decode bL_law 603 = .ok (.ireturn, 1) := by decide +kernel
theorem dL_law_604 : decode bL_law 604 = .ok (.iload 5, 2) := by decide +kernel
theorem dL_law_606 : decode bL_law 606 = .ok (.ifCond .ne 15, 3) := by decide +kernel
theorem dL_law_609 : decode bL_law 609 = .ok (.aload_n 3, 1) := by decide +kernel
theorem dL_law_610 : decode bL_law 610 = .ok (.iconst 0, 1) := by decide +kernel
theorem dL_law_611 : decode bL_law 611 = .ok (.laload, 1) := by decide +kernel
theorem dL_law_612 : decode bL_law 612 = .ok (.iload 6, 2) := by decide +kernel
theorem dL_law_614 : decode bL_law 614 = .ok (.i2l, 1) := by decide +kernel
theorem dL_law_615 : decode bL_law 615 = .ok (.lcmp, 1) := by decide +kernel
theorem dL_law_616 : decode bL_law 616 = .ok (.ifCond .eq 5, 3) := by decide +kernel
theorem dL_law_619 : decode bL_law 619 = .ok (.iconst 0, 1) := by decide +kernel
theorem dL_law_620 : decode bL_law 620 = .ok (.ireturn, 1) := by decide +kernel
theorem dL_law_621 : decode bL_law 621 = .ok (.goto 304, 3) := by decide +kernel
theorem dL_law_624 : decode bL_law 624 = .ok (.aload_n 1, 1) := by decide +kernel
theorem dL_law_625 : decode bL_law 625 = .ok (.aload_n 3, 1) := by decide +kernel
theorem dL_law_626 : decode bL_law 626 = .ok (.invokestatic 91, 3) := by decide +kernel
theorem dL_law_629 : decode bL_law 629 = .ok (.istore 5, 2) := by decide +kernel
theorem dL_law_631 : decode bL_law 631 = .ok (.aload_n 2, 1) := by decide +kernel
theorem dL_law_632 : decode bL_law 632 = .ok (.invokevirtual 94, 3) := by decide +kernel
theorem dL_law_635 : decode bL_law 635 = .ok (.istore 6, 2) := by decide +kernel
theorem dL_law_637 : decode bL_law 637 = .ok (.aload_n 2, 1) := by decide +kernel
theorem dL_law_638 : decode bL_law 638 = .ok (.invokevirtual 67, 3) := by decide +kernel
theorem dL_law_641 : decode bL_law 641 = .ok (.iload 5, 2) := by decide +kernel
theorem dL_law_643 : decode bL_law 643 = .ok (.if_icmp .eq 5, 3) := by decide +kernel
theorem dL_law_646 : decode bL_law 646 = .ok (.iconst 0, 1) := by decide +kernel
theorem dL_law_647 : decode bL_law 647 = .ok (.ireturn, 1) := by decide +kernel
theorem dL_law_648 : decode bL_law 648 = .ok (.iload 5, 2) := by decide +kernel
theorem dL_law_650 : decode bL_law 650 = .ok (.ifCond .ne 15, 3) := by decide +kernel
theorem dL_law_653 : decode bL_law 653 = .ok (.aload_n 3, 1) := by decide +kernel
theorem dL_law_654 : decode bL_law 654 = .ok (.iconst 0, 1) := by decide +kernel
theorem dL_law_655 : decode bL_law 655 = .ok (.laload, 1) := by decide +kernel
theorem dL_law_656 : decode bL_law 656 = .ok (.iload 6, 2) := by decide +kernel
theorem dL_law_658 : decode bL_law 658 = .ok (.i2l, 1) := by decide +kernel
theorem dL_law_659 : decode bL_law 659 = .ok (.lcmp, 1) := by decide +kernel
theorem dL_law_660 : decode bL_law 660 = .ok (.ifCond .eq 5, 3) := by decide +kernel
theorem dL_law_663 : decode bL_law 663 = .ok (.iconst 0, 1) := by decide +kernel
theorem dL_law_664 : decode bL_law 664 = .ok (.ireturn, 1) := by decide +kernel
theorem dL_law_665 : decode bL_law 665 = .ok (.goto 260, 3) := by decide +kernel
theorem dL_law_668 : decode bL_law 668 = .ok (.aload_n 1, 1) := by decide +kernel
theorem dL_law_669 : decode bL_law 669 = .ok (.aload_n 3, 1) := by decide +kernel
theorem dL_law_670 : decode bL_law 670 = .ok (.invokestatic 95, 3) := by decide +kernel
theorem dL_law_673 : decode bL_law 673 = .ok (.istore 5, 2) := by decide +kernel
theorem dL_law_675 : decode bL_law 675 = .ok (.aload_n 2, 1) := by decide +kernel
theorem dL_law_676 : decode bL_law 676 = .ok (.invokevirtual 97, 3) := by decide +kernel
theorem dL_law_679 : decode bL_law 679 = .ok (.istore 6, 2) := by decide +kernel
theorem dL_law_681 : decode bL_law 681 = .ok (.aload_n 2, 1) := by decide +kernel
theorem dL_law_682 : decode bL_law 682 = .ok (.invokevirtual 67, 3) := by decide +kernel
theorem dL_law_685 : decode bL_law 685 = .ok (.iload 5, 2) := by decide +kernel
theorem dL_law_687 : decode bL_law 687 = .ok (.if_icmp .eq 5, 3) := by decide +kernel
theorem dL_law_690 : decode bL_law 690 = .ok (.iconst 0, 1) := by decide +kernel
theorem dL_law_691 : decode bL_law 691 = .ok (.ireturn, 1) := by decide +kernel
theorem dL_law_692 : decode bL_law 692 = .ok (.iload 5, 2) := by decide +kernel
theorem dL_law_694 : decode bL_law 694 = .ok (.ifCond .ne 15, 3) := by decide +kernel
theorem dL_law_697 : decode bL_law 697 = .ok (.aload_n 3, 1) := by decide +kernel
theorem dL_law_698 : decode bL_law 698 = .ok (.iconst 0, 1) := by decide +kernel
theorem dL_law_699 : decode bL_law 699 = .ok (.laload, 1) := by decide +kernel
theorem dL_law_700 : decode bL_law 700 = .ok (.iload 6, 2) := by decide +kernel
theorem dL_law_702 : decode bL_law 702 = .ok (.i2l, 1) := by decide +kernel
theorem dL_law_703 : decode bL_law 703 = .ok (.lcmp, 1) := by decide +kernel
theorem dL_law_704 : decode bL_law 704 = .ok (.ifCond .eq 5, 3) := by decide +kernel
theorem dL_law_707 : decode bL_law 707 = .ok (.iconst 0, 1) := by decide +kernel
theorem dL_law_708 : decode bL_law 708 = .ok (.ireturn, 1) := by decide +kernel
theorem dL_law_709 : decode bL_law 709 = .ok (.goto 216, 3) := by decide +kernel
theorem dL_law_712 : decode bL_law 712 = .ok (.aload_n 1, 1) := by decide +kernel
theorem dL_law_713 : decode bL_law 713 = .ok (.aload_n 0, 1) := by decide +kernel
theorem dL_law_714 : decode bL_law 714 = .ok (.iload 4, 2) := by decide +kernel
theorem dL_law_716 : decode bL_law 716 = .ok (.iconst 1, 1) := by decide +kernel
theorem dL_law_717 : decode bL_law 717 = .ok (.iadd, 1) := by decide +kernel
theorem dL_law_718 : decode bL_law 718 = .ok (.iaload, 1) := by decide +kernel
theorem dL_law_719 : decode bL_law 719 = .ok (.aload_n 0, 1) := by decide +kernel
theorem dL_law_720 : decode bL_law 720 = .ok (.iload 4, 2) := by decide +kernel
theorem dL_law_722 : decode bL_law 722 = .ok (.iconst 2, 1) := by decide +kernel
theorem dL_law_723 : decode bL_law 723 = .ok (.iadd, 1) := by decide +kernel
theorem dL_law_724 : decode bL_law 724 = .ok (.iaload, 1) := by decide +kernel
theorem dL_law_725 : decode bL_law 725 = .ok (.aload_n 0, 1) := by decide +kernel
theorem dL_law_726 : decode bL_law 726 = .ok (.iload 4, 2) := by decide +kernel
theorem dL_law_728 : decode bL_law 728 = .ok (.iconst 3, 1) := by decide +kernel
theorem dL_law_729 : decode bL_law 729 = .ok (.iadd, 1) := by decide +kernel
theorem dL_law_730 : decode bL_law 730 = .ok (.iaload, 1) := by decide +kernel
theorem dL_law_731 : decode bL_law 731 = .ok (.aload_n 3, 1) := by decide +kernel
theorem dL_law_732 : decode bL_law 732 = .ok (.invokestatic 98, 3) := by decide +kernel
theorem dL_law_735 : decode bL_law 735 = .ok (.istore 5, 2) := by decide +kernel
theorem dL_law_737 : decode bL_law 737 = .ok (.aload_n 2, 1) := by decide +kernel
theorem dL_law_738 : decode bL_law 738 = .ok (.aload_n 0, 1) := by decide +kernel
theorem dL_law_739 : decode bL_law 739 = .ok (.iload 4, 2) := by decide +kernel
theorem dL_law_741 : decode bL_law 741 = .ok (.iconst 1, 1) := by decide +kernel
theorem dL_law_742 : decode bL_law 742 = .ok (.iadd, 1) := by decide +kernel
theorem dL_law_743 : decode bL_law 743 = .ok (.iaload, 1) := by decide +kernel
theorem dL_law_744 : decode bL_law 744 = .ok (.aload_n 0, 1) := by decide +kernel
theorem dL_law_745 : decode bL_law 745 = .ok (.iload 4, 2) := by decide +kernel
theorem dL_law_747 : decode bL_law 747 = .ok (.iconst 2, 1) := by decide +kernel
theorem dL_law_748 : decode bL_law 748 = .ok (.iadd, 1) := by decide +kernel
theorem dL_law_749 : decode bL_law 749 = .ok (.iaload, 1) := by decide +kernel
theorem dL_law_750 : decode bL_law 750 = .ok (.aload_n 0, 1) := by decide +kernel
theorem dL_law_751 : decode bL_law 751 = .ok (.iload 4, 2) := by decide +kernel
theorem dL_law_753 : decode bL_law 753 = .ok (.iconst 3, 1) := by decide +kernel
theorem dL_law_754 : decode bL_law 754 = .ok (.iadd, 1) := by decide +kernel
theorem dL_law_755 : decode bL_law 755 = .ok (.iaload, 1) := by decide +kernel
theorem dL_law_756 : decode bL_law 756 = .ok (.invokevirtual 100, 3) := by decide +kernel
theorem dL_law_759 : decode bL_law 759 = .ok (.istore 6, 2) := by decide +kernel
theorem dL_law_761 : decode bL_law 761 = .ok (.aload_n 2, 1) := by decide +kernel
theorem dL_law_762 : decode bL_law 762 = .ok (.invokevirtual 67, 3) := by decide +kernel
theorem dL_law_765 : decode bL_law 765 = .ok (.iload 5, 2) := by decide +kernel
theorem dL_law_767 : decode bL_law 767 = .ok (.if_icmp .eq 5, 3) := by decide +kernel
theorem dL_law_770 : decode bL_law 770 = .ok (.iconst 0, 1) := by decide +kernel
theorem dL_law_771 : decode bL_law 771 = .ok (.ireturn, 1) := by decide +kernel
theorem dL_law_772 : decode bL_law 772 = .ok (.iload 5, 2) := by decide +kernel
theorem dL_law_774 : decode bL_law 774 = .ok (.ifCond .ne 15, 3) := by decide +kernel
theorem dL_law_777 : decode bL_law 777 = .ok (.aload_n 3, 1) := by decide +kernel
theorem dL_law_778 : decode bL_law 778 = .ok (.iconst 0, 1) := by decide +kernel
theorem dL_law_779 : decode bL_law 779 = .ok (.laload, 1) := by decide +kernel
theorem dL_law_780 : decode bL_law 780 = .ok (.iload 6, 2) := by decide +kernel
theorem dL_law_782 : decode bL_law 782 = .ok (.i2l, 1) := by decide +kernel
theorem dL_law_783 : decode bL_law 783 = .ok (.lcmp, 1) := by decide +kernel
theorem dL_law_784 : decode bL_law 784 = .ok (.ifCond .eq 5, 3) := by decide +kernel
theorem dL_law_787 : decode bL_law 787 = .ok (.iconst 0, 1) := by decide +kernel
theorem dL_law_788 : decode bL_law 788 = .ok (.ireturn, 1) := by decide +kernel
theorem dL_law_789 : decode bL_law 789 = .ok (.goto 136, 3) := by decide +kernel
theorem dL_law_792 : decode bL_law 792 = .ok (.aload_n 1, 1) := by decide +kernel
theorem dL_law_793 : decode bL_law 793 = .ok (.aload_n 3, 1) := by decide +kernel
theorem dL_law_794 : decode bL_law 794 = .ok (.invokestatic 101, 3) := by decide +kernel
theorem dL_law_797 : decode bL_law 797 = .ok (.istore 5, 2) := by decide +kernel
theorem dL_law_799 : decode bL_law 799 = .ok (.aload_n 2, 1) := by decide +kernel
theorem dL_law_800 : decode bL_law 800 = .ok (.invokevirtual 103, 3) := by decide +kernel
theorem dL_law_803 : decode bL_law 803 = .ok (.istore 6, 2) := by decide +kernel
theorem dL_law_805 : decode bL_law 805 = .ok (.aload_n 2, 1) := by decide +kernel
theorem dL_law_806 : decode bL_law 806 = .ok (.invokevirtual 67, 3) := by decide +kernel
theorem dL_law_809 : decode bL_law 809 = .ok (.iload 5, 2) := by decide +kernel
theorem dL_law_811 : decode bL_law 811 = .ok (.if_icmp .eq 5, 3) := by decide +kernel
theorem dL_law_814 : decode bL_law 814 = .ok (.iconst 0, 1) := by decide +kernel
theorem dL_law_815 : decode bL_law 815 = .ok (.ireturn, 1) := by decide +kernel
theorem dL_law_816 : decode bL_law 816 = .ok (.iload 5, 2) := by decide +kernel
theorem dL_law_818 : decode bL_law 818 = .ok (.ifCond .ne 15, 3) := by decide +kernel
theorem dL_law_821 : decode bL_law 821 = .ok (.aload_n 3, 1) := by decide +kernel
theorem dL_law_822 : decode bL_law 822 = .ok (.iconst 0, 1) := by decide +kernel
theorem dL_law_823 : decode bL_law 823 = .ok (.laload, 1) := by decide +kernel
theorem dL_law_824 : decode bL_law 824 = .ok (.iload 6, 2) := by decide +kernel
theorem dL_law_826 : decode bL_law 826 = .ok (.i2l, 1) := by decide +kernel
theorem dL_law_827 : decode bL_law 827 = .ok (.lcmp, 1) := by decide +kernel
theorem dL_law_828 : decode bL_law 828 = .ok (.ifCond .eq 5, 3) := by decide +kernel
theorem dL_law_831 : decode bL_law 831 = .ok (.iconst 0, 1) := by decide +kernel
theorem dL_law_832 : decode bL_law 832 = .ok (.ireturn, 1) := by decide +kernel
theorem dL_law_833 : decode bL_law 833 = .ok (.goto 92, 3) := by decide +kernel
theorem dL_law_836 : decode bL_law 836 = .ok (.aload_n 1, 1) := by decide +kernel
theorem dL_law_837 : decode bL_law 837 = .ok (.invokevirtual 104, 3) := by decide +kernel
theorem dL_law_840 : decode bL_law 840 = .ok (.aload_n 2, 1) := by decide +kernel
theorem dL_law_841 : decode bL_law 841 = .ok (.invokevirtual 107, 3) := by decide +kernel
theorem dL_law_844 : decode bL_law 844 = .ok (.if_icmp .eq 81, 3) := by decide +kernel
theorem dL_law_847 : decode bL_law 847 = .ok (.iconst 0, 1) := by decide +kernel
theorem dL_law_848 : decode bL_law 848 = .ok (.ireturn, 1) := by decide +kernel
theorem dL_law_849 : decode bL_law 849 = .ok (.aload_n 1, 1) := by decide +kernel
theorem dL_law_850 : decode bL_law 850 = .ok (.invokevirtual 108, 3) := by decide +kernel
theorem dL_law_853 : decode bL_law 853 = .ok (.aload_n 2, 1) := by decide +kernel
theorem dL_law_854 : decode bL_law 854 = .ok (.invokevirtual 112, 3) := by decide +kernel
theorem dL_law_857 : decode bL_law 857 = .ok (.lcmp, 1) := by decide +kernel
theorem dL_law_858 : decode bL_law 858 = .ok (.ifCond .eq 67, 3) := by decide +kernel
theorem dL_law_861 : decode bL_law 861 = .ok (.iconst 0, 1) := by decide +kernel
theorem dL_law_862 : decode bL_law 862 = .ok (.ireturn, 1) := by decide +kernel
theorem dL_law_863 : decode bL_law 863 = .ok (.aload_n 1, 1) := by decide +kernel
theorem dL_law_864 : decode bL_law 864 = .ok (.invokevirtual 113, 3) := by decide +kernel
theorem dL_law_867 : decode bL_law 867 = .ok (.aload_n 2, 1) := by decide +kernel
theorem dL_law_868 : decode bL_law 868 = .ok (.invokevirtual 116, 3) := by decide +kernel
theorem dL_law_871 : decode bL_law 871 = .ok (.if_icmp .eq 54, 3) := by decide +kernel
theorem dL_law_874 : decode bL_law 874 = .ok (.iconst 0, 1) := by decide +kernel
theorem dL_law_875 : decode bL_law 875 = .ok (.ireturn, 1) := by decide +kernel
theorem dL_law_876 : decode bL_law 876 = .ok (.aload_n 1, 1) := by decide +kernel
theorem dL_law_877 : decode bL_law 877 = .ok (.aload_n 0, 1) := by decide +kernel
theorem dL_law_878 : decode bL_law 878 = .ok (.iload 4, 2) := by decide +kernel
theorem dL_law_880 : decode bL_law 880 = .ok (.iconst 1, 1) := by decide +kernel
theorem dL_law_881 : decode bL_law 881 = .ok (.iadd, 1) := by decide +kernel
theorem dL_law_882 : decode bL_law 882 = .ok (.iaload, 1) := by decide +kernel
theorem dL_law_883 : decode bL_law 883 = .ok (.aload_n 0, 1) := by decide +kernel
theorem dL_law_884 : decode bL_law 884 = .ok (.iload 4, 2) := by decide +kernel
theorem dL_law_886 : decode bL_law 886 = .ok (.iconst 2, 1) := by decide +kernel
theorem dL_law_887 : decode bL_law 887 = .ok (.iadd, 1) := by decide +kernel
theorem dL_law_888 : decode bL_law 888 = .ok (.iaload, 1) := by decide +kernel
theorem dL_law_889 : decode bL_law 889 = .ok (.aload_n 0, 1) := by decide +kernel
theorem dL_law_890 : decode bL_law 890 = .ok (.iload 4, 2) := by decide +kernel
theorem dL_law_892 : decode bL_law 892 = .ok (.iconst 3, 1) := by decide +kernel
theorem dL_law_893 : decode bL_law 893 = .ok (.iadd, 1) := by decide +kernel
theorem dL_law_894 : decode bL_law 894 = .ok (.iaload, 1) := by decide +kernel
theorem dL_law_895 : decode bL_law 895 = .ok (.invokevirtual 117, 3) := by decide +kernel
theorem dL_law_898 : decode bL_law 898 = .ok (.aload_n 2, 1) := by decide +kernel
theorem dL_law_899 : decode bL_law 899 = .ok (.aload_n 0, 1) := by decide +kernel
theorem dL_law_900 : decode bL_law 900 = .ok (.iload 4, 2) := by decide +kernel
theorem dL_law_902 : decode bL_law 902 = .ok (.iconst 1, 1) := by decide +kernel
theorem dL_law_903 : decode bL_law 903 = .ok (.iadd, 1) := by decide +kernel
theorem dL_law_904 : decode bL_law 904 = .ok (.iaload, 1) := by decide +kernel
theorem dL_law_905 : decode bL_law 905 = .ok (.aload_n 0, 1) := by decide +kernel
theorem dL_law_906 : decode bL_law 906 = .ok (.iload 4, 2) := by decide +kernel
theorem dL_law_908 : decode bL_law 908 = .ok (.iconst 2, 1) := by decide +kernel
theorem dL_law_909 : decode bL_law 909 = .ok (.iadd, 1) := by decide +kernel
theorem dL_law_910 : decode bL_law 910 = .ok (.iaload, 1) := by decide +kernel
theorem dL_law_911 : decode bL_law 911 = .ok (.aload_n 0, 1) := by decide +kernel
theorem dL_law_912 : decode bL_law 912 = .ok (.iload 4, 2) := by decide +kernel
theorem dL_law_914 : decode bL_law 914 = .ok (.iconst 3, 1) := by decide +kernel
theorem dL_law_915 : decode bL_law 915 = .ok (.iadd, 1) := by decide +kernel
theorem dL_law_916 : decode bL_law 916 = .ok (.iaload, 1) := by decide +kernel
theorem dL_law_917 : decode bL_law 917 = .ok (.invokevirtual 121, 3) := by decide +kernel
theorem dL_law_920 : decode bL_law 920 = .ok (.if_icmp .eq 5, 3) := by decide +kernel
theorem dL_law_923 : decode bL_law 923 = .ok (.iconst 0, 1) := by decide +kernel
theorem dL_law_924 : decode bL_law 924 = .ok (.ireturn, 1) := by decide +kernel
theorem dL_law_925 : decode bL_law 925 = .ok (.iinc 4 5, 3) := by decide +kernel
theorem dL_law_928 : decode bL_law 928 = .ok (.goto (-905), 3) := by decide +kernel
theorem dL_law_931 : decode bL_law 931 = .ok (.iconst 1, 1) := by decide +kernel
theorem dL_law_932 : decode bL_law 932 = .ok (.ireturn, 1) := by decide +kernel
