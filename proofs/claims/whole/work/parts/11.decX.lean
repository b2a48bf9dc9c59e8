theorem dX_init_0 : decode bX_init 0 = .ok (.aload_n 0, 1) := by decide +kernel
theorem dX_init_1 : decode bX_init 1 = .ok (.invokespecial 3, 3) := by decide +kernel
theorem dX_init_4 : decode bX_init 4 = .ok (.aload_n 0, 1) := by decide +kernel
theorem dX_init_5 : decode bX_init 5 = .ok (.sipush 384, 3) := by decide +kernel
theorem dX_init_8 : decode bX_init 8 = .ok (.newarray .int, 2) := by decide +kernel
theorem dX_init_10 : decode bX_init 10 = .ok (.putfield 9, 3) := by decide +kernel
theorem dX_init_13 : decode bX_init 13 = .ok (.aload_n 0, 1) := by decide +kernel
theorem dX_init_14 : decode bX_init 14 = .ok (.bipush 64, 2) := by decide +kernel
theorem dX_init_16 : decode bX_init 16 = .ok (.newarray .long, 2) := by decide +kernel
theorem dX_init_18 : decode bX_init 18 = .ok (.putfield 13, 3) := by decide +kernel
theorem dX_init_21 : decode bX_init 21 = .ok (.aload_n 0, 1) := by decide +kernel
theorem dX_init_22 : decode bX_init 22 = .ok (.bipush 64, 2) := by decide +kernel
theorem dX_init_24 : decode bX_init 24 = .ok (.newarray .int, 2) := by decide +kernel
theorem dX_init_26 : decode bX_init 26 = .ok (.putfield 17, 3) := by decide +kernel
theorem dX_init_29 : decode bX_init 29 = .ok (.aload_n 0, 1) := by decide +kernel
theorem dX_init_30 : decode bX_init 30 = .ok (.bipush 64, 2) := by decide +kernel
theorem dX_init_32 : decode bX_init 32 = .ok (.newarray .int, 2) := by decide +kernel
theorem dX_init_34 : decode bX_init 34 = .ok (.putfield 20, 3) := by decide +kernel
theorem dX_init_37 : decode bX_init 37 = .ok (.aload_n 0, 1) := by decide +kernel
theorem dX_init_38 : decode bX_init 38 = .ok (.iconst (-1), 1) := by decide +kernel
theorem dX_init_39 : decode bX_init 39 = .ok (.putfield 23, 3) := by decide +kernel
theorem dX_init_42 : decode bX_init 42 = .ok (.return_, 1) := by decide +kernel
theorem dX_post_0 : decode bX_post 0 = .ok (.aload_n 0, 1) := by decide +kernel
theorem dX_post_1 : decode bX_post 1 = .ok (.invokevirtual 27, 3) := by decide +kernel
theorem dX_post_4 : decode bX_post 4 = .ok (.iload_n 1, 1) := by decide +kernel
theorem dX_post_5 : decode bX_post 5 = .ok (.invokestatic 30, 3) := by decide +kernel
theorem dX_post_8 : decode bX_post 8 = .ok (.ifCond .eq 32, 3) := by decide +kernel
theorem dX_post_11 : decode bX_post 11 = .ok (.iload_n 2, 1) := by decide +kernel
theorem dX_post_12 : decode bX_post 12 = .ok (.invokestatic 30, 3) := by decide +kernel
theorem dX_post_15 : decode bX_post 15 = .ok (.ifCond .eq 25, 3) := by decide +kernel
theorem dX_post_18 : decode bX_post 18 = .ok (.iload_n 1, 1) := by decide +kernel
theorem dX_post_19 : decode bX_post 19 = .ok (.iload_n 2, 1) := by decide +kernel
theorem dX_post_20 : decode bX_post 20 = .ok (.if_icmp .eq 20, 3) := by decide +kernel
theorem dX_post_23 : decode bX_post 23 = .ok (.iload 4, 2) := by decide +kernel
theorem dX_post_25 : decode bX_post 25 = .ok (.invokestatic 34, 3) := by decide +kernel
theorem dX_post_28 : decode bX_post 28 = .ok (.ifCond .eq 12, 3) := by decide +kernel
theorem dX_post_31 : decode bX_post 31 = .ok (.iload_n 3, 1) := by decide +kernel
theorem dX_post_32 : decode bX_post 32 = .ok (.iconst 1, 1) := by decide +kernel
theorem dX_post_33 : decode bX_post 33 = .ok (.if_icmp .lt 7, 3) := by decide +kernel
theorem dX_post_36 : decode bX_post 36 = .ok (.iconst 1, 1) := by decide +kernel
theorem dX_post_37 : decode bX_post 37 = .ok (.goto 4, 3) := by decide +kernel
theorem dX_post_40 : decode bX_post 40 = .ok (.iconst 0, 1) := by decide +kernel
theorem dX_post_41 : decode bX_post 41 = .ok (.invokestatic 37, 3) := by decide +kernel
theorem dX_post_44 : decode bX_post 44 = .ok (.aload_n 0, 1) := by decide +kernel
theorem dX_post_45 : decode bX_post 45 = .ok (.invokevirtual 41, 3) := by decide +kernel
theorem dX_post_48 : decode bX_post 48 = .ok (.aload_n 0, 1) := by decide +kernel
theorem dX_post_49 : decode bX_post 49 = .ok (.iload_n 1, 1) := by decide +kernel
theorem dX_post_50 : decode bX_post 50 = .ok (.iconst 0, 1) := by decide +kernel
theorem dX_post_51 : decode bX_post 51 = .ok (.iload_n 3, 1) := by decide +kernel
theorem dX_post_52 : decode bX_post 52 = .ok (.invokevirtual 44, 3) := by decide +kernel
theorem dX_post_55 : decode bX_post 55 = .ok (.aload_n 0, 1) := by decide +kernel
theorem dX_post_56 : decode bX_post 56 = .ok (.iload_n 2, 1) := by decide +kernel
theorem dX_post_57 : decode bX_post 57 = .ok (.iconst 0, 1) := by decide +kernel
theorem dX_post_58 : decode bX_post 58 = .ok (.iload_n 3, 1) := by decide +kernel
theorem dX_post_59 : decode bX_post 59 = .ok (.invokevirtual 44, 3) := by decide +kernel
theorem dX_post_62 : decode bX_post 62 = .ok (.aload_n 0, 1) := by decide +kernel
theorem dX_post_63 : decode bX_post 63 = .ok (.getfield 48, 3) := by decide +kernel
theorem dX_post_66 : decode bX_post 66 = .ok (.istore 5, 2) := by decide +kernel
theorem dX_post_68 : decode bX_post 68 = .ok (.aload_n 0, 1) := by decide +kernel
theorem dX_post_69 : decode bX_post 69 = .ok (.iconst 0, 1) := by decide +kernel
theorem dX_post_70 : decode bX_post 70 = .ok (.iload 5, 2) := by decide +kernel
theorem dX_post_72 : decode bX_post 72 = .ok (.iload_n 1, 1) := by decide +kernel
theorem dX_post_73 : decode bX_post 73 = .ok (.iload_n 2, 1) := by decide +kernel
theorem dX_post_74 : decode bX_post 74 = .ok (.iload_n 3, 1) := by decide +kernel
theorem dX_post_75 : decode bX_post 75 = .ok (.iload 4, 2) := by decide +kernel
theorem dX_post_77 : decode bX_post 77 = .ok (.invokevirtual 51, 3) := by decide +kernel
theorem dX_post_80 : decode bX_post 80 = .ok (.pop, 1) := by decide +kernel
theorem dX_post_81 : decode bX_post 81 = .ok (.aload_n 0, 1) := by decide +kernel
theorem dX_post_82 : decode bX_post 82 = .ok (.dup, 1) := by decide +kernel
theorem dX_post_83 : decode bX_post 83 = .ok (.getfield 48, 3) := by decide +kernel
theorem dX_post_86 : decode bX_post 86 = .ok (.iconst 1, 1) := by decide +kernel
theorem dX_post_87 : decode bX_post 87 = .ok (.iadd, 1) := by decide +kernel
theorem dX_post_88 : decode bX_post 88 = .ok (.putfield 48, 3) := by decide +kernel
theorem dX_post_91 : decode bX_post 91 = .ok (.iload 5, 2) := by decide +kernel
theorem dX_post_93 : decode bX_post 93 = .ok (.ireturn, 1) := by decide +kernel
theorem dX_correct_0 : decode bX_correct 0 = .ok (.aload_n 0, 1) := by decide +kernel
theorem dX_correct_1 : decode bX_correct 1 = .ok (.invokevirtual 27, 3) := by decide +kernel
theorem dX_correct_4 : decode bX_correct 4 = .ok (.aload_n 0, 1) := by decide +kernel
theorem dX_correct_5 : decode bX_correct 5 = .ok (.iload_n 1, 1) := by decide +kernel
theorem dX_correct_6 : decode bX_correct 6 = .ok (.invokevirtual 55, 3) := by decide +kernel
theorem dX_correct_9 : decode bX_correct 9 = .ok (.istore_n 3, 1) := by decide +kernel
theorem dX_correct_10 : decode bX_correct 10 = .ok (.iload_n 2, 1) := by decide +kernel
theorem dX_correct_11 : decode bX_correct 11 = .ok (.iconst 1, 1) := by decide +kernel
theorem dX_correct_12 : decode bX_correct 12 = .ok (.if_icmp .lt 7, 3) := by decide +kernel
theorem dX_correct_15 : decode bX_correct 15 = .ok (.iconst 1, 1) := by decide +kernel
theorem dX_correct_16 : decode bX_correct 16 = .ok (.goto 4, 3) := by decide +kernel
theorem dX_correct_19 : decode bX_correct 19 = .ok (.iconst 0, 1) := by decide +kernel
theorem dX_correct_20 : decode bX_correct 20 = .ok (.invokestatic 37, 3) := by decide +kernel
theorem dX_correct_23 : decode bX_correct 23 = .ok (.aload_n 0, 1) := by decide +kernel
theorem dX_correct_24 : decode bX_correct 24 = .ok (.invokevirtual 41, 3) := by decide +kernel
theorem dX_correct_27 : decode bX_correct 27 = .ok (.aload_n 0, 1) := by decide +kernel
theorem dX_correct_28 : decode bX_correct 28 = .ok (.aload_n 0, 1) := by decide +kernel
theorem dX_correct_29 : decode bX_correct 29 = .ok (.iload_n 3, 1) := by decide +kernel
theorem dX_correct_30 : decode bX_correct 30 = .ok (.iconst 2, 1) := by decide +kernel
theorem dX_correct_31 : decode bX_correct 31 = .ok (.invokevirtual 59, 3) := by decide +kernel
theorem dX_correct_34 : decode bX_correct 34 = .ok (.aload_n 0, 1) := by decide +kernel
theorem dX_correct_35 : decode bX_correct 35 = .ok (.iload_n 3, 1) := by decide +kernel
theorem dX_correct_36 : decode bX_correct 36 = .ok (.iconst 4, 1) := by decide +kernel
theorem dX_correct_37 : decode bX_correct 37 = .ok (.invokevirtual 59, 3) := by decide +kernel
theorem dX_correct_40 : decode bX_correct 40 = .ok (.iload_n 2, 1) := by decide +kernel
theorem dX_correct_41 : decode bX_correct 41 = .ok (.invokevirtual 44, 3) := by decide +kernel
theorem dX_correct_44 : decode bX_correct 44 = .ok (.aload_n 0, 1) := by decide +kernel
theorem dX_correct_45 : decode bX_correct 45 = .ok (.aload_n 0, 1) := by decide +kernel
theorem dX_correct_46 : decode bX_correct 46 = .ok (.iload_n 3, 1) := by decide +kernel
theorem dX_correct_47 : decode bX_correct 47 = .ok (.iconst 3, 1) := by decide +kernel
theorem dX_correct_48 : decode bX_correct 48 = .ok (.invokevirtual 59, 3) := by decide +kernel
theorem dX_correct_51 : decode bX_correct 51 = .ok (.aload_n 0, 1) := by decide +kernel
theorem dX_correct_52 : decode bX_correct 52 = .ok (.iload_n 3, 1) := by decide +kernel
theorem dX_correct_53 : decode bX_correct 53 = .ok (.iconst 4, 1) := by decide +kernel
theorem dX_correct_54 : decode bX_correct 54 = .ok (.invokevirtual 59, 3) := by decide +kernel
theorem dX_correct_57 : decode bX_correct 57 = .ok (.iload_n 2, 1) := by decide +kernel
theorem dX_correct_58 : decode bX_correct 58 = .ok (.invokevirtual 44, 3) := by decide +kernel
theorem dX_correct_61 : decode bX_correct 61 = .ok (.aload_n 0, 1) := by decide +kernel
theorem dX_correct_62 : decode bX_correct 62 = .ok (.iload_n 3, 1) := by decide +kernel
theorem dX_correct_63 : decode bX_correct 63 = .ok (.iconst 1, 1) := by decide +kernel
theorem dX_correct_64 : decode bX_correct 64 = .ok (.iload_n 2, 1) := by decide +kernel
theorem dX_correct_65 : decode bX_correct 65 = .ok (.invokevirtual 63, 3) := by decide +kernel
theorem dX_correct_68 : decode bX_correct 68 = .ok (.ireturn, 1) := by decide +kernel
theorem dX_annul_0 : decode bX_annul 0 = .ok (.aload_n 0, 1) := by decide +kernel
theorem dX_annul_1 : decode bX_annul 1 = .ok (.invokevirtual 27, 3) := by decide +kernel
theorem dX_annul_4 : decode bX_annul 4 = .ok (.aload_n 0, 1) := by decide +kernel
theorem dX_annul_5 : decode bX_annul 5 = .ok (.iload_n 1, 1) := by decide +kernel
theorem dX_annul_6 : decode bX_annul 6 = .ok (.invokevirtual 55, 3) := by decide +kernel
theorem dX_annul_9 : decode bX_annul 9 = .ok (.istore_n 2, 1) := by decide +kernel
theorem dX_annul_10 : decode bX_annul 10 = .ok (.aload_n 0, 1) := by decide +kernel
theorem dX_annul_11 : decode bX_annul 11 = .ok (.invokevirtual 41, 3) := by decide +kernel
theorem dX_annul_14 : decode bX_annul 14 = .ok (.aload_n 0, 1) := by decide +kernel
theorem dX_annul_15 : decode bX_annul 15 = .ok (.iload_n 2, 1) := by decide +kernel
theorem dX_annul_16 : decode bX_annul 16 = .ok (.iconst 2, 1) := by decide +kernel
theorem dX_annul_17 : decode bX_annul 17 = .ok (.iconst 0, 1) := by decide +kernel
theorem dX_annul_18 : decode bX_annul 18 = .ok (.invokevirtual 63, 3) := by decide +kernel
theorem dX_annul_21 : decode bX_annul 21 = .ok (.ireturn, 1) := by decide +kernel
theorem dX_balance_0 : decode bX_balance 0 = .ok (.aload_n 0, 1) := by decide +kernel
theorem dX_balance_1 : decode bX_balance 1 = .ok (.invokevirtual 27, 3) := by decide +kernel
theorem dX_balance_4 : decode bX_balance 4 = .ok (.iload_n 1, 1) := by decide +kernel
theorem dX_balance_5 : decode bX_balance 5 = .ok (.invokestatic 30, 3) := by decide +kernel
theorem dX_balance_8 : decode bX_balance 8 = .ok (.ifCond .eq 22, 3) := by decide +kernel
theorem dX_balance_11 : decode bX_balance 11 = .ok (.iload_n 2, 1) := by decide +kernel
theorem dX_balance_12 : decode bX_balance 12 = .ok (.invokestatic 34, 3) := by decide +kernel
theorem dX_balance_15 : decode bX_balance 15 = .ok (.ifCond .eq 15, 3) := by decide +kernel
theorem dX_balance_18 : decode bX_balance 18 = .ok (.aload_n 0, 1) := by decide +kernel
theorem dX_balance_19 : decode bX_balance 19 = .ok (.iload_n 3, 1) := by decide +kernel
theorem dX_balance_20 : decode bX_balance 20 = .ok (.invokevirtual 67, 3) := by decide +kernel
theorem dX_balance_23 : decode bX_balance 23 = .ok (.ifCond .eq 7, 3) := by decide +kernel
theorem dX_balance_26 : decode bX_balance 26 = .ok (.iconst 1, 1) := by decide +kernel
theorem dX_balance_27 : decode bX_balance 27 = .ok (.goto 4, 3) := by decide +kernel
theorem dX_balance_30 : decode bX_balance 30 = .ok (.iconst 0, 1) := by decide +kernel
theorem dX_balance_31 : decode bX_balance 31 = .ok (.invokestatic 37, 3) := by decide +kernel
theorem dX_balance_34 : decode bX_balance 34 = .ok (.aload_n 0, 1) := by decide +kernel
theorem dX_balance_35 : decode bX_balance 35 = .ok (.iload_n 1, 1) := by decide +kernel
theorem dX_balance_36 : decode bX_balance 36 = .ok (.iload_n 2, 1) := by decide +kernel
theorem dX_balance_37 : decode bX_balance 37 = .ok (.iload_n 3, 1) := by decide +kernel
theorem dX_balance_38 : decode bX_balance 38 = .ok (.invokevirtual 70, 3) := by decide +kernel
theorem dX_balance_41 : decode bX_balance 41 = .ok (.ireturn, 1) := by decide +kernel
theorem dX_trial_0 : decode bX_trial 0 = .ok (.aload_n 0, 1) := by decide +kernel
theorem dX_trial_1 : decode bX_trial 1 = .ok (.invokevirtual 27, 3) := by decide +kernel
theorem dX_trial_4 : decode bX_trial 4 = .ok (.iload_n 1, 1) := by decide +kernel
theorem dX_trial_5 : decode bX_trial 5 = .ok (.invokestatic 34, 3) := by decide +kernel
theorem dX_trial_8 : decode bX_trial 8 = .ok (.ifCond .eq 15, 3) := by decide +kernel
theorem dX_trial_11 : decode bX_trial 11 = .ok (.aload_n 0, 1) := by decide +kernel
theorem dX_trial_12 : decode bX_trial 12 = .ok (.iload_n 2, 1) := by decide +kernel
theorem dX_trial_13 : decode bX_trial 13 = .ok (.invokevirtual 67, 3) := by decide +kernel
theorem dX_trial_16 : decode bX_trial 16 = .ok (.ifCond .eq 7, 3) := by decide +kernel
theorem dX_trial_19 : decode bX_trial 19 = .ok (.iconst 1, 1) := by decide +kernel
theorem dX_trial_20 : decode bX_trial 20 = .ok (.goto 4, 3) := by decide +kernel
theorem dX_trial_23 : decode bX_trial 23 = .ok (.iconst 0, 1) := by decide +kernel
theorem dX_trial_24 : decode bX_trial 24 = .ok (.invokestatic 37, 3) := by decide +kernel
theorem dX_trial_27 : decode bX_trial 27 = .ok (.iconst 0, 1) := by decide +kernel
theorem dX_trial_28 : decode bX_trial 28 = .ok (.istore_n 3, 1) := by decide +kernel
theorem dX_trial_29 : decode bX_trial 29 = .ok (.iconst 0, 1) := by decide +kernel
theorem dX_trial_30 : decode bX_trial 30 = .ok (.istore 4, 2) := by decide +kernel
theorem dX_trial_32 : decode bX_trial 32 = .ok (.iload 4, 2) := by decide +kernel
theorem dX_trial_34 : decode bX_trial 34 = .ok (.bipush 16, 2) := by decide +kernel
theorem dX_trial_36 : decode bX_trial 36 = .ok (.if_icmp .ge 20, 3) := by decide +kernel
theorem dX_trial_39 : decode bX_trial 39 = .ok (.iload_n 3, 1) := by decide +kernel
theorem dX_trial_40 : decode bX_trial 40 = .ok (.aload_n 0, 1) := by decide +kernel
theorem dX_trial_41 : decode bX_trial 41 = .ok (.iload 4, 2) := by decide +kernel
theorem dX_trial_43 : decode bX_trial 43 = .ok (.iload_n 1, 1) := by decide +kernel
theorem dX_trial_44 : decode bX_trial 44 = .ok (.iload_n 2, 1) := by decide +kernel
theorem dX_trial_45 : decode bX_trial 45 = .ok (.invokevirtual 70, 3) := by decide +kernel
theorem dX_trial_48 : decode bX_trial 48 = .ok (.iadd, 1) := by decide +kernel
theorem dX_trial_49 : decode bX_trial 49 = .ok (.istore_n 3, 1) := by decide +kernel
theorem dX_trial_50 : decode bX_trial 50 = .ok (.iinc 4 1, 3) := by decide +kernel
theorem dX_trial_53 : decode bX_trial 53 = .ok (.goto (-21), 3) := by decide +kernel
theorem dX_trial_56 : decode bX_trial 56 = .ok (.iload_n 3, 1) := by decide +kernel
theorem dX_trial_57 : decode bX_trial 57 = .ok (.ireturn, 1) := by decide +kernel
theorem dX_turnover_0 : decode bX_turnover 0 = .ok (.aload_n 0, 1) := by decide +kernel
theorem dX_turnover_1 : decode bX_turnover 1 = .ok (.invokevirtual 27, 3) := by decide +kernel
theorem dX_turnover_4 : decode bX_turnover 4 = .ok (.iload_n 1, 1) := by decide +kernel
theorem dX_turnover_5 : decode bX_turnover 5 = .ok (.invokestatic 30, 3) := by decide +kernel
theorem dX_turnover_8 : decode bX_turnover 8 = .ok (.invokestatic 37, 3) := by decide +kernel
theorem dX_turnover_11 : decode bX_turnover 11 = .ok (.aload_n 0, 1) := by decide +kernel
theorem dX_turnover_12 : decode bX_turnover 12 = .ok (.iload_n 1, 1) := by decide +kernel
theorem dX_turnover_13 : decode bX_turnover 13 = .ok (.invokevirtual 73, 3) := by decide +kernel
theorem dX_turnover_16 : decode bX_turnover 16 = .ok (.ireturn, 1) := by decide +kernel
theorem dX_open_0 : decode bX_open 0 = .ok (.aload_n 0, 1) := by decide +kernel
theorem dX_open_1 : decode bX_open 1 = .ok (.invokevirtual 27, 3) := by decide +kernel
theorem dX_open_4 : decode bX_open 4 = .ok (.iload_n 1, 1) := by decide +kernel
theorem dX_open_5 : decode bX_open 5 = .ok (.invokestatic 30, 3) := by decide +kernel
theorem dX_open_8 : decode bX_open 8 = .ok (.ifCond .eq 30, 3) := by decide +kernel
theorem dX_open_11 : decode bX_open 11 = .ok (.iload_n 2, 1) := by decide +kernel
theorem dX_open_12 : decode bX_open 12 = .ok (.invokestatic 34, 3) := by decide +kernel
theorem dX_open_15 : decode bX_open 15 = .ok (.ifCond .eq 23, 3) := by decide +kernel
theorem dX_open_18 : decode bX_open 18 = .ok (.iload_n 3, 1) := by decide +kernel
theorem dX_open_19 : decode bX_open 19 = .ok (.invokestatic 34, 3) := by decide +kernel
theorem dX_open_22 : decode bX_open 22 = .ok (.ifCond .eq 16, 3) := by decide +kernel
theorem dX_open_25 : decode bX_open 25 = .ok (.aload_n 0, 1) := by decide +kernel
theorem dX_open_26 : decode bX_open 26 = .ok (.iload 4, 2) := by decide +kernel
theorem dX_open_28 : decode bX_open 28 = .ok (.invokevirtual 67, 3) := by decide +kernel
theorem dX_open_31 : decode bX_open 31 = .ok (.ifCond .eq 7, 3) := by decide +kernel
theorem dX_open_34 : decode bX_open 34 = .ok (.iconst 1, 1) := by decide +kernel
theorem dX_open_35 : decode bX_open 35 = .ok (.goto 4, 3) := by decide +kernel
theorem dX_open_38 : decode bX_open 38 = .ok (.iconst 0, 1) := by decide +kernel
theorem dX_open_39 : decode bX_open 39 = .ok (.invokestatic 37, 3) := by decide +kernel
theorem dX_open_42 : decode bX_open 42 = .ok (.aload_n 0, 1) := by decide +kernel
theorem dX_open_43 : decode bX_open 43 = .ok (.iconst 0, 1) := by decide +kernel
theorem dX_open_44 : decode bX_open 44 = .ok (.putfield 76, 3) := by decide +kernel
theorem dX_open_47 : decode bX_open 47 = .ok (.aload_n 0, 1) := by decide +kernel
theorem dX_open_48 : decode bX_open 48 = .ok (.iconst 0, 1) := by decide +kernel
theorem dX_open_49 : decode bX_open 49 = .ok (.putfield 79, 3) := by decide +kernel
theorem dX_open_52 : decode bX_open 52 = .ok (.aload_n 0, 1) := by decide +kernel
theorem dX_open_53 : decode bX_open 53 = .ok (.iload_n 1, 1) := by decide +kernel
theorem dX_open_54 : decode bX_open 54 = .ok (.putfield 82, 3) := by decide +kernel
theorem dX_open_57 : decode bX_open 57 = .ok (.aload_n 0, 1) := by decide +kernel
theorem dX_open_58 : decode bX_open 58 = .ok (.iconst (-1), 1) := by decide +kernel
theorem dX_open_59 : decode bX_open 59 = .ok (.putfield 23, 3) := by decide +kernel
theorem dX_open_62 : decode bX_open 62 = .ok (.iconst 0, 1) := by decide +kernel
theorem dX_open_63 : decode bX_open 63 = .ok (.istore 5, 2) := by decide +kernel
theorem dX_open_65 : decode bX_open 65 = .ok (.iload 5, 2) := by decide +kernel
theorem dX_open_67 : decode bX_open 67 = .ok (.iload 4, 2) := by decide +kernel
theorem dX_open_69 : decode bX_open 69 = .ok (.if_icmp .ge 68, 3) := by decide +kernel
theorem dX_open_72 : decode bX_open 72 = .ok (.aload_n 0, 1) := by decide +kernel
theorem dX_open_73 : decode bX_open 73 = .ok (.iload 5, 2) := by decide +kernel
theorem dX_open_75 : decode bX_open 75 = .ok (.iconst 5, 1) := by decide +kernel
theorem dX_open_76 : decode bX_open 76 = .ok (.invokevirtual 59, 3) := by decide +kernel
theorem dX_open_79 : decode bX_open 79 = .ok (.istore 6, 2) := by decide +kernel
theorem dX_open_81 : decode bX_open 81 = .ok (.aload_n 0, 1) := by decide +kernel
theorem dX_open_82 : decode bX_open 82 = .ok (.iload 5, 2) := by decide +kernel
theorem dX_open_84 : decode bX_open 84 = .ok (.iload 4, 2) := by decide +kernel
theorem dX_open_86 : decode bX_open 86 = .ok (.invokevirtual 85, 3) := by decide +kernel
theorem dX_open_89 : decode bX_open 89 = .ok (.ifCond .eq 42, 3) := by decide +kernel
theorem dX_open_92 : decode bX_open 92 = .ok (.aload_n 0, 1) := by decide +kernel
theorem dX_open_93 : decode bX_open 93 = .ok (.iload 5, 2) := by decide +kernel
theorem dX_open_95 : decode bX_open 95 = .ok (.iconst 0, 1) := by decide +kernel
theorem dX_open_96 : decode bX_open 96 = .ok (.invokevirtual 59, 3) := by decide +kernel
theorem dX_open_99 : decode bX_open 99 = .ok (.iconst 2, 1) := by decide +kernel
theorem dX_open_100 : decode bX_open 100 = .ok (.if_icmp .eq 31, 3) := by decide +kernel
theorem dX_open_103 : decode bX_open 103 = .ok (.aload_n 0, 1) := by decide +kernel
theorem dX_open_104 : decode bX_open 104 = .ok (.iload 5, 2) := by decide +kernel
theorem dX_open_106 : decode bX_open 106 = .ok (.iload_n 1, 1) := by decide +kernel
theorem dX_open_107 : decode bX_open 107 = .ok (.invokevirtual 89, 3) := by decide +kernel
theorem dX_open_110 : decode bX_open 110 = .ok (.ifCond .eq 21, 3) := by decide +kernel
theorem dX_open_113 : decode bX_open 113 = .ok (.iload 6, 2) := by decide +kernel
theorem dX_open_115 : decode bX_open 115 = .ok (.iload_n 2, 1) := by decide +kernel
theorem dX_open_116 : decode bX_open 116 = .ok (.if_icmp .lt 15, 3) := by decide +kernel
theorem dX_open_119 : decode bX_open 119 = .ok (.iload 6, 2) := by decide +kernel
theorem dX_open_121 : decode bX_open 121 = .ok (.iload_n 3, 1) := by decide +kernel
theorem dX_open_122 : decode bX_open 122 = .ok (.if_icmp .gt 9, 3) := by decide +kernel
theorem dX_open_125 : decode bX_open 125 = .ok (.aload_n 0, 1) := by decide +kernel
theorem dX_open_126 : decode bX_open 126 = .ok (.iload 5, 2) := by decide +kernel
theorem dX_open_128 : decode bX_open 128 = .ok (.invokevirtual 92, 3) := by decide +kernel
theorem dX_open_131 : decode bX_open 131 = .ok (.iinc 5 1, 3) := by decide +kernel
theorem dX_open_134 : decode bX_open 134 = .ok (.goto (-69), 3) := by decide +kernel
theorem dX_open_137 : decode bX_open 137 = .ok (.aload_n 0, 1) := by decide +kernel
theorem dX_open_138 : decode bX_open 138 = .ok (.getfield 76, 3) := by decide +kernel
theorem dX_open_141 : decode bX_open 141 = .ok (.ireturn, 1) := by decide +kernel
theorem dX_next_0 : decode bX_next 0 = .ok (.aload_n 0, 1) := by decide +kernel
theorem dX_next_1 : decode bX_next 1 = .ok (.invokevirtual 27, 3) := by decide +kernel
theorem dX_next_4 : decode bX_next 4 = .ok (.aload_n 0, 1) := by decide +kernel
theorem dX_next_5 : decode bX_next 5 = .ok (.getfield 79, 3) := by decide +kernel
theorem dX_next_8 : decode bX_next 8 = .ok (.aload_n 0, 1) := by decide +kernel
theorem dX_next_9 : decode bX_next 9 = .ok (.getfield 76, 3) := by decide +kernel
theorem dX_next_12 : decode bX_next 12 = .ok (.if_icmp .lt 10, 3) := by decide +kernel
theorem dX_next_15 : decode bX_next 15 = .ok (.aload_n 0, 1) := by decide +kernel
theorem dX_next_16 : decode bX_next 16 = .ok (.iconst (-1), 1) := by decide +kernel
theorem dX_next_17 : decode bX_next 17 = .ok (.putfield 23, 3) := by decide +kernel
theorem dX_next_20 : decode bX_next 20 = .ok (.iconst (-1), 1) := by decide +kernel
theorem dX_next_21 : decode bX_next 21 = .ok (.ireturn, 1) := by decide +kernel
theorem dX_next_22 : decode bX_next 22 = .ok (.aload_n 0, 1) := by decide +kernel
theorem dX_next_23 : decode bX_next 23 = .ok (.aload_n 0, 1) := by decide +kernel
theorem dX_next_24 : decode bX_next 24 = .ok (.getfield 20, 3) := by decide +kernel
theorem dX_next_27 : decode bX_next 27 = .ok (.aload_n 0, 1) := by decide +kernel
theorem dX_next_28 : decode bX_next 28 = .ok (.getfield 79, 3) := by decide +kernel
theorem dX_next_31 : decode bX_next 31 = .ok (.iaload, 1) := by decide +kernel
theorem dX_next_32 : decode bX_next 32 = .ok (.putfield 23, 3) := by decide +kernel
theorem dX_next_35 : decode bX_next 35 = .ok (.aload_n 0, 1) := by decide +kernel
theorem dX_next_36 : decode bX_next 36 = .ok (.dup, 1) := by decide +kernel
theorem dX_next_37 : decode bX_next 37 = .ok (.getfield 79, 3) := by decide +kernel
theorem dX_next_40 : decode bX_next 40 = .ok (.iconst 1, 1) := by decide +kernel
theorem dX_next_41 : decode bX_next 41 = .ok (.iadd, 1) := by decide +kernel
theorem dX_next_42 : decode bX_next 42 = .ok (.putfield 79, 3) := by decide +kernel
theorem dX_next_45 : decode bX_next 45 = .ok (.aload_n 0, 1) := by decide +kernel
theorem dX_next_46 : decode bX_next 46 = .ok (.aload_n 0, 1) := by decide +kernel
theorem dX_next_47 : decode bX_next 47 = .ok (.getfield 23, 3) := by decide +kernel
theorem dX_next_50 : decode bX_next 50 = .ok (.iconst 1, 1) := by decide +kernel
theorem dX_next_51 : decode bX_next 51 = .ok (.invokevirtual 59, 3) := by decide +kernel
theorem dX_next_54 : decode bX_next 54 = .ok (.ireturn, 1) := by decide +kernel
theorem dX_moved_0 : decode bX_moved 0 = .ok (.aload_n 0, 1) := by decide +kernel
theorem dX_moved_1 : decode bX_moved 1 = .ok (.invokevirtual 27, 3) := by decide +kernel
theorem dX_moved_4 : decode bX_moved 4 = .ok (.aload_n 0, 1) := by decide +kernel
theorem dX_moved_5 : decode bX_moved 5 = .ok (.getfield 23, 3) := by decide +kernel
theorem dX_moved_8 : decode bX_moved 8 = .ok (.iconst (-1), 1) := by decide +kernel
theorem dX_moved_9 : decode bX_moved 9 = .ok (.if_icmp .ne 7, 3) := by decide +kernel
theorem dX_moved_12 : decode bX_moved 12 = .ok (.iconst 0, 1) := by decide +kernel
theorem dX_moved_13 : decode bX_moved 13 = .ok (.goto 15, 3) := by decide +kernel
theorem dX_moved_16 : decode bX_moved 16 = .ok (.aload_n 0, 1) := by decide +kernel
theorem dX_moved_17 : decode bX_moved 17 = .ok (.aload_n 0, 1) := by decide +kernel
theorem dX_moved_18 : decode bX_moved 18 = .ok (.getfield 23, 3) := by decide +kernel
theorem dX_moved_21 : decode bX_moved 21 = .ok (.aload_n 0, 1) := by decide +kernel
theorem dX_moved_22 : decode bX_moved 22 = .ok (.getfield 82, 3) := by decide +kernel
theorem dX_moved_25 : decode bX_moved 25 = .ok (.invokevirtual 96, 3) := by decide +kernel
theorem dX_moved_28 : decode bX_moved 28 = .ok (.ireturn, 1) := by decide +kernel
theorem dX_field_0 : decode bX_field 0 = .ok (.aload_n 0, 1) := by decide +kernel
theorem dX_field_1 : decode bX_field 1 = .ok (.invokevirtual 27, 3) := by decide +kernel
theorem dX_field_4 : decode bX_field 4 = .ok (.iload_n 2, 1) := by decide +kernel
theorem dX_field_5 : decode bX_field 5 = .ok (.invokestatic 99, 3) := by decide +kernel
theorem dX_field_8 : decode bX_field 8 = .ok (.ifCond .eq 11, 3) := by decide +kernel
theorem dX_field_11 : decode bX_field 11 = .ok (.aload_n 0, 1) := by decide +kernel
theorem dX_field_12 : decode bX_field 12 = .ok (.iload_n 3, 1) := by decide +kernel
theorem dX_field_13 : decode bX_field 13 = .ok (.invokevirtual 67, 3) := by decide +kernel
theorem dX_field_16 : decode bX_field 16 = .ok (.ifCond .ne 5, 3) := by decide +kernel
theorem dX_field_19 : decode bX_field 19 = .ok (.iconst (-1), 1) := by decide +kernel
theorem dX_field_20 : decode bX_field 20 = .ok (.ireturn, 1) := by decide +kernel
theorem dX_field_21 : decode bX_field 21 = .ok (.aload_n 0, 1) := by decide +kernel
theorem dX_field_22 : decode bX_field 22 = .ok (.iload_n 1, 1) := by decide +kernel
theorem dX_field_23 : decode bX_field 23 = .ok (.iload_n 3, 1) := by decide +kernel
theorem dX_field_24 : decode bX_field 24 = .ok (.invokevirtual 102, 3) := by decide +kernel
theorem dX_field_27 : decode bX_field 27 = .ok (.istore 4, 2) := by decide +kernel
theorem dX_field_29 : decode bX_field 29 = .ok (.iload 4, 2) := by decide +kernel
theorem dX_field_31 : decode bX_field 31 = .ok (.iconst (-1), 1) := by decide +kernel
theorem dX_field_32 : decode bX_field 32 = .ok (.if_icmp .ne 7, 3) := by decide +kernel
theorem dX_field_35 : decode bX_field 35 = .ok (.iconst (-1), 1) := by decide +kernel
theorem dX_field_36 : decode bX_field 36 = .ok (.goto 10, 3) := by decide +kernel
theorem dX_field_39 : decode bX_field 39 = .ok (.aload_n 0, 1) := by decide +kernel
theorem dX_field_40 : decode bX_field 40 = .ok (.iload 4, 2) := by decide +kernel
theorem dX_field_42 : decode bX_field 42 = .ok (.iload_n 2, 1) := by decide +kernel
theorem dX_field_43 : decode bX_field 43 = .ok (.invokevirtual 59, 3) := by decide +kernel
theorem dX_field_46 : decode bX_field 46 = .ok (.ireturn, 1) := by decide +kernel
theorem dX_entries_0 : decode bX_entries 0 = .ok (.aload_n 0, 1) := by decide +kernel
theorem dX_entries_1 : decode bX_entries 1 = .ok (.invokevirtual 27, 3) := by decide +kernel
theorem dX_entries_4 : decode bX_entries 4 = .ok (.aload_n 0, 1) := by decide +kernel
theorem dX_entries_5 : decode bX_entries 5 = .ok (.getfield 48, 3) := by decide +kernel
theorem dX_entries_8 : decode bX_entries 8 = .ok (.ireturn, 1) := by decide +kernel
theorem dX_clock_0 : decode bX_clock 0 = .ok (.aload_n 0, 1) := by decide +kernel
theorem dX_clock_1 : decode bX_clock 1 = .ok (.getfield 105, 3) := by decide +kernel
theorem dX_clock_4 : decode bX_clock 4 = .ok (.ireturn, 1) := by decide +kernel
theorem dX_head_0 : decode bX_head 0 = .ok (.aload_n 0, 1) := by decide +kernel
theorem dX_head_1 : decode bX_head 1 = .ok (.aload_n 0, 1) := by decide +kernel
theorem dX_head_2 : decode bX_head 2 = .ok (.getfield 105, 3) := by decide +kernel
theorem dX_head_5 : decode bX_head 5 = .ok (.invokevirtual 108, 3) := by decide +kernel
theorem dX_head_8 : decode bX_head 8 = .ok (.lreturn, 1) := by decide +kernel
theorem dX_verify_0 : decode bX_verify 0 = .ok (.iconst 0, 1) := by decide +kernel
theorem dX_verify_1 : decode bX_verify 1 = .ok (.istore_n 1, 1) := by decide +kernel
theorem dX_verify_2 : decode bX_verify 2 = .ok (.iload_n 1, 1) := by decide +kernel
theorem dX_verify_3 : decode bX_verify 3 = .ok (.aload_n 0, 1) := by decide +kernel
theorem dX_verify_4 : decode bX_verify 4 = .ok (.getfield 105, 3) := by decide +kernel
theorem dX_verify_7 : decode bX_verify 7 = .ok (.if_icmp .ge 28, 3) := by decide +kernel
theorem dX_verify_10 : decode bX_verify 10 = .ok (.aload_n 0, 1) := by decide +kernel
theorem dX_verify_11 : decode bX_verify 11 = .ok (.iload_n 1, 1) := by decide +kernel
theorem dX_verify_12 : decode bX_verify 12 = .ok (.invokevirtual 112, 3) := by decide +kernel
theorem dX_verify_15 : decode bX_verify 15 = .ok (.aload_n 0, 1) := by decide +kernel
theorem dX_verify_16 : decode bX_verify 16 = .ok (.getfield 13, 3) := by decide +kernel
theorem dX_verify_19 : decode bX_verify 19 = .ok (.iload_n 1, 1) := by decide +kernel
theorem dX_verify_20 : decode bX_verify 20 = .ok (.laload, 1) := by decide +kernel
theorem dX_verify_21 : decode bX_verify 21 = .ok (.lcmp, 1) := by decide +kernel
theorem dX_verify_22 : decode bX_verify 22 = .ok (.ifCond .eq 7, 3) := by decide +kernel
theorem dX_verify_25 : decode bX_verify 25 = .ok (.iload_n 1, 1) := by decide +kernel
theorem dX_verify_26 : decode bX_verify 26 = .ok (.iconst 1, 1) := by decide +kernel
theorem dX_verify_27 : decode bX_verify 27 = .ok (.iadd, 1) := by decide +kernel
theorem dX_verify_28 : decode bX_verify 28 = .ok (.ireturn, 1) := by decide +kernel
theorem dX_verify_29 : decode bX_verify 29 = .ok (.iinc 1 1, 3) := by decide +kernel
theorem dX_verify_32 : decode bX_verify 32 = .ok (.goto (-30), 3) := by decide +kernel
theorem dX_verify_35 : decode bX_verify 35 = .ok (.iconst 0, 1) := by decide +kernel
theorem dX_verify_36 : decode bX_verify 36 = .ok (.ireturn, 1) := by decide +kernel
theorem dX_tamper_0 : decode bX_tamper 0 = .ok (.aload_n 0, 1) := by decide +kernel
theorem dX_tamper_1 : decode bX_tamper 1 = .ok (.iload_n 1, 1) := by decide +kernel
theorem dX_tamper_2 : decode bX_tamper 2 = .ok (.invokevirtual 115, 3) := by decide +kernel
theorem dX_tamper_5 : decode bX_tamper 5 = .ok (.ifCond .eq 10, 3) := by decide +kernel
theorem dX_tamper_8 : decode bX_tamper 8 = .ok (.iload_n 2, 1) := by decide +kernel
theorem dX_tamper_9 : decode bX_tamper 9 = .ok (.invokestatic 99, 3) := by decide +kernel
theorem dX_tamper_12 : decode bX_tamper 12 = .ok (.ifCond .ne 5, 3) := by decide +kernel
theorem dX_tamper_15 : decode bX_tamper 15 = .ok (.iconst 0, 1) := by decide +kernel
theorem dX_tamper_16 : decode bX_tamper 16 = .ok (.ireturn, 1) := by decide +kernel
theorem dX_tamper_17 : decode bX_tamper 17 = .ok (.aload_n 0, 1) := by decide +kernel
theorem dX_tamper_18 : decode bX_tamper 18 = .ok (.getfield 9, 3) := by decide +kernel
theorem dX_tamper_21 : decode bX_tamper 21 = .ok (.iload_n 1, 1) := by decide +kernel
theorem dX_tamper_22 : decode bX_tamper 22 = .ok (.bipush 6, 2) := by decide +kernel
theorem dX_tamper_24 : decode bX_tamper 24 = .ok (.imul, 1) := by decide +kernel
theorem dX_tamper_25 : decode bX_tamper 25 = .ok (.iload_n 2, 1) := by decide +kernel
theorem dX_tamper_26 : decode bX_tamper 26 = .ok (.iadd, 1) := by decide +kernel
theorem dX_tamper_27 : decode bX_tamper 27 = .ok (.iload_n 3, 1) := by decide +kernel
theorem dX_tamper_28 : decode bX_tamper 28 = .ok (.iastore, 1) := by decide +kernel
theorem dX_tamper_29 : decode bX_tamper 29 = .ok (.aload_n 0, 1) := by decide +kernel
theorem dX_tamper_30 : decode bX_tamper 30 = .ok (.iconst 1, 1) := by decide +kernel
theorem dX_tamper_31 : decode bX_tamper 31 = .ok (.putfield 118, 3) := by decide +kernel
theorem dX_tamper_34 : decode bX_tamper 34 = .ok (.iconst 1, 1) := by decide +kernel
theorem dX_tamper_35 : decode bX_tamper 35 = .ok (.ireturn, 1) := by decide +kernel
theorem dX_isAccount_0 : decode bX_isAccount 0 = .ok (.iload_n 0, 1) := by decide +kernel
theorem dX_isAccount_1 : decode bX_isAccount 1 = .ok (.ifCond .lt 13, 3) := by decide +kernel
theorem dX_isAccount_4 : decode bX_isAccount 4 = .ok (.iload_n 0, 1) := by decide +kernel
theorem dX_isAccount_5 : decode bX_isAccount 5 = .ok (.bipush 16, 2) := by decide +kernel
theorem dX_isAccount_7 : decode bX_isAccount 7 = .ok (.if_icmp .ge 7, 3) := by decide +kernel
theorem dX_isAccount_10 : decode bX_isAccount 10 = .ok (.iconst 1, 1) := by decide +kernel
theorem dX_isAccount_11 : decode bX_isAccount 11 = .ok (.goto 4, 3) := by decide +kernel
theorem dX_isAccount_14 : decode bX_isAccount 14 = .ok (.iconst 0, 1) := by decide +kernel
theorem dX_isAccount_15 : decode bX_isAccount 15 = .ok (.ireturn, 1) := by decide +kernel
theorem dX_isDay_0 : decode bX_isDay 0 = .ok (.iload_n 0, 1) := by decide +kernel
theorem dX_isDay_1 : decode bX_isDay 1 = .ok (.ifCond .lt 14, 3) := by decide +kernel
theorem dX_isDay_4 : decode bX_isDay 4 = .ok (.iload_n 0, 1) := by decide +kernel
theorem dX_isDay_5 : decode bX_isDay 5 = .ok (.sipush 1000, 3) := by decide +kernel
theorem dX_isDay_8 : decode bX_isDay 8 = .ok (.if_icmp .ge 7, 3) := by decide +kernel
theorem dX_isDay_11 : decode bX_isDay 11 = .ok (.iconst 1, 1) := by decide +kernel
theorem dX_isDay_12 : decode bX_isDay 12 = .ok (.goto 4, 3) := by decide +kernel
theorem dX_isDay_15 : decode bX_isDay 15 = .ok (.iconst 0, 1) := by decide +kernel
theorem dX_isDay_16 : decode bX_isDay 16 = .ok (.ireturn, 1) := by decide +kernel
theorem dX_isWord_0 : decode bX_isWord 0 = .ok (.iload_n 0, 1) := by decide +kernel
theorem dX_isWord_1 : decode bX_isWord 1 = .ok (.ifCond .lt 13, 3) := by decide +kernel
theorem dX_isWord_4 : decode bX_isWord 4 = .ok (.iload_n 0, 1) := by decide +kernel
theorem dX_isWord_5 : decode bX_isWord 5 = .ok (.bipush 6, 2) := by decide +kernel
theorem dX_isWord_7 : decode bX_isWord 7 = .ok (.if_icmp .ge 7, 3) := by decide +kernel
theorem dX_isWord_10 : decode bX_isWord 10 = .ok (.iconst 1, 1) := by decide +kernel
theorem dX_isWord_11 : decode bX_isWord 11 = .ok (.goto 4, 3) := by decide +kernel
theorem dX_isWord_14 : decode bX_isWord 14 = .ok (.iconst 0, 1) := by decide +kernel
theorem dX_isWord_15 : decode bX_isWord 15 = .ok (.ireturn, 1) := by decide +kernel
theorem dX_isTime_0 : decode bX_isTime 0 = .ok (.iload_n 1, 1) := by decide +kernel
theorem dX_isTime_1 : decode bX_isTime 1 = .ok (.ifCond .lt 15, 3) := by decide +kernel
theorem dX_isTime_4 : decode bX_isTime 4 = .ok (.iload_n 1, 1) := by decide +kernel
theorem dX_isTime_5 : decode bX_isTime 5 = .ok (.aload_n 0, 1) := by decide +kernel
theorem dX_isTime_6 : decode bX_isTime 6 = .ok (.getfield 105, 3) := by decide +kernel
theorem dX_isTime_9 : decode bX_isTime 9 = .ok (.if_icmp .gt 7, 3) := by decide +kernel
theorem dX_isTime_12 : decode bX_isTime 12 = .ok (.iconst 1, 1) := by decide +kernel
theorem dX_isTime_13 : decode bX_isTime 13 = .ok (.goto 4, 3) := by decide +kernel
theorem dX_isTime_16 : decode bX_isTime 16 = .ok (.iconst 0, 1) := by decide +kernel
theorem dX_isTime_17 : decode bX_isTime 17 = .ok (.ireturn, 1) := by decide +kernel
theorem dX_isVersion_0 : decode bX_isVersion 0 = .ok (.iload_n 1, 1) := by decide +kernel
theorem dX_isVersion_1 : decode bX_isVersion 1 = .ok (.ifCond .lt 15, 3) := by decide +kernel
theorem dX_isVersion_4 : decode bX_isVersion 4 = .ok (.iload_n 1, 1) := by decide +kernel
theorem dX_isVersion_5 : decode bX_isVersion 5 = .ok (.aload_n 0, 1) := by decide +kernel
theorem dX_isVersion_6 : decode bX_isVersion 6 = .ok (.getfield 105, 3) := by decide +kernel
theorem dX_isVersion_9 : decode bX_isVersion 9 = .ok (.if_icmp .ge 7, 3) := by decide +kernel
theorem dX_isVersion_12 : decode bX_isVersion 12 = .ok (.iconst 1, 1) := by decide +kernel
theorem dX_isVersion_13 : decode bX_isVersion 13 = .ok (.goto 4, 3) := by decide +kernel
theorem dX_isVersion_16 : decode bX_isVersion 16 = .ok (.iconst 0, 1) := by decide +kernel
theorem dX_isVersion_17 : decode bX_isVersion 17 = .ok (.ireturn, 1) := by decide +kernel
theorem dX_refuseIfTampered_0 : decode bX_refuseIfTampered 0 = .ok (.aload_n 0, 1) := by decide +kernel
theorem dX_refuseIfTampered_1 : decode bX_refuseIfTampered 1 = .ok (.getfield 118, 3) := by decide +kernel
theorem dX_refuseIfTampered_4 : decode bX_refuseIfTampered 4 = .ok (.ifCond .eq 13, 3) := by decide +kernel
theorem dX_refuseIfTampered_7 : decode bX_refuseIfTampered 7 = .ok (.new 122, 3) := by decide +kernel
theorem dX_refuseIfTampered_10 : decode bX_refuseIfTampered 10 = .ok (.dup, 1) := by decide +kernel
theorem dX_refuseIfTampered_11 : decode bX_refuseIfTampered 11 = .ok (.ldc 124, 2) := by decide +kernel
theorem dX_refuseIfTampered_13 : decode bX_refuseIfTampered 13 = .ok (.invokespecial 126, 3) := by decide +kernel
theorem dX_refuseIfTampered_16 : decode bX_refuseIfTampered 16 = .ok (.athrow, 1) := by decide +kernel
theorem dX_refuseIfTampered_17 : decode bX_refuseIfTampered 17 = .ok (.return_, 1) := by decide +kernel
theorem dX_refuseArgumentsUnless_0 : decode bX_refuseArgumentsUnless 0 = .ok (.iload_n 0, 1) := by decide +kernel
theorem dX_refuseArgumentsUnless_1 : decode bX_refuseArgumentsUnless 1 = .ok (.ifCond .ne 13, 3) := by decide +kernel
theorem dX_refuseArgumentsUnless_4 : decode bX_refuseArgumentsUnless 4 = .ok (.new 129, 3) := by decide +kernel
theorem dX_refuseArgumentsUnless_7 : decode bX_refuseArgumentsUnless 7 = .ok (.dup, 1) := by decide +kernel
theorem dX_refuseArgumentsUnless_8 : decode bX_refuseArgumentsUnless 8 = .ok (.ldc 131, 2) := by decide +kernel
theorem dX_refuseArgumentsUnless_10 : decode bX_refuseArgumentsUnless 10 = .ok (.invokespecial 133, 3) := by decide +kernel
theorem dX_refuseArgumentsUnless_13 : decode bX_refuseArgumentsUnless 13 = .ok (.athrow, 1) := by decide +kernel
theorem dX_refuseArgumentsUnless_14 : decode bX_refuseArgumentsUnless 14 = .ok (.return_, 1) := by decide +kernel
theorem dX_refuseIfFull_0 : decode bX_refuseIfFull 0 = .ok (.aload_n 0, 1) := by decide +kernel
theorem dX_refuseIfFull_1 : decode bX_refuseIfFull 1 = .ok (.getfield 105, 3) := by decide +kernel
theorem dX_refuseIfFull_4 : decode bX_refuseIfFull 4 = .ok (.bipush 64, 2) := by decide +kernel
theorem dX_refuseIfFull_6 : decode bX_refuseIfFull 6 = .ok (.if_icmp .lt 13, 3) := by decide +kernel
theorem dX_refuseIfFull_9 : decode bX_refuseIfFull 9 = .ok (.new 134, 3) := by decide +kernel
theorem dX_refuseIfFull_12 : decode bX_refuseIfFull 12 = .ok (.dup, 1) := by decide +kernel
theorem dX_refuseIfFull_13 : decode bX_refuseIfFull 13 = .ok (.ldc 136, 2) := by decide +kernel
theorem dX_refuseIfFull_15 : decode bX_refuseIfFull 15 = .ok (.invokespecial 138, 3) := by decide +kernel
theorem dX_refuseIfFull_18 : decode bX_refuseIfFull 18 = .ok (.athrow, 1) := by decide +kernel
theorem dX_refuseIfFull_19 : decode bX_refuseIfFull 19 = .ok (.return_, 1) := by decide +kernel
theorem dX_refuseIfTurnoverTooHigh_0 : decode bX_refuseIfTurnoverTooHigh 0 = .ok (.aload_n 0, 1) := by decide +kernel
theorem dX_refuseIfTurnoverTooHigh_1 : decode bX_refuseIfTurnoverTooHigh 1 = .ok (.iload_n 1, 1) := by decide +kernel
theorem dX_refuseIfTurnoverTooHigh_2 : decode bX_refuseIfTurnoverTooHigh 2 = .ok (.invokevirtual 73, 3) := by decide +kernel
theorem dX_refuseIfTurnoverTooHigh_5 : decode bX_refuseIfTurnoverTooHigh 5 = .ok (.i2l, 1) := by decide +kernel
theorem dX_refuseIfTurnoverTooHigh_6 : decode bX_refuseIfTurnoverTooHigh 6 = .ok (.iload_n 2, 1) := by decide +kernel
theorem dX_refuseIfTurnoverTooHigh_7 : decode bX_refuseIfTurnoverTooHigh 7 = .ok (.i2l, 1) := by decide +kernel
theorem dX_refuseIfTurnoverTooHigh_8 : decode bX_refuseIfTurnoverTooHigh 8 = .ok (.lsub, 1) := by decide +kernel
theorem dX_refuseIfTurnoverTooHigh_9 : decode bX_refuseIfTurnoverTooHigh 9 = .ok (.iload_n 3, 1) := by decide +kernel
theorem dX_refuseIfTurnoverTooHigh_10 : decode bX_refuseIfTurnoverTooHigh 10 = .ok (.i2l, 1) := by decide +kernel
theorem dX_refuseIfTurnoverTooHigh_11 : decode bX_refuseIfTurnoverTooHigh 11 = .ok (.ladd, 1) := by decide +kernel
theorem dX_refuseIfTurnoverTooHigh_12 : decode bX_refuseIfTurnoverTooHigh 12 = .ok (.lstore 4, 2) := by decide +kernel
theorem dX_refuseIfTurnoverTooHigh_14 : decode bX_refuseIfTurnoverTooHigh 14 = .ok (.lload 4, 2) := by decide +kernel
theorem dX_refuseIfTurnoverTooHigh_16 : decode bX_refuseIfTurnoverTooHigh 16 = .ok (.ldc2_w 139, 3) := by decide +kernel
theorem dX_refuseIfTurnoverTooHigh_19 : decode bX_refuseIfTurnoverTooHigh 19 = .ok (.lcmp, 1) := by decide +kernel
theorem dX_refuseIfTurnoverTooHigh_20 : decode bX_refuseIfTurnoverTooHigh 20 = .ok (.ifCond .le 13, 3) := by decide +kernel
theorem dX_refuseIfTurnoverTooHigh_23 : decode bX_refuseIfTurnoverTooHigh 23 = .ok (.new 141, 3) := by decide +kernel
theorem dX_refuseIfTurnoverTooHigh_26 : decode bX_refuseIfTurnoverTooHigh 26 = .ok (.dup, 1) := by decide +kernel
theorem dX_refuseIfTurnoverTooHigh_27 : decode bX_refuseIfTurnoverTooHigh 27 = .ok (.ldc 143, 2) := by decide +kernel
theorem dX_refuseIfTurnoverTooHigh_29 : decode bX_refuseIfTurnoverTooHigh 29 = .ok (.invokespecial 145, 3) := by decide +kernel
theorem dX_refuseIfTurnoverTooHigh_32 : decode bX_refuseIfTurnoverTooHigh 32 = .ok (.athrow, 1) := by decide +kernel
theorem dX_refuseIfTurnoverTooHigh_33 : decode bX_refuseIfTurnoverTooHigh 33 = .ok (.return_, 1) := by decide +kernel
theorem dX_versionToReplace_0 : decode bX_versionToReplace 0 = .ok (.aload_n 0, 1) := by decide +kernel
theorem dX_versionToReplace_1 : decode bX_versionToReplace 1 = .ok (.iload_n 1, 1) := by decide +kernel
theorem dX_versionToReplace_2 : decode bX_versionToReplace 2 = .ok (.aload_n 0, 1) := by decide +kernel
theorem dX_versionToReplace_3 : decode bX_versionToReplace 3 = .ok (.getfield 105, 3) := by decide +kernel
theorem dX_versionToReplace_6 : decode bX_versionToReplace 6 = .ok (.invokevirtual 102, 3) := by decide +kernel
theorem dX_versionToReplace_9 : decode bX_versionToReplace 9 = .ok (.istore_n 2, 1) := by decide +kernel
theorem dX_versionToReplace_10 : decode bX_versionToReplace 10 = .ok (.iload_n 2, 1) := by decide +kernel
theorem dX_versionToReplace_11 : decode bX_versionToReplace 11 = .ok (.iconst (-1), 1) := by decide +kernel
theorem dX_versionToReplace_12 : decode bX_versionToReplace 12 = .ok (.if_icmp .eq 13, 3) := by decide +kernel
theorem dX_versionToReplace_15 : decode bX_versionToReplace 15 = .ok (.aload_n 0, 1) := by decide +kernel
theorem dX_versionToReplace_16 : decode bX_versionToReplace 16 = .ok (.iload_n 2, 1) := by decide +kernel
theorem dX_versionToReplace_17 : decode bX_versionToReplace 17 = .ok (.iconst 0, 1) := by decide +kernel
theorem dX_versionToReplace_18 : decode bX_versionToReplace 18 = .ok (.invokevirtual 59, 3) := by decide +kernel
theorem dX_versionToReplace_21 : decode bX_versionToReplace 21 = .ok (.iconst 2, 1) := by decide +kernel
theorem dX_versionToReplace_22 : decode bX_versionToReplace 22 = .ok (.if_icmp .ne 13, 3) := by decide +kernel
theorem dX_versionToReplace_25 : decode bX_versionToReplace 25 = .ok (.new 146, 3) := by decide +kernel
theorem dX_versionToReplace_28 : decode bX_versionToReplace 28 = .ok (.dup, 1) := by decide +kernel
theorem dX_versionToReplace_29 : decode bX_versionToReplace 29 = .ok (.ldc 148, 2) := by decide +kernel
theorem dX_versionToReplace_31 : decode bX_versionToReplace 31 = .ok (.invokespecial 150, 3) := by decide +kernel
theorem dX_versionToReplace_34 : decode bX_versionToReplace 34 = .ok (.athrow, 1) := by decide +kernel
theorem dX_versionToReplace_35 : decode bX_versionToReplace 35 = .ok (.iload_n 2, 1) := by decide +kernel
theorem dX_versionToReplace_36 : decode bX_versionToReplace 36 = .ok (.ireturn, 1) := by decide +kernel
theorem dX_word_0 : decode bX_word 0 = .ok (.aload_n 0, 1) := by decide +kernel
theorem dX_word_1 : decode bX_word 1 = .ok (.getfield 9, 3) := by decide +kernel
theorem dX_word_4 : decode bX_word 4 = .ok (.iload_n 1, 1) := by decide +kernel
theorem dX_word_5 : decode bX_word 5 = .ok (.bipush 6, 2) := by decide +kernel
theorem dX_word_7 : decode bX_word 7 = .ok (.imul, 1) := by decide +kernel
theorem dX_word_8 : decode bX_word 8 = .ok (.iload_n 2, 1) := by decide +kernel
theorem dX_word_9 : decode bX_word 9 = .ok (.iadd, 1) := by decide +kernel
theorem dX_word_10 : decode bX_word 10 = .ok (.iaload, 1) := by decide +kernel
theorem dX_word_11 : decode bX_word 11 = .ok (.ireturn, 1) := by decide +kernel
theorem dX_isCurrent_0 : decode bX_isCurrent 0 = .ok (.iload_n 1, 1) := by decide +kernel
theorem dX_isCurrent_1 : decode bX_isCurrent 1 = .ok (.iload_n 2, 1) := by decide +kernel
theorem dX_isCurrent_2 : decode bX_isCurrent 2 = .ok (.if_icmp .ge 17, 3) := by decide +kernel
theorem dX_isCurrent_5 : decode bX_isCurrent 5 = .ok (.aload_n 0, 1) := by decide +kernel
theorem dX_isCurrent_6 : decode bX_isCurrent 6 = .ok (.getfield 17, 3) := by decide +kernel
theorem dX_isCurrent_9 : decode bX_isCurrent 9 = .ok (.iload_n 1, 1) := by decide +kernel
theorem dX_isCurrent_10 : decode bX_isCurrent 10 = .ok (.iaload, 1) := by decide +kernel
theorem dX_isCurrent_11 : decode bX_isCurrent 11 = .ok (.iload_n 2, 1) := by decide +kernel
theorem dX_isCurrent_12 : decode bX_isCurrent 12 = .ok (.if_icmp .lt 7, 3) := by decide +kernel
theorem dX_isCurrent_15 : decode bX_isCurrent 15 = .ok (.iconst 1, 1) := by decide +kernel
theorem dX_isCurrent_16 : decode bX_isCurrent 16 = .ok (.goto 4, 3) := by decide +kernel
theorem dX_isCurrent_19 : decode bX_isCurrent 19 = .ok (.iconst 0, 1) := by decide +kernel
theorem dX_isCurrent_20 : decode bX_isCurrent 20 = .ok (.ireturn, 1) := by decide +kernel
theorem dX_touches_0 : decode bX_touches 0 = .ok (.aload_n 0, 1) := by decide +kernel
theorem dX_touches_1 : decode bX_touches 1 = .ok (.iload_n 1, 1) := by decide +kernel
theorem dX_touches_2 : decode bX_touches 2 = .ok (.iconst 2, 1) := by decide +kernel
theorem dX_touches_3 : decode bX_touches 3 = .ok (.invokevirtual 59, 3) := by decide +kernel
theorem dX_touches_6 : decode bX_touches 6 = .ok (.iload_n 2, 1) := by decide +kernel
theorem dX_touches_7 : decode bX_touches 7 = .ok (.if_icmp .eq 13, 3) := by decide +kernel
theorem dX_touches_10 : decode bX_touches 10 = .ok (.aload_n 0, 1) := by decide +kernel
theorem dX_touches_11 : decode bX_touches 11 = .ok (.iload_n 1, 1) := by decide +kernel
theorem dX_touches_12 : decode bX_touches 12 = .ok (.iconst 3, 1) := by decide +kernel
theorem dX_touches_13 : decode bX_touches 13 = .ok (.invokevirtual 59, 3) := by decide +kernel
theorem dX_touches_16 : decode bX_touches 16 = .ok (.iload_n 2, 1) := by decide +kernel
theorem dX_touches_17 : decode bX_touches 17 = .ok (.if_icmp .ne 7, 3) := by decide +kernel
theorem dX_touches_20 : decode bX_touches 20 = .ok (.iconst 1, 1) := by decide +kernel
theorem dX_touches_21 : decode bX_touches 21 = .ok (.goto 4, 3) := by decide +kernel
theorem dX_touches_24 : decode bX_touches 24 = .ok (.iconst 0, 1) := by decide +kernel
theorem dX_touches_25 : decode bX_touches 25 = .ok (.ireturn, 1) := by decide +kernel
theorem dX_currentVersion_0 : decode bX_currentVersion 0 = .ok (.iload_n 2, 1) := by decide +kernel
theorem dX_currentVersion_1 : decode bX_currentVersion 1 = .ok (.iconst 1, 1) := by decide +kernel
theorem dX_currentVersion_2 : decode bX_currentVersion 2 = .ok (.isub, 1) := by decide +kernel
theorem dX_currentVersion_3 : decode bX_currentVersion 3 = .ok (.istore_n 3, 1) := by decide +kernel
theorem dX_currentVersion_4 : decode bX_currentVersion 4 = .ok (.iload_n 3, 1) := by decide +kernel
theorem dX_currentVersion_5 : decode bX_currentVersion 5 = .ok (.ifCond .lt 21, 3) := by decide +kernel
theorem dX_currentVersion_8 : decode bX_currentVersion 8 = .ok (.aload_n 0, 1) := by decide +kernel
theorem dX_currentVersion_9 : decode bX_currentVersion 9 = .ok (.iload_n 3, 1) := by decide +kernel
theorem dX_currentVersion_10 : decode bX_currentVersion 10 = .ok (.iconst 1, 1) := by decide +kernel
theorem dX_currentVersion_11 : decode bX_currentVersion 11 = .ok (.invokevirtual 59, 3) := by decide +kernel
theorem dX_currentVersion_14 : decode bX_currentVersion 14 = .ok (.iload_n 1, 1) := by decide +kernel
theorem dX_currentVersion_15 : decode bX_currentVersion 15 = .ok (.if_icmp .ne 5, 3) := by decide +kernel
theorem dX_currentVersion_18 : decode bX_currentVersion 18 = .ok (.iload_n 3, 1) := by decide +kernel
theorem dX_currentVersion_19 : decode bX_currentVersion 19 = .ok (.ireturn, 1) := by decide +kernel
theorem dX_currentVersion_20 : decode bX_currentVersion 20 = .ok (.iinc 3 (-1), 3) := by decide +kernel
theorem dX_currentVersion_23 : decode bX_currentVersion 23 = .ok (.goto (-19), 3) := by decide +kernel
theorem dX_currentVersion_26 : decode bX_currentVersion 26 = .ok (.iconst (-1), 1) := by decide +kernel
theorem dX_currentVersion_27 : decode bX_currentVersion 27 = .ok (.ireturn, 1) := by decide +kernel
theorem dX_movedBy_0 : decode bX_movedBy 0 = .ok (.aload_n 0, 1) := by decide +kernel
theorem dX_movedBy_1 : decode bX_movedBy 1 = .ok (.iload_n 1, 1) := by decide +kernel
theorem dX_movedBy_2 : decode bX_movedBy 2 = .ok (.iconst 2, 1) := by decide +kernel
theorem dX_movedBy_3 : decode bX_movedBy 3 = .ok (.invokevirtual 59, 3) := by decide +kernel
theorem dX_movedBy_6 : decode bX_movedBy 6 = .ok (.iload_n 2, 1) := by decide +kernel
theorem dX_movedBy_7 : decode bX_movedBy 7 = .ok (.if_icmp .ne 10, 3) := by decide +kernel
theorem dX_movedBy_10 : decode bX_movedBy 10 = .ok (.aload_n 0, 1) := by decide +kernel
theorem dX_movedBy_11 : decode bX_movedBy 11 = .ok (.iload_n 1, 1) := by decide +kernel
theorem dX_movedBy_12 : decode bX_movedBy 12 = .ok (.iconst 4, 1) := by decide +kernel
theorem dX_movedBy_13 : decode bX_movedBy 13 = .ok (.invokevirtual 59, 3) := by decide +kernel
theorem dX_movedBy_16 : decode bX_movedBy 16 = .ok (.ireturn, 1) := by decide +kernel
theorem dX_movedBy_17 : decode bX_movedBy 17 = .ok (.aload_n 0, 1) := by decide +kernel
theorem dX_movedBy_18 : decode bX_movedBy 18 = .ok (.iload_n 1, 1) := by decide +kernel
theorem dX_movedBy_19 : decode bX_movedBy 19 = .ok (.iconst 3, 1) := by decide +kernel
theorem dX_movedBy_20 : decode bX_movedBy 20 = .ok (.invokevirtual 59, 3) := by decide +kernel
theorem dX_movedBy_23 : decode bX_movedBy 23 = .ok (.iload_n 2, 1) := by decide +kernel
theorem dX_movedBy_24 : decode bX_movedBy 24 = .ok (.if_icmp .ne 13, 3) := by decide +kernel
theorem dX_movedBy_27 : decode bX_movedBy 27 = .ok (.aload_n 0, 1) := by decide +kernel
theorem dX_movedBy_28 : decode bX_movedBy 28 = .ok (.iload_n 1, 1) := by decide +kernel
theorem dX_movedBy_29 : decode bX_movedBy 29 = .ok (.iconst 4, 1) := by decide +kernel
theorem dX_movedBy_30 : decode bX_movedBy 30 = .ok (.invokevirtual 59, 3) := by decide +kernel
theorem dX_movedBy_33 : decode bX_movedBy 33 = .ok (.ineg, 1) := by decide +kernel
theorem dX_movedBy_34 : decode bX_movedBy 34 = .ok (.goto 4, 3) := by decide +kernel
theorem dX_movedBy_37 : decode bX_movedBy 37 = .ok (.iconst 0, 1) := by decide +kernel
theorem dX_movedBy_38 : decode bX_movedBy 38 = .ok (.ireturn, 1) := by decide +kernel
theorem dX_balanceOf_0 : decode bX_balanceOf 0 = .ok (.iconst 0, 1) := by decide +kernel
theorem dX_balanceOf_1 : decode bX_balanceOf 1 = .ok (.istore 4, 2) := by decide +kernel
theorem dX_balanceOf_3 : decode bX_balanceOf 3 = .ok (.iconst 0, 1) := by decide +kernel
theorem dX_balanceOf_4 : decode bX_balanceOf 4 = .ok (.istore 5, 2) := by decide +kernel
theorem dX_balanceOf_6 : decode bX_balanceOf 6 = .ok (.iload 5, 2) := by decide +kernel
theorem dX_balanceOf_8 : decode bX_balanceOf 8 = .ok (.iload_n 3, 1) := by decide +kernel
theorem dX_balanceOf_9 : decode bX_balanceOf 9 = .ok (.if_icmp .ge 42, 3) := by decide +kernel
theorem dX_balanceOf_12 : decode bX_balanceOf 12 = .ok (.aload_n 0, 1) := by decide +kernel
theorem dX_balanceOf_13 : decode bX_balanceOf 13 = .ok (.iload 5, 2) := by decide +kernel
theorem dX_balanceOf_15 : decode bX_balanceOf 15 = .ok (.iload_n 3, 1) := by decide +kernel
theorem dX_balanceOf_16 : decode bX_balanceOf 16 = .ok (.invokevirtual 85, 3) := by decide +kernel
theorem dX_balanceOf_19 : decode bX_balanceOf 19 = .ok (.ifCond .eq 26, 3) := by decide +kernel
theorem dX_balanceOf_22 : decode bX_balanceOf 22 = .ok (.aload_n 0, 1) := by decide +kernel
theorem dX_balanceOf_23 : decode bX_balanceOf 23 = .ok (.iload 5, 2) := by decide +kernel
theorem dX_balanceOf_25 : decode bX_balanceOf 25 = .ok (.iconst 5, 1) := by decide +kernel
theorem dX_balanceOf_26 : decode bX_balanceOf 26 = .ok (.invokevirtual 59, 3) := by decide +kernel
theorem dX_balanceOf_29 : decode bX_balanceOf 29 = .ok (.iload_n 2, 1) := by decide +kernel
theorem dX_balanceOf_30 : decode bX_balanceOf 30 = .ok (.if_icmp .gt 15, 3) := by decide +kernel
theorem dX_balanceOf_33 : decode bX_balanceOf 33 = .ok (.iload 4, 2) := by decide +kernel
theorem dX_balanceOf_35 : decode bX_balanceOf 35 = .ok (.aload_n 0, 1) := by decide +kernel
theorem dX_balanceOf_36 : decode bX_balanceOf 36 = .ok (.iload 5, 2) := by decide +kernel
theorem dX_balanceOf_38 : decode bX_balanceOf 38 = .ok (.iload_n 1, 1) := by decide +kernel
theorem dX_balanceOf_39 : decode bX_balanceOf 39 = .ok (.invokevirtual 96, 3) := by decide +kernel
theorem dX_balanceOf_42 : decode bX_balanceOf 42 = .ok (.iadd, 1) := by decide +kernel
theorem dX_balanceOf_43 : decode bX_balanceOf 43 = .ok (.istore 4, 2) := by decide +kernel
theorem dX_balanceOf_45 : decode bX_balanceOf 45 = .ok (.iinc 5 1, 3) := by decide +kernel
theorem dX_balanceOf_48 : decode bX_balanceOf 48 = .ok (.goto (-42), 3) := by decide +kernel
theorem dX_balanceOf_51 : decode bX_balanceOf 51 = .ok (.iload 4, 2) := by decide +kernel
theorem dX_balanceOf_53 : decode bX_balanceOf 53 = .ok (.ireturn, 1) := by decide +kernel
theorem dX_turnoverOf_0 : decode bX_turnoverOf 0 = .ok (.iconst 0, 1) := by decide +kernel
theorem dX_turnoverOf_1 : decode bX_turnoverOf 1 = .ok (.istore_n 2, 1) := by decide +kernel
theorem dX_turnoverOf_2 : decode bX_turnoverOf 2 = .ok (.iconst 0, 1) := by decide +kernel
theorem dX_turnoverOf_3 : decode bX_turnoverOf 3 = .ok (.istore_n 3, 1) := by decide +kernel
theorem dX_turnoverOf_4 : decode bX_turnoverOf 4 = .ok (.iload_n 3, 1) := by decide +kernel
theorem dX_turnoverOf_5 : decode bX_turnoverOf 5 = .ok (.aload_n 0, 1) := by decide +kernel
theorem dX_turnoverOf_6 : decode bX_turnoverOf 6 = .ok (.getfield 105, 3) := by decide +kernel
theorem dX_turnoverOf_9 : decode bX_turnoverOf 9 = .ok (.if_icmp .ge 39, 3) := by decide +kernel
theorem dX_turnoverOf_12 : decode bX_turnoverOf 12 = .ok (.aload_n 0, 1) := by decide +kernel
theorem dX_turnoverOf_13 : decode bX_turnoverOf 13 = .ok (.iload_n 3, 1) := by decide +kernel
theorem dX_turnoverOf_14 : decode bX_turnoverOf 14 = .ok (.aload_n 0, 1) := by decide +kernel
theorem dX_turnoverOf_15 : decode bX_turnoverOf 15 = .ok (.getfield 105, 3) := by decide +kernel
theorem dX_turnoverOf_18 : decode bX_turnoverOf 18 = .ok (.invokevirtual 85, 3) := by decide +kernel
theorem dX_turnoverOf_21 : decode bX_turnoverOf 21 = .ok (.ifCond .eq 21, 3) := by decide +kernel
theorem dX_turnoverOf_24 : decode bX_turnoverOf 24 = .ok (.aload_n 0, 1) := by decide +kernel
theorem dX_turnoverOf_25 : decode bX_turnoverOf 25 = .ok (.iload_n 3, 1) := by decide +kernel
theorem dX_turnoverOf_26 : decode bX_turnoverOf 26 = .ok (.iload_n 1, 1) := by decide +kernel
theorem dX_turnoverOf_27 : decode bX_turnoverOf 27 = .ok (.invokevirtual 89, 3) := by decide +kernel
theorem dX_turnoverOf_30 : decode bX_turnoverOf 30 = .ok (.ifCond .eq 12, 3) := by decide +kernel
theorem dX_turnoverOf_33 : decode bX_turnoverOf 33 = .ok (.iload_n 2, 1) := by decide +kernel
theorem dX_turnoverOf_34 : decode bX_turnoverOf 34 = .ok (.aload_n 0, 1) := by decide +kernel
theorem dX_turnoverOf_35 : decode bX_turnoverOf 35 = .ok (.iload_n 3, 1) := by decide +kernel
theorem dX_turnoverOf_36 : decode bX_turnoverOf 36 = .ok (.iconst 4, 1) := by decide +kernel
theorem dX_turnoverOf_37 : decode bX_turnoverOf 37 = .ok (.invokevirtual 59, 3) := by decide +kernel
theorem dX_turnoverOf_40 : decode bX_turnoverOf 40 = .ok (.iadd, 1) := by decide +kernel
theorem dX_turnoverOf_41 : decode bX_turnoverOf 41 = .ok (.istore_n 2, 1) := by decide +kernel
theorem dX_turnoverOf_42 : decode bX_turnoverOf 42 = .ok (.iinc 3 1, 3) := by decide +kernel
theorem dX_turnoverOf_45 : decode bX_turnoverOf 45 = .ok (.goto (-41), 3) := by decide +kernel
theorem dX_turnoverOf_48 : decode bX_turnoverOf 48 = .ok (.iload_n 2, 1) := by decide +kernel
theorem dX_turnoverOf_49 : decode bX_turnoverOf 49 = .ok (.ireturn, 1) := by decide +kernel
theorem dX_append_0 : decode bX_append 0 = .ok (.aload_n 0, 1) := by decide +kernel
theorem dX_append_1 : decode bX_append 1 = .ok (.getfield 105, 3) := by decide +kernel
theorem dX_append_4 : decode bX_append 4 = .ok (.istore 7, 2) := by decide +kernel
theorem dX_append_6 : decode bX_append 6 = .ok (.iload 7, 2) := by decide +kernel
theorem dX_append_8 : decode bX_append 8 = .ok (.bipush 6, 2) := by decide +kernel
theorem dX_append_10 : decode bX_append 10 = .ok (.imul, 1) := by decide +kernel
theorem dX_append_11 : decode bX_append 11 = .ok (.istore 8, 2) := by decide +kernel
theorem dX_append_13 : decode bX_append 13 = .ok (.aload_n 0, 1) := by decide +kernel
theorem dX_append_14 : decode bX_append 14 = .ok (.getfield 9, 3) := by decide +kernel
theorem dX_append_17 : decode bX_append 17 = .ok (.iload 8, 2) := by decide +kernel
theorem dX_append_19 : decode bX_append 19 = .ok (.iconst 0, 1) := by decide +kernel
theorem dX_append_20 : decode bX_append 20 = .ok (.iadd, 1) := by decide +kernel
theorem dX_append_21 : decode bX_append 21 = .ok (.iload_n 1, 1) := by decide +kernel
theorem dX_append_22 : decode bX_append 22 = .ok (.iastore, 1) := by decide +kernel
theorem dX_append_23 : decode bX_append 23 = .ok (.aload_n 0, 1) := by decide +kernel
theorem dX_append_24 : decode bX_append 24 = .ok (.getfield 9, 3) := by decide +kernel
theorem dX_append_27 : decode bX_append 27 = .ok (.iload 8, 2) := by decide +kernel
theorem dX_append_29 : decode bX_append 29 = .ok (.iconst 1, 1) := by decide +kernel
theorem dX_append_30 : decode bX_append 30 = .ok (.iadd, 1) := by decide +kernel
theorem dX_append_31 : decode bX_append 31 = .ok (.iload_n 2, 1) := by decide +kernel
theorem dX_append_32 : decode bX_append 32 = .ok (.iastore, 1) := by decide +kernel
theorem dX_append_33 : decode bX_append 33 = .ok (.aload_n 0, 1) := by decide +kernel
theorem dX_append_34 : decode bX_append 34 = .ok (.getfield 9, 3) := by decide +kernel
theorem dX_append_37 : decode bX_append 37 = .ok (.iload 8, 2) := by decide +kernel
theorem dX_append_39 : decode bX_append 39 = .ok (.iconst 2, 1) := by decide +kernel
theorem dX_append_40 : decode bX_append 40 = .ok (.iadd, 1) := by decide +kernel
theorem dX_append_41 : decode bX_append 41 = .ok (.iload_n 3, 1) := by decide +kernel
theorem dX_append_42 : decode bX_append 42 = .ok (.iastore, 1) := by decide +kernel
theorem dX_append_43 : decode bX_append 43 = .ok (.aload_n 0, 1) := by decide +kernel
theorem dX_append_44 : decode bX_append 44 = .ok (.getfield 9, 3) := by decide +kernel
theorem dX_append_47 : decode bX_append 47 = .ok (.iload 8, 2) := by decide +kernel
theorem dX_append_49 : decode bX_append 49 = .ok (.iconst 3, 1) := by decide +kernel
theorem dX_append_50 : decode bX_append 50 = .ok (.iadd, 1) := by decide +kernel
theorem dX_append_51 : decode bX_append 51 = .ok (.iload 4, 2) := by decide +kernel
theorem dX_append_53 : decode bX_append 53 = .ok (.iastore, 1) := by decide +kernel
theorem dX_append_54 : decode bX_append 54 = .ok (.aload_n 0, 1) := by decide +kernel
theorem dX_append_55 : decode bX_append 55 = .ok (.getfield 9, 3) := by decide +kernel
theorem dX_append_58 : decode bX_append 58 = .ok (.iload 8, 2) := by decide +kernel
theorem dX_append_60 : decode bX_append 60 = .ok (.iconst 4, 1) := by decide +kernel
theorem dX_append_61 : decode bX_append 61 = .ok (.iadd, 1) := by decide +kernel
theorem dX_append_62 : decode bX_append 62 = .ok (.iload 5, 2) := by decide +kernel
theorem dX_append_64 : decode bX_append 64 = .ok (.iastore, 1) := by decide +kernel
theorem dX_append_65 : decode bX_append 65 = .ok (.aload_n 0, 1) := by decide +kernel
theorem dX_append_66 : decode bX_append 66 = .ok (.getfield 9, 3) := by decide +kernel
theorem dX_append_69 : decode bX_append 69 = .ok (.iload 8, 2) := by decide +kernel
theorem dX_append_71 : decode bX_append 71 = .ok (.iconst 5, 1) := by decide +kernel
theorem dX_append_72 : decode bX_append 72 = .ok (.iadd, 1) := by decide +kernel
theorem dX_append_73 : decode bX_append 73 = .ok (.iload 6, 2) := by decide +kernel
theorem dX_append_75 : decode bX_append 75 = .ok (.iastore, 1) := by decide +kernel
theorem dX_append_76 : decode bX_append 76 = .ok (.aload_n 0, 1) := by decide +kernel
theorem dX_append_77 : decode bX_append 77 = .ok (.getfield 13, 3) := by decide +kernel
theorem dX_append_80 : decode bX_append 80 = .ok (.iload 7, 2) := by decide +kernel
theorem dX_append_82 : decode bX_append 82 = .ok (.aload_n 0, 1) := by decide +kernel
theorem dX_append_83 : decode bX_append 83 = .ok (.iload 7, 2) := by decide +kernel
theorem dX_append_85 : decode bX_append 85 = .ok (.invokevirtual 112, 3) := by decide +kernel
theorem dX_append_88 : decode bX_append 88 = .ok (.lastore, 1) := by decide +kernel
theorem dX_append_89 : decode bX_append 89 = .ok (.aload_n 0, 1) := by decide +kernel
theorem dX_append_90 : decode bX_append 90 = .ok (.getfield 17, 3) := by decide +kernel
theorem dX_append_93 : decode bX_append 93 = .ok (.iload 7, 2) := by decide +kernel
theorem dX_append_95 : decode bX_append 95 = .ok (.bipush 64, 2) := by decide +kernel
theorem dX_append_97 : decode bX_append 97 = .ok (.iastore, 1) := by decide +kernel
theorem dX_append_98 : decode bX_append 98 = .ok (.aload_n 0, 1) := by decide +kernel
theorem dX_append_99 : decode bX_append 99 = .ok (.dup, 1) := by decide +kernel
theorem dX_append_100 : decode bX_append 100 = .ok (.getfield 105, 3) := by decide +kernel
theorem dX_append_103 : decode bX_append 103 = .ok (.iconst 1, 1) := by decide +kernel
theorem dX_append_104 : decode bX_append 104 = .ok (.iadd, 1) := by decide +kernel
theorem dX_append_105 : decode bX_append 105 = .ok (.putfield 105, 3) := by decide +kernel
theorem dX_append_108 : decode bX_append 108 = .ok (.iload 7, 2) := by decide +kernel
theorem dX_append_110 : decode bX_append 110 = .ok (.ireturn, 1) := by decide +kernel
theorem dX_replace_0 : decode bX_replace 0 = .ok (.aload_n 0, 1) := by decide +kernel
theorem dX_replace_1 : decode bX_replace 1 = .ok (.iload_n 2, 1) := by decide +kernel
theorem dX_replace_2 : decode bX_replace 2 = .ok (.aload_n 0, 1) := by decide +kernel
theorem dX_replace_3 : decode bX_replace 3 = .ok (.iload_n 1, 1) := by decide +kernel
theorem dX_replace_4 : decode bX_replace 4 = .ok (.iconst 1, 1) := by decide +kernel
theorem dX_replace_5 : decode bX_replace 5 = .ok (.invokevirtual 59, 3) := by decide +kernel
theorem dX_replace_8 : decode bX_replace 8 = .ok (.aload_n 0, 1) := by decide +kernel
theorem dX_replace_9 : decode bX_replace 9 = .ok (.iload_n 1, 1) := by decide +kernel
theorem dX_replace_10 : decode bX_replace 10 = .ok (.iconst 2, 1) := by decide +kernel
theorem dX_replace_11 : decode bX_replace 11 = .ok (.invokevirtual 59, 3) := by decide +kernel
theorem dX_replace_14 : decode bX_replace 14 = .ok (.aload_n 0, 1) := by decide +kernel
theorem dX_replace_15 : decode bX_replace 15 = .ok (.iload_n 1, 1) := by decide +kernel
theorem dX_replace_16 : decode bX_replace 16 = .ok (.iconst 3, 1) := by decide +kernel
theorem dX_replace_17 : decode bX_replace 17 = .ok (.invokevirtual 59, 3) := by decide +kernel
theorem dX_replace_20 : decode bX_replace 20 = .ok (.iload_n 3, 1) := by decide +kernel
theorem dX_replace_21 : decode bX_replace 21 = .ok (.aload_n 0, 1) := by decide +kernel
theorem dX_replace_22 : decode bX_replace 22 = .ok (.iload_n 1, 1) := by decide +kernel
theorem dX_replace_23 : decode bX_replace 23 = .ok (.iconst 5, 1) := by decide +kernel
theorem dX_replace_24 : decode bX_replace 24 = .ok (.invokevirtual 59, 3) := by decide +kernel
theorem dX_replace_27 : decode bX_replace 27 = .ok (.invokevirtual 51, 3) := by decide +kernel
theorem dX_replace_30 : decode bX_replace 30 = .ok (.istore 4, 2) := by decide +kernel
theorem dX_replace_32 : decode bX_replace 32 = .ok (.aload_n 0, 1) := by decide +kernel
theorem dX_replace_33 : decode bX_replace 33 = .ok (.getfield 17, 3) := by decide +kernel
theorem dX_replace_36 : decode bX_replace 36 = .ok (.iload_n 1, 1) := by decide +kernel
theorem dX_replace_37 : decode bX_replace 37 = .ok (.iload 4, 2) := by decide +kernel
theorem dX_replace_39 : decode bX_replace 39 = .ok (.iastore, 1) := by decide +kernel
theorem dX_replace_40 : decode bX_replace 40 = .ok (.iload 4, 2) := by decide +kernel
theorem dX_replace_42 : decode bX_replace 42 = .ok (.ireturn, 1) := by decide +kernel
theorem dX_linkBefore_0 : decode bX_linkBefore 0 = .ok (.iload_n 1, 1) := by decide +kernel
theorem dX_linkBefore_1 : decode bX_linkBefore 1 = .ok (.ifCond .ne 9, 3) := by decide +kernel
theorem dX_linkBefore_4 : decode bX_linkBefore 4 = .ok (.ldc2_w 151, 3) := by decide +kernel
theorem dX_linkBefore_7 : decode bX_linkBefore 7 = .ok (.goto 11, 3) := by decide +kernel
theorem dX_linkBefore_10 : decode bX_linkBefore 10 = .ok (.aload_n 0, 1) := by decide +kernel
theorem dX_linkBefore_11 : decode bX_linkBefore 11 = .ok (.getfield 13, 3) := by decide +kernel
theorem dX_linkBefore_14 : decode bX_linkBefore 14 = .ok (.iload_n 1, 1) := by decide +kernel
theorem dX_linkBefore_15 : decode bX_linkBefore 15 = .ok (.iconst 1, 1) := by decide +kernel
theorem dX_linkBefore_16 : decode bX_linkBefore 16 = .ok (.isub, 1) := by decide +kernel
theorem dX_linkBefore_17 : decode bX_linkBefore 17 = .ok (.laload, 1) := by decide +kernel
theorem dX_linkBefore_18 : decode bX_linkBefore 18 = .ok (.lreturn, 1) := by decide +kernel
theorem dX_linkOfWords_0 : decode bX_linkOfWords 0 = .ok (.aload_n 0, 1) := by decide +kernel
theorem dX_linkOfWords_1 : decode bX_linkOfWords 1 = .ok (.iload_n 1, 1) := by decide +kernel
theorem dX_linkOfWords_2 : decode bX_linkOfWords 2 = .ok (.invokevirtual 108, 3) := by decide +kernel
theorem dX_linkOfWords_5 : decode bX_linkOfWords 5 = .ok (.lstore_n 2, 1) := by decide +kernel
theorem dX_linkOfWords_6 : decode bX_linkOfWords 6 = .ok (.iconst 0, 1) := by decide +kernel
theorem dX_linkOfWords_7 : decode bX_linkOfWords 7 = .ok (.istore 4, 2) := by decide +kernel
theorem dX_linkOfWords_9 : decode bX_linkOfWords 9 = .ok (.iload 4, 2) := by decide +kernel
theorem dX_linkOfWords_11 : decode bX_linkOfWords 11 = .ok (.bipush 6, 2) := by decide +kernel
theorem dX_linkOfWords_13 : decode bX_linkOfWords 13 = .ok (.if_icmp .ge 29, 3) := by decide +kernel
theorem dX_linkOfWords_16 : decode bX_linkOfWords 16 = .ok (.lload_n 2, 1) := by decide +kernel
theorem dX_linkOfWords_17 : decode bX_linkOfWords 17 = .ok (.lload_n 2, 1) := by decide +kernel
theorem dX_linkOfWords_18 : decode bX_linkOfWords 18 = .ok (.bipush 27, 2) := by decide +kernel
theorem dX_linkOfWords_20 : decode bX_linkOfWords 20 = .ok (.lushr, 1) := by decide +kernel
theorem dX_linkOfWords_21 : decode bX_linkOfWords 21 = .ok (.lxor, 1) := by decide +kernel
theorem dX_linkOfWords_22 : decode bX_linkOfWords 22 = .ok (.ldc2_w 153, 3) := by decide +kernel
theorem dX_linkOfWords_25 : decode bX_linkOfWords 25 = .ok (.lmul, 1) := by decide +kernel
theorem dX_linkOfWords_26 : decode bX_linkOfWords 26 = .ok (.aload_n 0, 1) := by decide +kernel
theorem dX_linkOfWords_27 : decode bX_linkOfWords 27 = .ok (.iload_n 1, 1) := by decide +kernel
theorem dX_linkOfWords_28 : decode bX_linkOfWords 28 = .ok (.iload 4, 2) := by decide +kernel
theorem dX_linkOfWords_30 : decode bX_linkOfWords 30 = .ok (.invokevirtual 59, 3) := by decide +kernel
theorem dX_linkOfWords_33 : decode bX_linkOfWords 33 = .ok (.i2l, 1) := by decide +kernel
theorem dX_linkOfWords_34 : decode bX_linkOfWords 34 = .ok (.ladd, 1) := by decide +kernel
theorem dX_linkOfWords_35 : decode bX_linkOfWords 35 = .ok (.lstore_n 2, 1) := by decide +kernel
theorem dX_linkOfWords_36 : decode bX_linkOfWords 36 = .ok (.iinc 4 1, 3) := by decide +kernel
theorem dX_linkOfWords_39 : decode bX_linkOfWords 39 = .ok (.goto (-30), 3) := by decide +kernel
theorem dX_linkOfWords_42 : decode bX_linkOfWords 42 = .ok (.lload_n 2, 1) := by decide +kernel
theorem dX_linkOfWords_43 : decode bX_linkOfWords 43 = .ok (.lreturn, 1) := by decide +kernel
theorem dX_insertIntoCursor_0 : decode bX_insertIntoCursor 0 = .ok (.aload_n 0, 1) := by decide +kernel
theorem dX_insertIntoCursor_1 : decode bX_insertIntoCursor 1 = .ok (.getfield 76, 3) := by decide +kernel
theorem dX_insertIntoCursor_4 : decode bX_insertIntoCursor 4 = .ok (.istore_n 2, 1) := by decide +kernel
theorem dX_insertIntoCursor_5 : decode bX_insertIntoCursor 5 = .ok (.iload_n 2, 1) := by decide +kernel
theorem dX_insertIntoCursor_6 : decode bX_insertIntoCursor 6 = .ok (.ifCond .le 39, 3) := by decide +kernel
theorem dX_insertIntoCursor_9 : decode bX_insertIntoCursor 9 = .ok (.aload_n 0, 1) := by decide +kernel
theorem dX_insertIntoCursor_10 : decode bX_insertIntoCursor 10 = .ok (.iload_n 1, 1) := by decide +kernel
theorem dX_insertIntoCursor_11 : decode bX_insertIntoCursor 11 = .ok (.aload_n 0, 1) := by decide +kernel
theorem dX_insertIntoCursor_12 : decode bX_insertIntoCursor 12 = .ok (.getfield 20, 3) := by decide +kernel
theorem dX_insertIntoCursor_15 : decode bX_insertIntoCursor 15 = .ok (.iload_n 2, 1) := by decide +kernel
theorem dX_insertIntoCursor_16 : decode bX_insertIntoCursor 16 = .ok (.iconst 1, 1) := by decide +kernel
theorem dX_insertIntoCursor_17 : decode bX_insertIntoCursor 17 = .ok (.isub, 1) := by decide +kernel
theorem dX_insertIntoCursor_18 : decode bX_insertIntoCursor 18 = .ok (.iaload, 1) := by decide +kernel
theorem dX_insertIntoCursor_19 : decode bX_insertIntoCursor 19 = .ok (.invokevirtual 155, 3) := by decide +kernel
theorem dX_insertIntoCursor_22 : decode bX_insertIntoCursor 22 = .ok (.ifCond .eq 23, 3) := by decide +kernel
theorem dX_insertIntoCursor_25 : decode bX_insertIntoCursor 25 = .ok (.aload_n 0, 1) := by decide +kernel
theorem dX_insertIntoCursor_26 : decode bX_insertIntoCursor 26 = .ok (.getfield 20, 3) := by decide +kernel
theorem dX_insertIntoCursor_29 : decode bX_insertIntoCursor 29 = .ok (.iload_n 2, 1) := by decide +kernel
theorem dX_insertIntoCursor_30 : decode bX_insertIntoCursor 30 = .ok (.aload_n 0, 1) := by decide +kernel
theorem dX_insertIntoCursor_31 : decode bX_insertIntoCursor 31 = .ok (.getfield 20, 3) := by decide +kernel
theorem dX_insertIntoCursor_34 : decode bX_insertIntoCursor 34 = .ok (.iload_n 2, 1) := by decide +kernel
theorem dX_insertIntoCursor_35 : decode bX_insertIntoCursor 35 = .ok (.iconst 1, 1) := by decide +kernel
theorem dX_insertIntoCursor_36 : decode bX_insertIntoCursor 36 = .ok (.isub, 1) := by decide +kernel
theorem dX_insertIntoCursor_37 : decode bX_insertIntoCursor 37 = .ok (.iaload, 1) := by decide +kernel
theorem dX_insertIntoCursor_38 : decode bX_insertIntoCursor 38 = .ok (.iastore, 1) := by decide +kernel
theorem dX_insertIntoCursor_39 : decode bX_insertIntoCursor 39 = .ok (.iinc 2 (-1), 3) := by decide +kernel
theorem dX_insertIntoCursor_42 : decode bX_insertIntoCursor 42 = .ok (.goto (-37), 3) := by decide +kernel
theorem dX_insertIntoCursor_45 : decode bX_insertIntoCursor 45 = .ok (.aload_n 0, 1) := by decide +kernel
theorem dX_insertIntoCursor_46 : decode bX_insertIntoCursor 46 = .ok (.getfield 20, 3) := by decide +kernel
theorem dX_insertIntoCursor_49 : decode bX_insertIntoCursor 49 = .ok (.iload_n 2, 1) := by decide +kernel
theorem dX_insertIntoCursor_50 : decode bX_insertIntoCursor 50 = .ok (.iload_n 1, 1) := by decide +kernel
theorem dX_insertIntoCursor_51 : decode bX_insertIntoCursor 51 = .ok (.iastore, 1) := by decide +kernel
theorem dX_insertIntoCursor_52 : decode bX_insertIntoCursor 52 = .ok (.aload_n 0, 1) := by decide +kernel
theorem dX_insertIntoCursor_53 : decode bX_insertIntoCursor 53 = .ok (.dup, 1) := by decide +kernel
theorem dX_insertIntoCursor_54 : decode bX_insertIntoCursor 54 = .ok (.getfield 76, 3) := by decide +kernel
theorem dX_insertIntoCursor_57 : decode bX_insertIntoCursor 57 = .ok (.iconst 1, 1) := by decide +kernel
theorem dX_insertIntoCursor_58 : decode bX_insertIntoCursor 58 = .ok (.iadd, 1) := by decide +kernel
theorem dX_insertIntoCursor_59 : decode bX_insertIntoCursor 59 = .ok (.putfield 76, 3) := by decide +kernel
theorem dX_insertIntoCursor_62 : decode bX_insertIntoCursor 62 = .ok (.return_, 1) := by decide +kernel
theorem dX_comesBefore_0 : decode bX_comesBefore 0 = .ok (.aload_n 0, 1) := by decide +kernel
theorem dX_comesBefore_1 : decode bX_comesBefore 1 = .ok (.iload_n 1, 1) := by decide +kernel
theorem dX_comesBefore_2 : decode bX_comesBefore 2 = .ok (.iconst 5, 1) := by decide +kernel
theorem dX_comesBefore_3 : decode bX_comesBefore 3 = .ok (.invokevirtual 59, 3) := by decide +kernel
theorem dX_comesBefore_6 : decode bX_comesBefore 6 = .ok (.aload_n 0, 1) := by decide +kernel
theorem dX_comesBefore_7 : decode bX_comesBefore 7 = .ok (.iload_n 2, 1) := by decide +kernel
theorem dX_comesBefore_8 : decode bX_comesBefore 8 = .ok (.iconst 5, 1) := by decide +kernel
theorem dX_comesBefore_9 : decode bX_comesBefore 9 = .ok (.invokevirtual 59, 3) := by decide +kernel
theorem dX_comesBefore_12 : decode bX_comesBefore 12 = .ok (.invokestatic 158, 3) := by decide +kernel
theorem dX_comesBefore_15 : decode bX_comesBefore 15 = .ok (.istore_n 3, 1) := by decide +kernel
theorem dX_comesBefore_16 : decode bX_comesBefore 16 = .ok (.iload_n 3, 1) := by decide +kernel
theorem dX_comesBefore_17 : decode bX_comesBefore 17 = .ok (.ifCond .lt 22, 3) := by decide +kernel
theorem dX_comesBefore_20 : decode bX_comesBefore 20 = .ok (.iload_n 3, 1) := by decide +kernel
theorem dX_comesBefore_21 : decode bX_comesBefore 21 = .ok (.ifCond .ne 22, 3) := by decide +kernel
theorem dX_comesBefore_24 : decode bX_comesBefore 24 = .ok (.aload_n 0, 1) := by decide +kernel
theorem dX_comesBefore_25 : decode bX_comesBefore 25 = .ok (.iload_n 1, 1) := by decide +kernel
theorem dX_comesBefore_26 : decode bX_comesBefore 26 = .ok (.iconst 1, 1) := by decide +kernel
theorem dX_comesBefore_27 : decode bX_comesBefore 27 = .ok (.invokevirtual 59, 3) := by decide +kernel
theorem dX_comesBefore_30 : decode bX_comesBefore 30 = .ok (.aload_n 0, 1) := by decide +kernel
theorem dX_comesBefore_31 : decode bX_comesBefore 31 = .ok (.iload_n 2, 1) := by decide +kernel
theorem dX_comesBefore_32 : decode bX_comesBefore 32 = .ok (.iconst 1, 1) := by decide +kernel
theorem dX_comesBefore_33 : decode bX_comesBefore 33 = .ok (.invokevirtual 59, 3) := by decide +kernel
theorem dX_comesBefore_36 : decode bX_comesBefore 36 = .ok (.if_icmp .ge 7, 3) := by decide +kernel
theorem dX_comesBefore_39 : decode bX_comesBefore 39 = .ok (.iconst 1, 1) := by decide +kernel
theorem dX_comesBefore_40 : decode bX_comesBefore 40 = .ok (.goto 4, 3) := by decide +kernel
theorem dX_comesBefore_43 : decode bX_comesBefore 43 = .ok (.iconst 0, 1) := by decide +kernel
theorem dX_comesBefore_44 : decode bX_comesBefore 44 = .ok (.ireturn, 1) := by decide +kernel
theorem dI_compare_0 : decode bI_compare 0 = .ok (.iload_n 0, 1) := by decide +kernel
theorem dI_compare_1 : decode bI_compare 1 = .ok (.iload_n 1, 1) := by decide +kernel
theorem dI_compare_2 : decode bI_compare 2 = .ok (.if_icmp .ge 7, 3) := by decide +kernel
theorem dI_compare_5 : decode bI_compare 5 = .ok (.iconst (-1), 1) := by decide +kernel
theorem dI_compare_6 : decode bI_compare 6 = .ok (.goto 13, 3) := by decide +kernel
theorem dI_compare_9 : decode bI_compare 9 = .ok (.iload_n 0, 1) := by decide +kernel
theorem dI_compare_10 : decode bI_compare 10 = .ok (.iload_n 1, 1) := by decide +kernel
theorem dI_compare_11 : decode bI_compare 11 = .ok (.if_icmp .ne 7, 3) := by decide +kernel
theorem dI_compare_14 : decode bI_compare 14 = .ok (.iconst 0, 1) := by decide +kernel
theorem dI_compare_15 : decode bI_compare 15 = .ok (.goto 4, 3) := by decide +kernel
theorem dI_compare_18 : decode bI_compare 18 = .ok (.iconst 1, 1) := by decide +kernel
theorem dI_compare_19 : decode bI_compare 19 = .ok (.ireturn, 1) := by decide +kernel
