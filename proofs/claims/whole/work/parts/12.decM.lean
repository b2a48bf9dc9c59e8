theorem dM_init_0 : decode bM_init 0 = .ok (.aload_n 0, 1) := by decide +kernel
theorem dM_init_1 : decode bM_init 1 = .ok (.invokespecial 1, 3) := by decide +kernel
theorem dM_init_4 : decode bM_init 4 = .ok (.aload_n 0, 1) := by decide +kernel
theorem dM_init_5 : decode bM_init 5 = .ok (.sipush 384, 3) := by decide +kernel
theorem dM_init_8 : decode bM_init 8 = .ok (.newarray .int, 2) := by decide +kernel
theorem dM_init_10 : decode bM_init 10 = .ok (.putfield 7, 3) := by decide +kernel
theorem dM_init_13 : decode bM_init 13 = .ok (.aload_n 0, 1) := by decide +kernel
theorem dM_init_14 : decode bM_init 14 = .ok (.bipush 64, 2) := by decide +kernel
theorem dM_init_16 : decode bM_init 16 = .ok (.newarray .long, 2) := by decide +kernel
theorem dM_init_18 : decode bM_init 18 = .ok (.putfield 13, 3) := by decide +kernel
theorem dM_init_21 : decode bM_init 21 = .ok (.aload_n 0, 1) := by decide +kernel
theorem dM_init_22 : decode bM_init 22 = .ok (.bipush 64, 2) := by decide +kernel
theorem dM_init_24 : decode bM_init 24 = .ok (.newarray .int, 2) := by decide +kernel
theorem dM_init_26 : decode bM_init 26 = .ok (.putfield 17, 3) := by decide +kernel
theorem dM_init_29 : decode bM_init 29 = .ok (.aload_n 0, 1) := by decide +kernel
theorem dM_init_30 : decode bM_init 30 = .ok (.bipush 64, 2) := by decide +kernel
theorem dM_init_32 : decode bM_init 32 = .ok (.newarray .int, 2) := by decide +kernel
theorem dM_init_34 : decode bM_init 34 = .ok (.putfield 20, 3) := by decide +kernel
theorem dM_init_37 : decode bM_init 37 = .ok (.return_, 1) := by decide +kernel
theorem dM_thrown_0 : decode bM_thrown 0 = .ok (.aload_n 0, 1) := by decide +kernel
theorem dM_thrown_1 : decode bM_thrown 1 = .ok (.getfield 23, 3) := by decide +kernel
theorem dM_thrown_4 : decode bM_thrown 4 = .ok (.ireturn, 1) := by decide +kernel
theorem dM_isAccount_0 : decode bM_isAccount 0 = .ok (.iload_n 0, 1) := by decide +kernel
theorem dM_isAccount_1 : decode bM_isAccount 1 = .ok (.ifCond .lt 13, 3) := by decide +kernel
theorem dM_isAccount_4 : decode bM_isAccount 4 = .ok (.iload_n 0, 1) := by decide +kernel
theorem dM_isAccount_5 : decode bM_isAccount 5 = .ok (.bipush 16, 2) := by decide +kernel
theorem dM_isAccount_7 : decode bM_isAccount 7 = .ok (.if_icmp .ge 7, 3) := by decide +kernel
theorem dM_isAccount_10 : decode bM_isAccount 10 = .ok (.iconst 1, 1) := by decide +kernel
theorem dM_isAccount_11 : decode bM_isAccount 11 = .ok (.goto 4, 3) := by decide +kernel
theorem dM_isAccount_14 : decode bM_isAccount 14 = .ok (.iconst 0, 1) := by decide +kernel
theorem dM_isAccount_15 : decode bM_isAccount 15 = .ok (.ireturn, 1) := by decide +kernel
theorem dM_isDay_0 : decode bM_isDay 0 = .ok (.iload_n 0, 1) := by decide +kernel
theorem dM_isDay_1 : decode bM_isDay 1 = .ok (.ifCond .lt 14, 3) := by decide +kernel
theorem dM_isDay_4 : decode bM_isDay 4 = .ok (.iload_n 0, 1) := by decide +kernel
theorem dM_isDay_5 : decode bM_isDay 5 = .ok (.sipush 1000, 3) := by decide +kernel
theorem dM_isDay_8 : decode bM_isDay 8 = .ok (.if_icmp .ge 7, 3) := by decide +kernel
theorem dM_isDay_11 : decode bM_isDay 11 = .ok (.iconst 1, 1) := by decide +kernel
theorem dM_isDay_12 : decode bM_isDay 12 = .ok (.goto 4, 3) := by decide +kernel
theorem dM_isDay_15 : decode bM_isDay 15 = .ok (.iconst 0, 1) := by decide +kernel
theorem dM_isDay_16 : decode bM_isDay 16 = .ok (.ireturn, 1) := by decide +kernel
theorem dM_isTime_0 : decode bM_isTime 0 = .ok (.iload_n 1, 1) := by decide +kernel
theorem dM_isTime_1 : decode bM_isTime 1 = .ok (.ifCond .lt 15, 3) := by decide +kernel
theorem dM_isTime_4 : decode bM_isTime 4 = .ok (.iload_n 1, 1) := by decide +kernel
theorem dM_isTime_5 : decode bM_isTime 5 = .ok (.aload_n 0, 1) := by decide +kernel
theorem dM_isTime_6 : decode bM_isTime 6 = .ok (.getfield 27, 3) := by decide +kernel
theorem dM_isTime_9 : decode bM_isTime 9 = .ok (.if_icmp .gt 7, 3) := by decide +kernel
theorem dM_isTime_12 : decode bM_isTime 12 = .ok (.iconst 1, 1) := by decide +kernel
theorem dM_isTime_13 : decode bM_isTime 13 = .ok (.goto 4, 3) := by decide +kernel
theorem dM_isTime_16 : decode bM_isTime 16 = .ok (.iconst 0, 1) := by decide +kernel
theorem dM_isTime_17 : decode bM_isTime 17 = .ok (.ireturn, 1) := by decide +kernel
theorem dM_word_0 : decode bM_word 0 = .ok (.aload_n 0, 1) := by decide +kernel
theorem dM_word_1 : decode bM_word 1 = .ok (.getfield 7, 3) := by decide +kernel
theorem dM_word_4 : decode bM_word 4 = .ok (.bipush 6, 2) := by decide +kernel
theorem dM_word_6 : decode bM_word 6 = .ok (.iload_n 1, 1) := by decide +kernel
theorem dM_word_7 : decode bM_word 7 = .ok (.imul, 1) := by decide +kernel
theorem dM_word_8 : decode bM_word 8 = .ok (.iload_n 2, 1) := by decide +kernel
theorem dM_word_9 : decode bM_word 9 = .ok (.iadd, 1) := by decide +kernel
theorem dM_word_10 : decode bM_word 10 = .ok (.iaload, 1) := by decide +kernel
theorem dM_word_11 : decode bM_word 11 = .ok (.ireturn, 1) := by decide +kernel
theorem dM_currentAt_0 : decode bM_currentAt 0 = .ok (.iload_n 2, 1) := by decide +kernel
theorem dM_currentAt_1 : decode bM_currentAt 1 = .ok (.iconst 1, 1) := by decide +kernel
theorem dM_currentAt_2 : decode bM_currentAt 2 = .ok (.isub, 1) := by decide +kernel
theorem dM_currentAt_3 : decode bM_currentAt 3 = .ok (.istore_n 3, 1) := by decide +kernel
theorem dM_currentAt_4 : decode bM_currentAt 4 = .ok (.iload_n 3, 1) := by decide +kernel
theorem dM_currentAt_5 : decode bM_currentAt 5 = .ok (.ifCond .lt 20, 3) := by decide +kernel
theorem dM_currentAt_8 : decode bM_currentAt 8 = .ok (.aload_n 0, 1) := by decide +kernel
theorem dM_currentAt_9 : decode bM_currentAt 9 = .ok (.iload_n 3, 1) := by decide +kernel
theorem dM_currentAt_10 : decode bM_currentAt 10 = .ok (.iconst 1, 1) := by decide +kernel
theorem dM_currentAt_11 : decode bM_currentAt 11 = .ok (.invokevirtual 30, 3) := by decide +kernel
theorem dM_currentAt_14 : decode bM_currentAt 14 = .ok (.iload_n 1, 1) := by decide +kernel
theorem dM_currentAt_15 : decode bM_currentAt 15 = .ok (.if_icmp .eq 10, 3) := by decide +kernel
theorem dM_currentAt_18 : decode bM_currentAt 18 = .ok (.iload_n 3, 1) := by decide +kernel
theorem dM_currentAt_19 : decode bM_currentAt 19 = .ok (.iconst 1, 1) := by decide +kernel
theorem dM_currentAt_20 : decode bM_currentAt 20 = .ok (.isub, 1) := by decide +kernel
theorem dM_currentAt_21 : decode bM_currentAt 21 = .ok (.istore_n 3, 1) := by decide +kernel
theorem dM_currentAt_22 : decode bM_currentAt 22 = .ok (.goto (-18), 3) := by decide +kernel
theorem dM_currentAt_25 : decode bM_currentAt 25 = .ok (.iload_n 3, 1) := by decide +kernel
theorem dM_currentAt_26 : decode bM_currentAt 26 = .ok (.ireturn, 1) := by decide +kernel
theorem dM_follow_0 : decode bM_follow 0 = .ok (.lload_n 0, 1) := by decide +kernel
theorem dM_follow_1 : decode bM_follow 1 = .ok (.lload_n 0, 1) := by decide +kernel
theorem dM_follow_2 : decode bM_follow 2 = .ok (.bipush 27, 2) := by decide +kernel
theorem dM_follow_4 : decode bM_follow 4 = .ok (.lushr, 1) := by decide +kernel
theorem dM_follow_5 : decode bM_follow 5 = .ok (.lxor, 1) := by decide +kernel
theorem dM_follow_6 : decode bM_follow 6 = .ok (.ldc2_w 34, 3) := by decide +kernel
theorem dM_follow_9 : decode bM_follow 9 = .ok (.lmul, 1) := by decide +kernel
theorem dM_follow_10 : decode bM_follow 10 = .ok (.iload_n 2, 1) := by decide +kernel
theorem dM_follow_11 : decode bM_follow 11 = .ok (.i2l, 1) := by decide +kernel
theorem dM_follow_12 : decode bM_follow 12 = .ok (.ladd, 1) := by decide +kernel
theorem dM_follow_13 : decode bM_follow 13 = .ok (.lreturn, 1) := by decide +kernel
theorem dM_linkOf_0 : decode bM_linkOf 0 = .ok (.lload_n 2, 1) := by decide +kernel
theorem dM_linkOf_1 : decode bM_linkOf 1 = .ok (.lstore 4, 2) := by decide +kernel
theorem dM_linkOf_3 : decode bM_linkOf 3 = .ok (.iconst 0, 1) := by decide +kernel
theorem dM_linkOf_4 : decode bM_linkOf 4 = .ok (.istore 6, 2) := by decide +kernel
theorem dM_linkOf_6 : decode bM_linkOf 6 = .ok (.iload 6, 2) := by decide +kernel
theorem dM_linkOf_8 : decode bM_linkOf 8 = .ok (.bipush 6, 2) := by decide +kernel
theorem dM_linkOf_10 : decode bM_linkOf 10 = .ok (.if_icmp .ge 23, 3) := by decide +kernel
theorem dM_linkOf_13 : decode bM_linkOf 13 = .ok (.lload 4, 2) := by decide +kernel
theorem dM_linkOf_15 : decode bM_linkOf 15 = .ok (.aload_n 0, 1) := by decide +kernel
theorem dM_linkOf_16 : decode bM_linkOf 16 = .ok (.iload_n 1, 1) := by decide +kernel
theorem dM_linkOf_17 : decode bM_linkOf 17 = .ok (.iload 6, 2) := by decide +kernel
theorem dM_linkOf_19 : decode bM_linkOf 19 = .ok (.invokevirtual 30, 3) := by decide +kernel
theorem dM_linkOf_22 : decode bM_linkOf 22 = .ok (.invokestatic 36, 3) := by decide +kernel
theorem dM_linkOf_25 : decode bM_linkOf 25 = .ok (.lstore 4, 2) := by decide +kernel
theorem dM_linkOf_27 : decode bM_linkOf 27 = .ok (.iinc 6 1, 3) := by decide +kernel
theorem dM_linkOf_30 : decode bM_linkOf 30 = .ok (.goto (-24), 3) := by decide +kernel
theorem dM_linkOf_33 : decode bM_linkOf 33 = .ok (.lload 4, 2) := by decide +kernel
theorem dM_linkOf_35 : decode bM_linkOf 35 = .ok (.lreturn, 1) := by decide +kernel
theorem dM_linkBefore_0 : decode bM_linkBefore 0 = .ok (.iload_n 1, 1) := by decide +kernel
theorem dM_linkBefore_1 : decode bM_linkBefore 1 = .ok (.ifCond .ne 9, 3) := by decide +kernel
theorem dM_linkBefore_4 : decode bM_linkBefore 4 = .ok (.ldc2_w 40, 3) := by decide +kernel
theorem dM_linkBefore_7 : decode bM_linkBefore 7 = .ok (.goto 11, 3) := by decide +kernel
theorem dM_linkBefore_10 : decode bM_linkBefore 10 = .ok (.aload_n 0, 1) := by decide +kernel
theorem dM_linkBefore_11 : decode bM_linkBefore 11 = .ok (.getfield 13, 3) := by decide +kernel
theorem dM_linkBefore_14 : decode bM_linkBefore 14 = .ok (.iload_n 1, 1) := by decide +kernel
theorem dM_linkBefore_15 : decode bM_linkBefore 15 = .ok (.iconst 1, 1) := by decide +kernel
theorem dM_linkBefore_16 : decode bM_linkBefore 16 = .ok (.isub, 1) := by decide +kernel
theorem dM_linkBefore_17 : decode bM_linkBefore 17 = .ok (.laload, 1) := by decide +kernel
theorem dM_linkBefore_18 : decode bM_linkBefore 18 = .ok (.lreturn, 1) := by decide +kernel
theorem dM_turnoverNow_0 : decode bM_turnoverNow 0 = .ok (.lconst 0, 1) := by decide +kernel
theorem dM_turnoverNow_1 : decode bM_turnoverNow 1 = .ok (.lstore_n 2, 1) := by decide +kernel
theorem dM_turnoverNow_2 : decode bM_turnoverNow 2 = .ok (.iconst 0, 1) := by decide +kernel
theorem dM_turnoverNow_3 : decode bM_turnoverNow 3 = .ok (.istore 4, 2) := by decide +kernel
theorem dM_turnoverNow_5 : decode bM_turnoverNow 5 = .ok (.iload 4, 2) := by decide +kernel
theorem dM_turnoverNow_7 : decode bM_turnoverNow 7 = .ok (.aload_n 0, 1) := by decide +kernel
theorem dM_turnoverNow_8 : decode bM_turnoverNow 8 = .ok (.getfield 42, 3) := by decide +kernel
theorem dM_turnoverNow_11 : decode bM_turnoverNow 11 = .ok (.if_icmp .ge 70, 3) := by decide +kernel
theorem dM_turnoverNow_14 : decode bM_turnoverNow 14 = .ok (.aload_n 0, 1) := by decide +kernel
theorem dM_turnoverNow_15 : decode bM_turnoverNow 15 = .ok (.iload 4, 2) := by decide +kernel
theorem dM_turnoverNow_17 : decode bM_turnoverNow 17 = .ok (.aload_n 0, 1) := by decide +kernel
theorem dM_turnoverNow_18 : decode bM_turnoverNow 18 = .ok (.getfield 27, 3) := by decide +kernel
theorem dM_turnoverNow_21 : decode bM_turnoverNow 21 = .ok (.invokevirtual 45, 3) := by decide +kernel
theorem dM_turnoverNow_24 : decode bM_turnoverNow 24 = .ok (.istore 5, 2) := by decide +kernel
theorem dM_turnoverNow_26 : decode bM_turnoverNow 26 = .ok (.aload_n 0, 1) := by decide +kernel
theorem dM_turnoverNow_27 : decode bM_turnoverNow 27 = .ok (.iload 5, 2) := by decide +kernel
theorem dM_turnoverNow_29 : decode bM_turnoverNow 29 = .ok (.iconst 2, 1) := by decide +kernel
theorem dM_turnoverNow_30 : decode bM_turnoverNow 30 = .ok (.invokevirtual 30, 3) := by decide +kernel
theorem dM_turnoverNow_33 : decode bM_turnoverNow 33 = .ok (.iload_n 1, 1) := by decide +kernel
theorem dM_turnoverNow_34 : decode bM_turnoverNow 34 = .ok (.if_icmp .eq 14, 3) := by decide +kernel
theorem dM_turnoverNow_37 : decode bM_turnoverNow 37 = .ok (.aload_n 0, 1) := by decide +kernel
theorem dM_turnoverNow_38 : decode bM_turnoverNow 38 = .ok (.iload 5, 2) := by decide +kernel
theorem dM_turnoverNow_40 : decode bM_turnoverNow 40 = .ok (.iconst 3, 1) := by decide +kernel
theorem dM_turnoverNow_41 : decode bM_turnoverNow 41 = .ok (.invokevirtual 30, 3) := by decide +kernel
theorem dM_turnoverNow_44 : decode bM_turnoverNow 44 = .ok (.iload_n 1, 1) := by decide +kernel
theorem dM_turnoverNow_45 : decode bM_turnoverNow 45 = .ok (.if_icmp .ne 7, 3) := by decide +kernel
theorem dM_turnoverNow_48 : decode bM_turnoverNow 48 = .ok (.iconst 1, 1) := by decide +kernel
theorem dM_turnoverNow_49 : decode bM_turnoverNow 49 = .ok (.goto 4, 3) := by decide +kernel
theorem dM_turnoverNow_52 : decode bM_turnoverNow 52 = .ok (.iconst 0, 1) := by decide +kernel
theorem dM_turnoverNow_53 : decode bM_turnoverNow 53 = .ok (.istore 6, 2) := by decide +kernel
theorem dM_turnoverNow_55 : decode bM_turnoverNow 55 = .ok (.iload 6, 2) := by decide +kernel
theorem dM_turnoverNow_57 : decode bM_turnoverNow 57 = .ok (.ifCond .eq 16, 3) := by decide +kernel
theorem dM_turnoverNow_60 : decode bM_turnoverNow 60 = .ok (.lload_n 2, 1) := by decide +kernel
theorem dM_turnoverNow_61 : decode bM_turnoverNow 61 = .ok (.aload_n 0, 1) := by decide +kernel
theorem dM_turnoverNow_62 : decode bM_turnoverNow 62 = .ok (.iload 5, 2) := by decide +kernel
theorem dM_turnoverNow_64 : decode bM_turnoverNow 64 = .ok (.iconst 4, 1) := by decide +kernel
theorem dM_turnoverNow_65 : decode bM_turnoverNow 65 = .ok (.invokevirtual 30, 3) := by decide +kernel
theorem dM_turnoverNow_68 : decode bM_turnoverNow 68 = .ok (.i2l, 1) := by decide +kernel
theorem dM_turnoverNow_69 : decode bM_turnoverNow 69 = .ok (.ladd, 1) := by decide +kernel
theorem dM_turnoverNow_70 : decode bM_turnoverNow 70 = .ok (.goto 4, 3) := by decide +kernel
theorem dM_turnoverNow_73 : decode bM_turnoverNow 73 = .ok (.lload_n 2, 1) := by decide +kernel
theorem dM_turnoverNow_74 : decode bM_turnoverNow 74 = .ok (.lstore_n 2, 1) := by decide +kernel
theorem dM_turnoverNow_75 : decode bM_turnoverNow 75 = .ok (.iinc 4 1, 3) := by decide +kernel
theorem dM_turnoverNow_78 : decode bM_turnoverNow 78 = .ok (.goto (-73), 3) := by decide +kernel
theorem dM_turnoverNow_81 : decode bM_turnoverNow 81 = .ok (.lload_n 2, 1) := by decide +kernel
theorem dM_turnoverNow_82 : decode bM_turnoverNow 82 = .ok (.lreturn, 1) := by decide +kernel
theorem dM_tooMuch_0 : decode bM_tooMuch 0 = .ok (.aload_n 0, 1) := by decide +kernel
theorem dM_tooMuch_1 : decode bM_tooMuch 1 = .ok (.iload_n 1, 1) := by decide +kernel
theorem dM_tooMuch_2 : decode bM_tooMuch 2 = .ok (.invokevirtual 48, 3) := by decide +kernel
theorem dM_tooMuch_5 : decode bM_tooMuch 5 = .ok (.lload_n 2, 1) := by decide +kernel
theorem dM_tooMuch_6 : decode bM_tooMuch 6 = .ok (.ladd, 1) := by decide +kernel
theorem dM_tooMuch_7 : decode bM_tooMuch 7 = .ok (.ldc2_w 52, 3) := by decide +kernel
theorem dM_tooMuch_10 : decode bM_tooMuch 10 = .ok (.lcmp, 1) := by decide +kernel
theorem dM_tooMuch_11 : decode bM_tooMuch 11 = .ok (.ifCond .le 7, 3) := by decide +kernel
theorem dM_tooMuch_14 : decode bM_tooMuch 14 = .ok (.iconst 1, 1) := by decide +kernel
theorem dM_tooMuch_15 : decode bM_tooMuch 15 = .ok (.goto 4, 3) := by decide +kernel
theorem dM_tooMuch_18 : decode bM_tooMuch 18 = .ok (.iconst 0, 1) := by decide +kernel
theorem dM_tooMuch_19 : decode bM_tooMuch 19 = .ok (.ireturn, 1) := by decide +kernel
theorem dM_write_0 : decode bM_write 0 = .ok (.aload_n 0, 1) := by decide +kernel
theorem dM_write_1 : decode bM_write 1 = .ok (.getfield 7, 3) := by decide +kernel
theorem dM_write_4 : decode bM_write 4 = .ok (.bipush 6, 2) := by decide +kernel
theorem dM_write_6 : decode bM_write 6 = .ok (.aload_n 0, 1) := by decide +kernel
theorem dM_write_7 : decode bM_write 7 = .ok (.getfield 27, 3) := by decide +kernel
theorem dM_write_10 : decode bM_write 10 = .ok (.imul, 1) := by decide +kernel
theorem dM_write_11 : decode bM_write 11 = .ok (.iload_n 1, 1) := by decide +kernel
theorem dM_write_12 : decode bM_write 12 = .ok (.iadd, 1) := by decide +kernel
theorem dM_write_13 : decode bM_write 13 = .ok (.iload_n 2, 1) := by decide +kernel
theorem dM_write_14 : decode bM_write 14 = .ok (.iastore, 1) := by decide +kernel
theorem dM_write_15 : decode bM_write 15 = .ok (.return_, 1) := by decide +kernel
theorem dM_add_0 : decode bM_add 0 = .ok (.aload_n 0, 1) := by decide +kernel
theorem dM_add_1 : decode bM_add 1 = .ok (.iconst 0, 1) := by decide +kernel
theorem dM_add_2 : decode bM_add 2 = .ok (.iload_n 1, 1) := by decide +kernel
theorem dM_add_3 : decode bM_add 3 = .ok (.invokevirtual 54, 3) := by decide +kernel
theorem dM_add_6 : decode bM_add 6 = .ok (.aload_n 0, 1) := by decide +kernel
theorem dM_add_7 : decode bM_add 7 = .ok (.iconst 1, 1) := by decide +kernel
theorem dM_add_8 : decode bM_add 8 = .ok (.iload_n 2, 1) := by decide +kernel
theorem dM_add_9 : decode bM_add 9 = .ok (.invokevirtual 54, 3) := by decide +kernel
theorem dM_add_12 : decode bM_add 12 = .ok (.aload_n 0, 1) := by decide +kernel
theorem dM_add_13 : decode bM_add 13 = .ok (.iconst 2, 1) := by decide +kernel
theorem dM_add_14 : decode bM_add 14 = .ok (.iload_n 3, 1) := by decide +kernel
theorem dM_add_15 : decode bM_add 15 = .ok (.invokevirtual 54, 3) := by decide +kernel
theorem dM_add_18 : decode bM_add 18 = .ok (.aload_n 0, 1) := by decide +kernel
theorem dM_add_19 : decode bM_add 19 = .ok (.iconst 3, 1) := by decide +kernel
theorem dM_add_20 : decode bM_add 20 = .ok (.iload 4, 2) := by decide +kernel
theorem dM_add_22 : decode bM_add 22 = .ok (.invokevirtual 54, 3) := by decide +kernel
theorem dM_add_25 : decode bM_add 25 = .ok (.aload_n 0, 1) := by decide +kernel
theorem dM_add_26 : decode bM_add 26 = .ok (.iconst 4, 1) := by decide +kernel
theorem dM_add_27 : decode bM_add 27 = .ok (.iload 5, 2) := by decide +kernel
theorem dM_add_29 : decode bM_add 29 = .ok (.invokevirtual 54, 3) := by decide +kernel
theorem dM_add_32 : decode bM_add 32 = .ok (.aload_n 0, 1) := by decide +kernel
theorem dM_add_33 : decode bM_add 33 = .ok (.iconst 5, 1) := by decide +kernel
theorem dM_add_34 : decode bM_add 34 = .ok (.iload 6, 2) := by decide +kernel
theorem dM_add_36 : decode bM_add 36 = .ok (.invokevirtual 54, 3) := by decide +kernel
theorem dM_add_39 : decode bM_add 39 = .ok (.aload_n 0, 1) := by decide +kernel
theorem dM_add_40 : decode bM_add 40 = .ok (.getfield 13, 3) := by decide +kernel
theorem dM_add_43 : decode bM_add 43 = .ok (.aload_n 0, 1) := by decide +kernel
theorem dM_add_44 : decode bM_add 44 = .ok (.getfield 27, 3) := by decide +kernel
theorem dM_add_47 : decode bM_add 47 = .ok (.aload_n 0, 1) := by decide +kernel
theorem dM_add_48 : decode bM_add 48 = .ok (.aload_n 0, 1) := by decide +kernel
theorem dM_add_49 : decode bM_add 49 = .ok (.getfield 27, 3) := by decide +kernel
theorem dM_add_52 : decode bM_add 52 = .ok (.aload_n 0, 1) := by decide +kernel
theorem dM_add_53 : decode bM_add 53 = .ok (.aload_n 0, 1) := by decide +kernel
theorem dM_add_54 : decode bM_add 54 = .ok (.getfield 27, 3) := by decide +kernel
theorem dM_add_57 : decode bM_add 57 = .ok (.invokevirtual 58, 3) := by decide +kernel
theorem dM_add_60 : decode bM_add 60 = .ok (.invokevirtual 61, 3) := by decide +kernel
theorem dM_add_63 : decode bM_add 63 = .ok (.lastore, 1) := by decide +kernel
theorem dM_add_64 : decode bM_add 64 = .ok (.aload_n 0, 1) := by decide +kernel
theorem dM_add_65 : decode bM_add 65 = .ok (.aload_n 0, 1) := by decide +kernel
theorem dM_add_66 : decode bM_add 66 = .ok (.getfield 27, 3) := by decide +kernel
theorem dM_add_69 : decode bM_add 69 = .ok (.iconst 1, 1) := by decide +kernel
theorem dM_add_70 : decode bM_add 70 = .ok (.iadd, 1) := by decide +kernel
theorem dM_add_71 : decode bM_add 71 = .ok (.putfield 27, 3) := by decide +kernel
theorem dM_add_74 : decode bM_add 74 = .ok (.aload_n 0, 1) := by decide +kernel
theorem dM_add_75 : decode bM_add 75 = .ok (.getfield 27, 3) := by decide +kernel
theorem dM_add_78 : decode bM_add 78 = .ok (.iconst 1, 1) := by decide +kernel
theorem dM_add_79 : decode bM_add 79 = .ok (.isub, 1) := by decide +kernel
theorem dM_add_80 : decode bM_add 80 = .ok (.ireturn, 1) := by decide +kernel
theorem dM_post_0 : decode bM_post 0 = .ok (.aload_n 0, 1) := by decide +kernel
theorem dM_post_1 : decode bM_post 1 = .ok (.aload_n 0, 1) := by decide +kernel
theorem dM_post_2 : decode bM_post 2 = .ok (.getfield 65, 3) := by decide +kernel
theorem dM_post_5 : decode bM_post 5 = .ok (.ifCond .eq 7, 3) := by decide +kernel
theorem dM_post_8 : decode bM_post 8 = .ok (.iconst 1, 1) := by decide +kernel
theorem dM_post_9 : decode bM_post 9 = .ok (.goto 4, 3) := by decide +kernel
theorem dM_post_12 : decode bM_post 12 = .ok (.iconst 0, 1) := by decide +kernel
theorem dM_post_13 : decode bM_post 13 = .ok (.putfield 23, 3) := by decide +kernel
theorem dM_post_16 : decode bM_post 16 = .ok (.aload_n 0, 1) := by decide +kernel
theorem dM_post_17 : decode bM_post 17 = .ok (.getfield 23, 3) := by decide +kernel
theorem dM_post_20 : decode bM_post 20 = .ok (.ifCond .ne 92, 3) := by decide +kernel
theorem dM_post_23 : decode bM_post 23 = .ok (.iload_n 1, 1) := by decide +kernel
theorem dM_post_24 : decode bM_post 24 = .ok (.invokestatic 69, 3) := by decide +kernel
theorem dM_post_27 : decode bM_post 27 = .ok (.ifCond .eq 31, 3) := by decide +kernel
theorem dM_post_30 : decode bM_post 30 = .ok (.iload_n 2, 1) := by decide +kernel
theorem dM_post_31 : decode bM_post 31 = .ok (.invokestatic 69, 3) := by decide +kernel
theorem dM_post_34 : decode bM_post 34 = .ok (.ifCond .eq 24, 3) := by decide +kernel
theorem dM_post_37 : decode bM_post 37 = .ok (.iload_n 1, 1) := by decide +kernel
theorem dM_post_38 : decode bM_post 38 = .ok (.iload_n 2, 1) := by decide +kernel
theorem dM_post_39 : decode bM_post 39 = .ok (.if_icmp .eq 19, 3) := by decide +kernel
theorem dM_post_42 : decode bM_post 42 = .ok (.iload_n 3, 1) := by decide +kernel
theorem dM_post_43 : decode bM_post 43 = .ok (.ifCond .le 15, 3) := by decide +kernel
theorem dM_post_46 : decode bM_post 46 = .ok (.iload 4, 2) := by decide +kernel
theorem dM_post_48 : decode bM_post 48 = .ok (.invokestatic 73, 3) := by decide +kernel
theorem dM_post_51 : decode bM_post 51 = .ok (.ifCond .eq 7, 3) := by decide +kernel
theorem dM_post_54 : decode bM_post 54 = .ok (.iconst 1, 1) := by decide +kernel
theorem dM_post_55 : decode bM_post 55 = .ok (.goto 4, 3) := by decide +kernel
theorem dM_post_58 : decode bM_post 58 = .ok (.iconst 0, 1) := by decide +kernel
theorem dM_post_59 : decode bM_post 59 = .ok (.istore 5, 2) := by decide +kernel
theorem dM_post_61 : decode bM_post 61 = .ok (.aload_n 0, 1) := by decide +kernel
theorem dM_post_62 : decode bM_post 62 = .ok (.iload 5, 2) := by decide +kernel
theorem dM_post_64 : decode bM_post 64 = .ok (.ifCond .ne 7, 3) := by decide +kernel
theorem dM_post_67 : decode bM_post 67 = .ok (.iconst 2, 1) := by decide +kernel
theorem dM_post_68 : decode bM_post 68 = .ok (.goto 41, 3) := by decide +kernel
theorem dM_post_71 : decode bM_post 71 = .ok (.aload_n 0, 1) := by decide +kernel
theorem dM_post_72 : decode bM_post 72 = .ok (.getfield 27, 3) := by decide +kernel
theorem dM_post_75 : decode bM_post 75 = .ok (.bipush 64, 2) := by decide +kernel
theorem dM_post_77 : decode bM_post 77 = .ok (.if_icmp .ne 7, 3) := by decide +kernel
theorem dM_post_80 : decode bM_post 80 = .ok (.iconst 3, 1) := by decide +kernel
theorem dM_post_81 : decode bM_post 81 = .ok (.goto 28, 3) := by decide +kernel
theorem dM_post_84 : decode bM_post 84 = .ok (.aload_n 0, 1) := by decide +kernel
theorem dM_post_85 : decode bM_post 85 = .ok (.iload_n 1, 1) := by decide +kernel
theorem dM_post_86 : decode bM_post 86 = .ok (.iload_n 3, 1) := by decide +kernel
theorem dM_post_87 : decode bM_post 87 = .ok (.i2l, 1) := by decide +kernel
theorem dM_post_88 : decode bM_post 88 = .ok (.invokevirtual 76, 3) := by decide +kernel
theorem dM_post_91 : decode bM_post 91 = .ok (.ifCond .ne 13, 3) := by decide +kernel
theorem dM_post_94 : decode bM_post 94 = .ok (.aload_n 0, 1) := by decide +kernel
theorem dM_post_95 : decode bM_post 95 = .ok (.iload_n 2, 1) := by decide +kernel
theorem dM_post_96 : decode bM_post 96 = .ok (.iload_n 3, 1) := by decide +kernel
theorem dM_post_97 : decode bM_post 97 = .ok (.i2l, 1) := by decide +kernel
theorem dM_post_98 : decode bM_post 98 = .ok (.invokevirtual 76, 3) := by decide +kernel
theorem dM_post_101 : decode bM_post 101 = .ok (.ifCond .eq 7, 3) := by decide +kernel
theorem dM_post_104 : decode bM_post 104 = .ok (.iconst 4, 1) := by decide +kernel
theorem dM_post_105 : decode bM_post 105 = .ok (.goto 4, 3) := by decide +kernel
theorem dM_post_108 : decode bM_post 108 = .ok (.iconst 0, 1) := by decide +kernel
theorem dM_post_109 : decode bM_post 109 = .ok (.putfield 23, 3) := by decide +kernel
theorem dM_post_112 : decode bM_post 112 = .ok (.aload_n 0, 1) := by decide +kernel
theorem dM_post_113 : decode bM_post 113 = .ok (.getfield 23, 3) := by decide +kernel
theorem dM_post_116 : decode bM_post 116 = .ok (.ifCond .le 5, 3) := by decide +kernel
theorem dM_post_119 : decode bM_post 119 = .ok (.iconst 0, 1) := by decide +kernel
theorem dM_post_120 : decode bM_post 120 = .ok (.ireturn, 1) := by decide +kernel
theorem dM_post_121 : decode bM_post 121 = .ok (.aload_n 0, 1) := by decide +kernel
theorem dM_post_122 : decode bM_post 122 = .ok (.iconst 0, 1) := by decide +kernel
theorem dM_post_123 : decode bM_post 123 = .ok (.aload_n 0, 1) := by decide +kernel
theorem dM_post_124 : decode bM_post 124 = .ok (.getfield 42, 3) := by decide +kernel
theorem dM_post_127 : decode bM_post 127 = .ok (.iload_n 1, 1) := by decide +kernel
theorem dM_post_128 : decode bM_post 128 = .ok (.iload_n 2, 1) := by decide +kernel
theorem dM_post_129 : decode bM_post 129 = .ok (.iload_n 3, 1) := by decide +kernel
theorem dM_post_130 : decode bM_post 130 = .ok (.iload 4, 2) := by decide +kernel
theorem dM_post_132 : decode bM_post 132 = .ok (.invokevirtual 80, 3) := by decide +kernel
theorem dM_post_135 : decode bM_post 135 = .ok (.pop, 1) := by decide +kernel
theorem dM_post_136 : decode bM_post 136 = .ok (.aload_n 0, 1) := by decide +kernel
theorem dM_post_137 : decode bM_post 137 = .ok (.aload_n 0, 1) := by decide +kernel
theorem dM_post_138 : decode bM_post 138 = .ok (.getfield 42, 3) := by decide +kernel
theorem dM_post_141 : decode bM_post 141 = .ok (.iconst 1, 1) := by decide +kernel
theorem dM_post_142 : decode bM_post 142 = .ok (.iadd, 1) := by decide +kernel
theorem dM_post_143 : decode bM_post 143 = .ok (.putfield 42, 3) := by decide +kernel
theorem dM_post_146 : decode bM_post 146 = .ok (.aload_n 0, 1) := by decide +kernel
theorem dM_post_147 : decode bM_post 147 = .ok (.getfield 42, 3) := by decide +kernel
theorem dM_post_150 : decode bM_post 150 = .ok (.iconst 1, 1) := by decide +kernel
theorem dM_post_151 : decode bM_post 151 = .ok (.isub, 1) := by decide +kernel
theorem dM_post_152 : decode bM_post 152 = .ok (.ireturn, 1) := by decide +kernel
theorem dM_living_0 : decode bM_living 0 = .ok (.iload_n 1, 1) := by decide +kernel
theorem dM_living_1 : decode bM_living 1 = .ok (.ifCond .lt 23, 3) := by decide +kernel
theorem dM_living_4 : decode bM_living 4 = .ok (.iload_n 1, 1) := by decide +kernel
theorem dM_living_5 : decode bM_living 5 = .ok (.aload_n 0, 1) := by decide +kernel
theorem dM_living_6 : decode bM_living 6 = .ok (.getfield 42, 3) := by decide +kernel
theorem dM_living_9 : decode bM_living 9 = .ok (.if_icmp .ge 15, 3) := by decide +kernel
theorem dM_living_12 : decode bM_living 12 = .ok (.aload_n 0, 1) := by decide +kernel
theorem dM_living_13 : decode bM_living 13 = .ok (.iload_n 1, 1) := by decide +kernel
theorem dM_living_14 : decode bM_living 14 = .ok (.aload_n 0, 1) := by decide +kernel
theorem dM_living_15 : decode bM_living 15 = .ok (.getfield 27, 3) := by decide +kernel
theorem dM_living_18 : decode bM_living 18 = .ok (.invokevirtual 45, 3) := by decide +kernel
theorem dM_living_21 : decode bM_living 21 = .ok (.goto 4, 3) := by decide +kernel
theorem dM_living_24 : decode bM_living 24 = .ok (.iconst (-1), 1) := by decide +kernel
theorem dM_living_25 : decode bM_living 25 = .ok (.istore_n 2, 1) := by decide +kernel
theorem dM_living_26 : decode bM_living 26 = .ok (.iload_n 2, 1) := by decide +kernel
theorem dM_living_27 : decode bM_living 27 = .ok (.ifCond .lt 17, 3) := by decide +kernel
theorem dM_living_30 : decode bM_living 30 = .ok (.aload_n 0, 1) := by decide +kernel
theorem dM_living_31 : decode bM_living 31 = .ok (.iload_n 2, 1) := by decide +kernel
theorem dM_living_32 : decode bM_living 32 = .ok (.iconst 0, 1) := by decide +kernel
theorem dM_living_33 : decode bM_living 33 = .ok (.invokevirtual 30, 3) := by decide +kernel
theorem dM_living_36 : decode bM_living 36 = .ok (.iconst 2, 1) := by decide +kernel
theorem dM_living_37 : decode bM_living 37 = .ok (.if_icmp .ne 7, 3) := by decide +kernel
theorem dM_living_40 : decode bM_living 40 = .ok (.iconst (-1), 1) := by decide +kernel
theorem dM_living_41 : decode bM_living 41 = .ok (.goto 4, 3) := by decide +kernel
theorem dM_living_44 : decode bM_living 44 = .ok (.iload_n 2, 1) := by decide +kernel
theorem dM_living_45 : decode bM_living 45 = .ok (.ireturn, 1) := by decide +kernel
theorem dM_correct_0 : decode bM_correct 0 = .ok (.aload_n 0, 1) := by decide +kernel
theorem dM_correct_1 : decode bM_correct 1 = .ok (.aload_n 0, 1) := by decide +kernel
theorem dM_correct_2 : decode bM_correct 2 = .ok (.getfield 65, 3) := by decide +kernel
theorem dM_correct_5 : decode bM_correct 5 = .ok (.ifCond .eq 7, 3) := by decide +kernel
theorem dM_correct_8 : decode bM_correct 8 = .ok (.iconst 1, 1) := by decide +kernel
theorem dM_correct_9 : decode bM_correct 9 = .ok (.goto 38, 3) := by decide +kernel
theorem dM_correct_12 : decode bM_correct 12 = .ok (.aload_n 0, 1) := by decide +kernel
theorem dM_correct_13 : decode bM_correct 13 = .ok (.iload_n 1, 1) := by decide +kernel
theorem dM_correct_14 : decode bM_correct 14 = .ok (.invokevirtual 84, 3) := by decide +kernel
theorem dM_correct_17 : decode bM_correct 17 = .ok (.ifCond .ge 7, 3) := by decide +kernel
theorem dM_correct_20 : decode bM_correct 20 = .ok (.iconst 2, 1) := by decide +kernel
theorem dM_correct_21 : decode bM_correct 21 = .ok (.goto 26, 3) := by decide +kernel
theorem dM_correct_24 : decode bM_correct 24 = .ok (.iload_n 2, 1) := by decide +kernel
theorem dM_correct_25 : decode bM_correct 25 = .ok (.iconst 1, 1) := by decide +kernel
theorem dM_correct_26 : decode bM_correct 26 = .ok (.if_icmp .ge 7, 3) := by decide +kernel
theorem dM_correct_29 : decode bM_correct 29 = .ok (.iconst 3, 1) := by decide +kernel
theorem dM_correct_30 : decode bM_correct 30 = .ok (.goto 17, 3) := by decide +kernel
theorem dM_correct_33 : decode bM_correct 33 = .ok (.aload_n 0, 1) := by decide +kernel
theorem dM_correct_34 : decode bM_correct 34 = .ok (.getfield 27, 3) := by decide +kernel
theorem dM_correct_37 : decode bM_correct 37 = .ok (.bipush 64, 2) := by decide +kernel
theorem dM_correct_39 : decode bM_correct 39 = .ok (.if_icmp .ne 7, 3) := by decide +kernel
theorem dM_correct_42 : decode bM_correct 42 = .ok (.iconst 4, 1) := by decide +kernel
theorem dM_correct_43 : decode bM_correct 43 = .ok (.goto 4, 3) := by decide +kernel
theorem dM_correct_46 : decode bM_correct 46 = .ok (.iconst 0, 1) := by decide +kernel
theorem dM_correct_47 : decode bM_correct 47 = .ok (.putfield 23, 3) := by decide +kernel
theorem dM_correct_50 : decode bM_correct 50 = .ok (.aload_n 0, 1) := by decide +kernel
theorem dM_correct_51 : decode bM_correct 51 = .ok (.getfield 23, 3) := by decide +kernel
theorem dM_correct_54 : decode bM_correct 54 = .ok (.ifCond .le 5, 3) := by decide +kernel
theorem dM_correct_57 : decode bM_correct 57 = .ok (.iconst 0, 1) := by decide +kernel
theorem dM_correct_58 : decode bM_correct 58 = .ok (.ireturn, 1) := by decide +kernel
theorem dM_correct_59 : decode bM_correct 59 = .ok (.aload_n 0, 1) := by decide +kernel
theorem dM_correct_60 : decode bM_correct 60 = .ok (.iload_n 1, 1) := by decide +kernel
theorem dM_correct_61 : decode bM_correct 61 = .ok (.invokevirtual 84, 3) := by decide +kernel
theorem dM_correct_64 : decode bM_correct 64 = .ok (.istore_n 3, 1) := by decide +kernel
theorem dM_correct_65 : decode bM_correct 65 = .ok (.iload_n 2, 1) := by decide +kernel
theorem dM_correct_66 : decode bM_correct 66 = .ok (.i2l, 1) := by decide +kernel
theorem dM_correct_67 : decode bM_correct 67 = .ok (.aload_n 0, 1) := by decide +kernel
theorem dM_correct_68 : decode bM_correct 68 = .ok (.iload_n 3, 1) := by decide +kernel
theorem dM_correct_69 : decode bM_correct 69 = .ok (.iconst 4, 1) := by decide +kernel
theorem dM_correct_70 : decode bM_correct 70 = .ok (.invokevirtual 30, 3) := by decide +kernel
theorem dM_correct_73 : decode bM_correct 73 = .ok (.i2l, 1) := by decide +kernel
theorem dM_correct_74 : decode bM_correct 74 = .ok (.lsub, 1) := by decide +kernel
theorem dM_correct_75 : decode bM_correct 75 = .ok (.lstore 4, 2) := by decide +kernel
theorem dM_correct_77 : decode bM_correct 77 = .ok (.aload_n 0, 1) := by decide +kernel
theorem dM_correct_78 : decode bM_correct 78 = .ok (.aload_n 0, 1) := by decide +kernel
theorem dM_correct_79 : decode bM_correct 79 = .ok (.aload_n 0, 1) := by decide +kernel
theorem dM_correct_80 : decode bM_correct 80 = .ok (.iload_n 3, 1) := by decide +kernel
theorem dM_correct_81 : decode bM_correct 81 = .ok (.iconst 2, 1) := by decide +kernel
theorem dM_correct_82 : decode bM_correct 82 = .ok (.invokevirtual 30, 3) := by decide +kernel
theorem dM_correct_85 : decode bM_correct 85 = .ok (.lload 4, 2) := by decide +kernel
theorem dM_correct_87 : decode bM_correct 87 = .ok (.invokevirtual 76, 3) := by decide +kernel
theorem dM_correct_90 : decode bM_correct 90 = .ok (.ifCond .ne 18, 3) := by decide +kernel
theorem dM_correct_93 : decode bM_correct 93 = .ok (.aload_n 0, 1) := by decide +kernel
theorem dM_correct_94 : decode bM_correct 94 = .ok (.aload_n 0, 1) := by decide +kernel
theorem dM_correct_95 : decode bM_correct 95 = .ok (.iload_n 3, 1) := by decide +kernel
theorem dM_correct_96 : decode bM_correct 96 = .ok (.iconst 3, 1) := by decide +kernel
theorem dM_correct_97 : decode bM_correct 97 = .ok (.invokevirtual 30, 3) := by decide +kernel
theorem dM_correct_100 : decode bM_correct 100 = .ok (.lload 4, 2) := by decide +kernel
theorem dM_correct_102 : decode bM_correct 102 = .ok (.invokevirtual 76, 3) := by decide +kernel
theorem dM_correct_105 : decode bM_correct 105 = .ok (.ifCond .eq 7, 3) := by decide +kernel
theorem dM_correct_108 : decode bM_correct 108 = .ok (.iconst 5, 1) := by decide +kernel
theorem dM_correct_109 : decode bM_correct 109 = .ok (.goto 4, 3) := by decide +kernel
theorem dM_correct_112 : decode bM_correct 112 = .ok (.iconst 0, 1) := by decide +kernel
theorem dM_correct_113 : decode bM_correct 113 = .ok (.putfield 23, 3) := by decide +kernel
theorem dM_correct_116 : decode bM_correct 116 = .ok (.aload_n 0, 1) := by decide +kernel
theorem dM_correct_117 : decode bM_correct 117 = .ok (.getfield 23, 3) := by decide +kernel
theorem dM_correct_120 : decode bM_correct 120 = .ok (.ifCond .le 7, 3) := by decide +kernel
theorem dM_correct_123 : decode bM_correct 123 = .ok (.iconst 0, 1) := by decide +kernel
theorem dM_correct_124 : decode bM_correct 124 = .ok (.goto 28, 3) := by decide +kernel
theorem dM_correct_127 : decode bM_correct 127 = .ok (.aload_n 0, 1) := by decide +kernel
theorem dM_correct_128 : decode bM_correct 128 = .ok (.iconst 1, 1) := by decide +kernel
theorem dM_correct_129 : decode bM_correct 129 = .ok (.iload_n 1, 1) := by decide +kernel
theorem dM_correct_130 : decode bM_correct 130 = .ok (.aload_n 0, 1) := by decide +kernel
theorem dM_correct_131 : decode bM_correct 131 = .ok (.iload_n 3, 1) := by decide +kernel
theorem dM_correct_132 : decode bM_correct 132 = .ok (.iconst 2, 1) := by decide +kernel
theorem dM_correct_133 : decode bM_correct 133 = .ok (.invokevirtual 30, 3) := by decide +kernel
theorem dM_correct_136 : decode bM_correct 136 = .ok (.aload_n 0, 1) := by decide +kernel
theorem dM_correct_137 : decode bM_correct 137 = .ok (.iload_n 3, 1) := by decide +kernel
theorem dM_correct_138 : decode bM_correct 138 = .ok (.iconst 3, 1) := by decide +kernel
theorem dM_correct_139 : decode bM_correct 139 = .ok (.invokevirtual 30, 3) := by decide +kernel
theorem dM_correct_142 : decode bM_correct 142 = .ok (.iload_n 2, 1) := by decide +kernel
theorem dM_correct_143 : decode bM_correct 143 = .ok (.aload_n 0, 1) := by decide +kernel
theorem dM_correct_144 : decode bM_correct 144 = .ok (.iload_n 3, 1) := by decide +kernel
theorem dM_correct_145 : decode bM_correct 145 = .ok (.iconst 5, 1) := by decide +kernel
theorem dM_correct_146 : decode bM_correct 146 = .ok (.invokevirtual 30, 3) := by decide +kernel
theorem dM_correct_149 : decode bM_correct 149 = .ok (.invokevirtual 80, 3) := by decide +kernel
theorem dM_correct_152 : decode bM_correct 152 = .ok (.ireturn, 1) := by decide +kernel
theorem dM_annul_0 : decode bM_annul 0 = .ok (.aload_n 0, 1) := by decide +kernel
theorem dM_annul_1 : decode bM_annul 1 = .ok (.aload_n 0, 1) := by decide +kernel
theorem dM_annul_2 : decode bM_annul 2 = .ok (.getfield 65, 3) := by decide +kernel
theorem dM_annul_5 : decode bM_annul 5 = .ok (.ifCond .eq 7, 3) := by decide +kernel
theorem dM_annul_8 : decode bM_annul 8 = .ok (.iconst 1, 1) := by decide +kernel
theorem dM_annul_9 : decode bM_annul 9 = .ok (.goto 29, 3) := by decide +kernel
theorem dM_annul_12 : decode bM_annul 12 = .ok (.aload_n 0, 1) := by decide +kernel
theorem dM_annul_13 : decode bM_annul 13 = .ok (.iload_n 1, 1) := by decide +kernel
theorem dM_annul_14 : decode bM_annul 14 = .ok (.invokevirtual 84, 3) := by decide +kernel
theorem dM_annul_17 : decode bM_annul 17 = .ok (.ifCond .ge 7, 3) := by decide +kernel
theorem dM_annul_20 : decode bM_annul 20 = .ok (.iconst 2, 1) := by decide +kernel
theorem dM_annul_21 : decode bM_annul 21 = .ok (.goto 17, 3) := by decide +kernel
theorem dM_annul_24 : decode bM_annul 24 = .ok (.aload_n 0, 1) := by decide +kernel
theorem dM_annul_25 : decode bM_annul 25 = .ok (.getfield 27, 3) := by decide +kernel
theorem dM_annul_28 : decode bM_annul 28 = .ok (.bipush 64, 2) := by decide +kernel
theorem dM_annul_30 : decode bM_annul 30 = .ok (.if_icmp .ne 7, 3) := by decide +kernel
theorem dM_annul_33 : decode bM_annul 33 = .ok (.iconst 3, 1) := by decide +kernel
theorem dM_annul_34 : decode bM_annul 34 = .ok (.goto 4, 3) := by decide +kernel
theorem dM_annul_37 : decode bM_annul 37 = .ok (.iconst 0, 1) := by decide +kernel
theorem dM_annul_38 : decode bM_annul 38 = .ok (.putfield 23, 3) := by decide +kernel
theorem dM_annul_41 : decode bM_annul 41 = .ok (.aload_n 0, 1) := by decide +kernel
theorem dM_annul_42 : decode bM_annul 42 = .ok (.getfield 23, 3) := by decide +kernel
theorem dM_annul_45 : decode bM_annul 45 = .ok (.ifCond .le 5, 3) := by decide +kernel
theorem dM_annul_48 : decode bM_annul 48 = .ok (.iconst 0, 1) := by decide +kernel
theorem dM_annul_49 : decode bM_annul 49 = .ok (.ireturn, 1) := by decide +kernel
theorem dM_annul_50 : decode bM_annul 50 = .ok (.aload_n 0, 1) := by decide +kernel
theorem dM_annul_51 : decode bM_annul 51 = .ok (.iload_n 1, 1) := by decide +kernel
theorem dM_annul_52 : decode bM_annul 52 = .ok (.invokevirtual 84, 3) := by decide +kernel
theorem dM_annul_55 : decode bM_annul 55 = .ok (.istore_n 2, 1) := by decide +kernel
theorem dM_annul_56 : decode bM_annul 56 = .ok (.aload_n 0, 1) := by decide +kernel
theorem dM_annul_57 : decode bM_annul 57 = .ok (.iconst 2, 1) := by decide +kernel
theorem dM_annul_58 : decode bM_annul 58 = .ok (.iload_n 1, 1) := by decide +kernel
theorem dM_annul_59 : decode bM_annul 59 = .ok (.aload_n 0, 1) := by decide +kernel
theorem dM_annul_60 : decode bM_annul 60 = .ok (.iload_n 2, 1) := by decide +kernel
theorem dM_annul_61 : decode bM_annul 61 = .ok (.iconst 2, 1) := by decide +kernel
theorem dM_annul_62 : decode bM_annul 62 = .ok (.invokevirtual 30, 3) := by decide +kernel
theorem dM_annul_65 : decode bM_annul 65 = .ok (.aload_n 0, 1) := by decide +kernel
theorem dM_annul_66 : decode bM_annul 66 = .ok (.iload_n 2, 1) := by decide +kernel
theorem dM_annul_67 : decode bM_annul 67 = .ok (.iconst 3, 1) := by decide +kernel
theorem dM_annul_68 : decode bM_annul 68 = .ok (.invokevirtual 30, 3) := by decide +kernel
theorem dM_annul_71 : decode bM_annul 71 = .ok (.iconst 0, 1) := by decide +kernel
theorem dM_annul_72 : decode bM_annul 72 = .ok (.aload_n 0, 1) := by decide +kernel
theorem dM_annul_73 : decode bM_annul 73 = .ok (.iload_n 2, 1) := by decide +kernel
theorem dM_annul_74 : decode bM_annul 74 = .ok (.iconst 5, 1) := by decide +kernel
theorem dM_annul_75 : decode bM_annul 75 = .ok (.invokevirtual 30, 3) := by decide +kernel
theorem dM_annul_78 : decode bM_annul 78 = .ok (.invokevirtual 80, 3) := by decide +kernel
theorem dM_annul_81 : decode bM_annul 81 = .ok (.ireturn, 1) := by decide +kernel
theorem dM_balanceAt_0 : decode bM_balanceAt 0 = .ok (.iconst 0, 1) := by decide +kernel
theorem dM_balanceAt_1 : decode bM_balanceAt 1 = .ok (.istore 4, 2) := by decide +kernel
theorem dM_balanceAt_3 : decode bM_balanceAt 3 = .ok (.iconst 0, 1) := by decide +kernel
theorem dM_balanceAt_4 : decode bM_balanceAt 4 = .ok (.istore 5, 2) := by decide +kernel
theorem dM_balanceAt_6 : decode bM_balanceAt 6 = .ok (.iload 5, 2) := by decide +kernel
theorem dM_balanceAt_8 : decode bM_balanceAt 8 = .ok (.aload_n 0, 1) := by decide +kernel
theorem dM_balanceAt_9 : decode bM_balanceAt 9 = .ok (.getfield 42, 3) := by decide +kernel
theorem dM_balanceAt_12 : decode bM_balanceAt 12 = .ok (.if_icmp .ge 85, 3) := by decide +kernel
theorem dM_balanceAt_15 : decode bM_balanceAt 15 = .ok (.aload_n 0, 1) := by decide +kernel
theorem dM_balanceAt_16 : decode bM_balanceAt 16 = .ok (.iload 5, 2) := by decide +kernel
theorem dM_balanceAt_18 : decode bM_balanceAt 18 = .ok (.iload_n 3, 1) := by decide +kernel
theorem dM_balanceAt_19 : decode bM_balanceAt 19 = .ok (.invokevirtual 45, 3) := by decide +kernel
theorem dM_balanceAt_22 : decode bM_balanceAt 22 = .ok (.istore 6, 2) := by decide +kernel
theorem dM_balanceAt_24 : decode bM_balanceAt 24 = .ok (.iload 6, 2) := by decide +kernel
theorem dM_balanceAt_26 : decode bM_balanceAt 26 = .ok (.ifCond .lt 65, 3) := by decide +kernel
theorem dM_balanceAt_29 : decode bM_balanceAt 29 = .ok (.aload_n 0, 1) := by decide +kernel
theorem dM_balanceAt_30 : decode bM_balanceAt 30 = .ok (.iload 6, 2) := by decide +kernel
theorem dM_balanceAt_32 : decode bM_balanceAt 32 = .ok (.iconst 5, 1) := by decide +kernel
theorem dM_balanceAt_33 : decode bM_balanceAt 33 = .ok (.invokevirtual 30, 3) := by decide +kernel
theorem dM_balanceAt_36 : decode bM_balanceAt 36 = .ok (.iload_n 2, 1) := by decide +kernel
theorem dM_balanceAt_37 : decode bM_balanceAt 37 = .ok (.if_icmp .gt 54, 3) := by decide +kernel
theorem dM_balanceAt_40 : decode bM_balanceAt 40 = .ok (.aload_n 0, 1) := by decide +kernel
theorem dM_balanceAt_41 : decode bM_balanceAt 41 = .ok (.iload 6, 2) := by decide +kernel
theorem dM_balanceAt_43 : decode bM_balanceAt 43 = .ok (.iconst 4, 1) := by decide +kernel
theorem dM_balanceAt_44 : decode bM_balanceAt 44 = .ok (.invokevirtual 30, 3) := by decide +kernel
theorem dM_balanceAt_47 : decode bM_balanceAt 47 = .ok (.istore 7, 2) := by decide +kernel
theorem dM_balanceAt_49 : decode bM_balanceAt 49 = .ok (.aload_n 0, 1) := by decide +kernel
theorem dM_balanceAt_50 : decode bM_balanceAt 50 = .ok (.iload 6, 2) := by decide +kernel
theorem dM_balanceAt_52 : decode bM_balanceAt 52 = .ok (.iconst 2, 1) := by decide +kernel
theorem dM_balanceAt_53 : decode bM_balanceAt 53 = .ok (.invokevirtual 30, 3) := by decide +kernel
theorem dM_balanceAt_56 : decode bM_balanceAt 56 = .ok (.iload_n 1, 1) := by decide +kernel
theorem dM_balanceAt_57 : decode bM_balanceAt 57 = .ok (.if_icmp .ne 11, 3) := by decide +kernel
theorem dM_balanceAt_60 : decode bM_balanceAt 60 = .ok (.iload 4, 2) := by decide +kernel
theorem dM_balanceAt_62 : decode bM_balanceAt 62 = .ok (.iload 7, 2) := by decide +kernel
theorem dM_balanceAt_64 : decode bM_balanceAt 64 = .ok (.iadd, 1) := by decide +kernel
theorem dM_balanceAt_65 : decode bM_balanceAt 65 = .ok (.goto 24, 3) := by decide +kernel
theorem dM_balanceAt_68 : decode bM_balanceAt 68 = .ok (.aload_n 0, 1) := by decide +kernel
theorem dM_balanceAt_69 : decode bM_balanceAt 69 = .ok (.iload 6, 2) := by decide +kernel
theorem dM_balanceAt_71 : decode bM_balanceAt 71 = .ok (.iconst 3, 1) := by decide +kernel
theorem dM_balanceAt_72 : decode bM_balanceAt 72 = .ok (.invokevirtual 30, 3) := by decide +kernel
theorem dM_balanceAt_75 : decode bM_balanceAt 75 = .ok (.iload_n 1, 1) := by decide +kernel
theorem dM_balanceAt_76 : decode bM_balanceAt 76 = .ok (.if_icmp .ne 11, 3) := by decide +kernel
theorem dM_balanceAt_79 : decode bM_balanceAt 79 = .ok (.iload 4, 2) := by decide +kernel
theorem dM_balanceAt_81 : decode bM_balanceAt 81 = .ok (.iload 7, 2) := by decide +kernel
theorem dM_balanceAt_83 : decode bM_balanceAt 83 = .ok (.isub, 1) := by decide +kernel
theorem dM_balanceAt_84 : decode bM_balanceAt 84 = .ok (.goto 5, 3) := by decide +kernel
theorem dM_balanceAt_87 : decode bM_balanceAt 87 = .ok (.iload 4, 2) := by decide +kernel
theorem dM_balanceAt_89 : decode bM_balanceAt 89 = .ok (.istore 4, 2) := by decide +kernel
theorem dM_balanceAt_91 : decode bM_balanceAt 91 = .ok (.iinc 5 1, 3) := by decide +kernel
theorem dM_balanceAt_94 : decode bM_balanceAt 94 = .ok (.goto (-88), 3) := by decide +kernel
theorem dM_balanceAt_97 : decode bM_balanceAt 97 = .ok (.iload 4, 2) := by decide +kernel
theorem dM_balanceAt_99 : decode bM_balanceAt 99 = .ok (.ireturn, 1) := by decide +kernel
theorem dM_balance_0 : decode bM_balance 0 = .ok (.aload_n 0, 1) := by decide +kernel
theorem dM_balance_1 : decode bM_balance 1 = .ok (.aload_n 0, 1) := by decide +kernel
theorem dM_balance_2 : decode bM_balance 2 = .ok (.getfield 65, 3) := by decide +kernel
theorem dM_balance_5 : decode bM_balance 5 = .ok (.ifCond .eq 7, 3) := by decide +kernel
theorem dM_balance_8 : decode bM_balance 8 = .ok (.iconst 1, 1) := by decide +kernel
theorem dM_balance_9 : decode bM_balance 9 = .ok (.goto 30, 3) := by decide +kernel
theorem dM_balance_12 : decode bM_balance 12 = .ok (.iload_n 1, 1) := by decide +kernel
theorem dM_balance_13 : decode bM_balance 13 = .ok (.invokestatic 69, 3) := by decide +kernel
theorem dM_balance_16 : decode bM_balance 16 = .ok (.ifCond .eq 22, 3) := by decide +kernel
theorem dM_balance_19 : decode bM_balance 19 = .ok (.iload_n 2, 1) := by decide +kernel
theorem dM_balance_20 : decode bM_balance 20 = .ok (.invokestatic 73, 3) := by decide +kernel
theorem dM_balance_23 : decode bM_balance 23 = .ok (.ifCond .eq 15, 3) := by decide +kernel
theorem dM_balance_26 : decode bM_balance 26 = .ok (.aload_n 0, 1) := by decide +kernel
theorem dM_balance_27 : decode bM_balance 27 = .ok (.iload_n 3, 1) := by decide +kernel
theorem dM_balance_28 : decode bM_balance 28 = .ok (.invokevirtual 88, 3) := by decide +kernel
theorem dM_balance_31 : decode bM_balance 31 = .ok (.ifCond .eq 7, 3) := by decide +kernel
theorem dM_balance_34 : decode bM_balance 34 = .ok (.iconst 0, 1) := by decide +kernel
theorem dM_balance_35 : decode bM_balance 35 = .ok (.goto 4, 3) := by decide +kernel
theorem dM_balance_38 : decode bM_balance 38 = .ok (.iconst 2, 1) := by decide +kernel
theorem dM_balance_39 : decode bM_balance 39 = .ok (.putfield 23, 3) := by decide +kernel
theorem dM_balance_42 : decode bM_balance 42 = .ok (.aload_n 0, 1) := by decide +kernel
theorem dM_balance_43 : decode bM_balance 43 = .ok (.getfield 23, 3) := by decide +kernel
theorem dM_balance_46 : decode bM_balance 46 = .ok (.ifCond .le 7, 3) := by decide +kernel
theorem dM_balance_49 : decode bM_balance 49 = .ok (.iconst 0, 1) := by decide +kernel
theorem dM_balance_50 : decode bM_balance 50 = .ok (.goto 10, 3) := by decide +kernel
theorem dM_balance_53 : decode bM_balance 53 = .ok (.aload_n 0, 1) := by decide +kernel
theorem dM_balance_54 : decode bM_balance 54 = .ok (.iload_n 1, 1) := by decide +kernel
theorem dM_balance_55 : decode bM_balance 55 = .ok (.iload_n 2, 1) := by decide +kernel
theorem dM_balance_56 : decode bM_balance 56 = .ok (.iload_n 3, 1) := by decide +kernel
theorem dM_balance_57 : decode bM_balance 57 = .ok (.invokevirtual 91, 3) := by decide +kernel
theorem dM_balance_60 : decode bM_balance 60 = .ok (.ireturn, 1) := by decide +kernel
theorem dM_trial_0 : decode bM_trial 0 = .ok (.aload_n 0, 1) := by decide +kernel
theorem dM_trial_1 : decode bM_trial 1 = .ok (.aload_n 0, 1) := by decide +kernel
theorem dM_trial_2 : decode bM_trial 2 = .ok (.getfield 65, 3) := by decide +kernel
theorem dM_trial_5 : decode bM_trial 5 = .ok (.ifCond .eq 7, 3) := by decide +kernel
theorem dM_trial_8 : decode bM_trial 8 = .ok (.iconst 1, 1) := by decide +kernel
theorem dM_trial_9 : decode bM_trial 9 = .ok (.goto 23, 3) := by decide +kernel
theorem dM_trial_12 : decode bM_trial 12 = .ok (.iload_n 1, 1) := by decide +kernel
theorem dM_trial_13 : decode bM_trial 13 = .ok (.invokestatic 73, 3) := by decide +kernel
theorem dM_trial_16 : decode bM_trial 16 = .ok (.ifCond .eq 15, 3) := by decide +kernel
theorem dM_trial_19 : decode bM_trial 19 = .ok (.aload_n 0, 1) := by decide +kernel
theorem dM_trial_20 : decode bM_trial 20 = .ok (.iload_n 2, 1) := by decide +kernel
theorem dM_trial_21 : decode bM_trial 21 = .ok (.invokevirtual 88, 3) := by decide +kernel
theorem dM_trial_24 : decode bM_trial 24 = .ok (.ifCond .eq 7, 3) := by decide +kernel
theorem dM_trial_27 : decode bM_trial 27 = .ok (.iconst 0, 1) := by decide +kernel
theorem dM_trial_28 : decode bM_trial 28 = .ok (.goto 4, 3) := by decide +kernel
theorem dM_trial_31 : decode bM_trial 31 = .ok (.iconst 2, 1) := by decide +kernel
theorem dM_trial_32 : decode bM_trial 32 = .ok (.putfield 23, 3) := by decide +kernel
theorem dM_trial_35 : decode bM_trial 35 = .ok (.iconst 0, 1) := by decide +kernel
theorem dM_trial_36 : decode bM_trial 36 = .ok (.istore_n 3, 1) := by decide +kernel
theorem dM_trial_37 : decode bM_trial 37 = .ok (.iconst 0, 1) := by decide +kernel
theorem dM_trial_38 : decode bM_trial 38 = .ok (.istore 4, 2) := by decide +kernel
theorem dM_trial_40 : decode bM_trial 40 = .ok (.iload 4, 2) := by decide +kernel
theorem dM_trial_42 : decode bM_trial 42 = .ok (.bipush 16, 2) := by decide +kernel
theorem dM_trial_44 : decode bM_trial 44 = .ok (.if_icmp .ge 27, 3) := by decide +kernel
theorem dM_trial_47 : decode bM_trial 47 = .ok (.aload_n 0, 1) := by decide +kernel
theorem dM_trial_48 : decode bM_trial 48 = .ok (.getfield 23, 3) := by decide +kernel
theorem dM_trial_51 : decode bM_trial 51 = .ok (.ifCond .ne 20, 3) := by decide +kernel
theorem dM_trial_54 : decode bM_trial 54 = .ok (.iload_n 3, 1) := by decide +kernel
theorem dM_trial_55 : decode bM_trial 55 = .ok (.aload_n 0, 1) := by decide +kernel
theorem dM_trial_56 : decode bM_trial 56 = .ok (.iload 4, 2) := by decide +kernel
theorem dM_trial_58 : decode bM_trial 58 = .ok (.iload_n 1, 1) := by decide +kernel
theorem dM_trial_59 : decode bM_trial 59 = .ok (.iload_n 2, 1) := by decide +kernel
theorem dM_trial_60 : decode bM_trial 60 = .ok (.invokevirtual 91, 3) := by decide +kernel
theorem dM_trial_63 : decode bM_trial 63 = .ok (.iadd, 1) := by decide +kernel
theorem dM_trial_64 : decode bM_trial 64 = .ok (.istore_n 3, 1) := by decide +kernel
theorem dM_trial_65 : decode bM_trial 65 = .ok (.iinc 4 1, 3) := by decide +kernel
theorem dM_trial_68 : decode bM_trial 68 = .ok (.goto (-28), 3) := by decide +kernel
theorem dM_trial_71 : decode bM_trial 71 = .ok (.iload_n 3, 1) := by decide +kernel
theorem dM_trial_72 : decode bM_trial 72 = .ok (.ireturn, 1) := by decide +kernel
theorem dM_turnover_0 : decode bM_turnover 0 = .ok (.aload_n 0, 1) := by decide +kernel
theorem dM_turnover_1 : decode bM_turnover 1 = .ok (.aload_n 0, 1) := by decide +kernel
theorem dM_turnover_2 : decode bM_turnover 2 = .ok (.getfield 65, 3) := by decide +kernel
theorem dM_turnover_5 : decode bM_turnover 5 = .ok (.ifCond .eq 7, 3) := by decide +kernel
theorem dM_turnover_8 : decode bM_turnover 8 = .ok (.iconst 1, 1) := by decide +kernel
theorem dM_turnover_9 : decode bM_turnover 9 = .ok (.goto 15, 3) := by decide +kernel
theorem dM_turnover_12 : decode bM_turnover 12 = .ok (.iload_n 1, 1) := by decide +kernel
theorem dM_turnover_13 : decode bM_turnover 13 = .ok (.invokestatic 69, 3) := by decide +kernel
theorem dM_turnover_16 : decode bM_turnover 16 = .ok (.ifCond .eq 7, 3) := by decide +kernel
theorem dM_turnover_19 : decode bM_turnover 19 = .ok (.iconst 0, 1) := by decide +kernel
theorem dM_turnover_20 : decode bM_turnover 20 = .ok (.goto 4, 3) := by decide +kernel
theorem dM_turnover_23 : decode bM_turnover 23 = .ok (.iconst 2, 1) := by decide +kernel
theorem dM_turnover_24 : decode bM_turnover 24 = .ok (.putfield 23, 3) := by decide +kernel
theorem dM_turnover_27 : decode bM_turnover 27 = .ok (.aload_n 0, 1) := by decide +kernel
theorem dM_turnover_28 : decode bM_turnover 28 = .ok (.getfield 23, 3) := by decide +kernel
theorem dM_turnover_31 : decode bM_turnover 31 = .ok (.ifCond .le 7, 3) := by decide +kernel
theorem dM_turnover_34 : decode bM_turnover 34 = .ok (.iconst 0, 1) := by decide +kernel
theorem dM_turnover_35 : decode bM_turnover 35 = .ok (.goto 9, 3) := by decide +kernel
theorem dM_turnover_38 : decode bM_turnover 38 = .ok (.aload_n 0, 1) := by decide +kernel
theorem dM_turnover_39 : decode bM_turnover 39 = .ok (.iload_n 1, 1) := by decide +kernel
theorem dM_turnover_40 : decode bM_turnover 40 = .ok (.invokevirtual 48, 3) := by decide +kernel
theorem dM_turnover_43 : decode bM_turnover 43 = .ok (.l2i, 1) := by decide +kernel
theorem dM_turnover_44 : decode bM_turnover 44 = .ok (.ireturn, 1) := by decide +kernel
theorem dM_belongs_0 : decode bM_belongs 0 = .ok (.iload_n 1, 1) := by decide +kernel
theorem dM_belongs_1 : decode bM_belongs 1 = .ok (.ifCond .lt 37, 3) := by decide +kernel
theorem dM_belongs_4 : decode bM_belongs 4 = .ok (.aload_n 0, 1) := by decide +kernel
theorem dM_belongs_5 : decode bM_belongs 5 = .ok (.iload_n 1, 1) := by decide +kernel
theorem dM_belongs_6 : decode bM_belongs 6 = .ok (.iconst 0, 1) := by decide +kernel
theorem dM_belongs_7 : decode bM_belongs 7 = .ok (.invokevirtual 30, 3) := by decide +kernel
theorem dM_belongs_10 : decode bM_belongs 10 = .ok (.iconst 2, 1) := by decide +kernel
theorem dM_belongs_11 : decode bM_belongs 11 = .ok (.if_icmp .eq 27, 3) := by decide +kernel
theorem dM_belongs_14 : decode bM_belongs 14 = .ok (.aload_n 0, 1) := by decide +kernel
theorem dM_belongs_15 : decode bM_belongs 15 = .ok (.iload_n 1, 1) := by decide +kernel
theorem dM_belongs_16 : decode bM_belongs 16 = .ok (.iconst 2, 1) := by decide +kernel
theorem dM_belongs_17 : decode bM_belongs 17 = .ok (.invokevirtual 30, 3) := by decide +kernel
theorem dM_belongs_20 : decode bM_belongs 20 = .ok (.iload_n 2, 1) := by decide +kernel
theorem dM_belongs_21 : decode bM_belongs 21 = .ok (.if_icmp .eq 13, 3) := by decide +kernel
theorem dM_belongs_24 : decode bM_belongs 24 = .ok (.aload_n 0, 1) := by decide +kernel
theorem dM_belongs_25 : decode bM_belongs 25 = .ok (.iload_n 1, 1) := by decide +kernel
theorem dM_belongs_26 : decode bM_belongs 26 = .ok (.iconst 3, 1) := by decide +kernel
theorem dM_belongs_27 : decode bM_belongs 27 = .ok (.invokevirtual 30, 3) := by decide +kernel
theorem dM_belongs_30 : decode bM_belongs 30 = .ok (.iload_n 2, 1) := by decide +kernel
theorem dM_belongs_31 : decode bM_belongs 31 = .ok (.if_icmp .ne 7, 3) := by decide +kernel
theorem dM_belongs_34 : decode bM_belongs 34 = .ok (.iconst 1, 1) := by decide +kernel
theorem dM_belongs_35 : decode bM_belongs 35 = .ok (.goto 4, 3) := by decide +kernel
theorem dM_belongs_38 : decode bM_belongs 38 = .ok (.iconst 0, 1) := by decide +kernel
theorem dM_belongs_39 : decode bM_belongs 39 = .ok (.ireturn, 1) := by decide +kernel
theorem dM_open_0 : decode bM_open 0 = .ok (.aload_n 0, 1) := by decide +kernel
theorem dM_open_1 : decode bM_open 1 = .ok (.aload_n 0, 1) := by decide +kernel
theorem dM_open_2 : decode bM_open 2 = .ok (.getfield 65, 3) := by decide +kernel
theorem dM_open_5 : decode bM_open 5 = .ok (.ifCond .eq 7, 3) := by decide +kernel
theorem dM_open_8 : decode bM_open 8 = .ok (.iconst 1, 1) := by decide +kernel
theorem dM_open_9 : decode bM_open 9 = .ok (.goto 38, 3) := by decide +kernel
theorem dM_open_12 : decode bM_open 12 = .ok (.iload_n 1, 1) := by decide +kernel
theorem dM_open_13 : decode bM_open 13 = .ok (.invokestatic 69, 3) := by decide +kernel
theorem dM_open_16 : decode bM_open 16 = .ok (.ifCond .eq 30, 3) := by decide +kernel
theorem dM_open_19 : decode bM_open 19 = .ok (.iload_n 2, 1) := by decide +kernel
theorem dM_open_20 : decode bM_open 20 = .ok (.invokestatic 73, 3) := by decide +kernel
theorem dM_open_23 : decode bM_open 23 = .ok (.ifCond .eq 23, 3) := by decide +kernel
theorem dM_open_26 : decode bM_open 26 = .ok (.iload_n 3, 1) := by decide +kernel
theorem dM_open_27 : decode bM_open 27 = .ok (.invokestatic 73, 3) := by decide +kernel
theorem dM_open_30 : decode bM_open 30 = .ok (.ifCond .eq 16, 3) := by decide +kernel
theorem dM_open_33 : decode bM_open 33 = .ok (.aload_n 0, 1) := by decide +kernel
theorem dM_open_34 : decode bM_open 34 = .ok (.iload 4, 2) := by decide +kernel
theorem dM_open_36 : decode bM_open 36 = .ok (.invokevirtual 88, 3) := by decide +kernel
theorem dM_open_39 : decode bM_open 39 = .ok (.ifCond .eq 7, 3) := by decide +kernel
theorem dM_open_42 : decode bM_open 42 = .ok (.iconst 0, 1) := by decide +kernel
theorem dM_open_43 : decode bM_open 43 = .ok (.goto 4, 3) := by decide +kernel
theorem dM_open_46 : decode bM_open 46 = .ok (.iconst 2, 1) := by decide +kernel
theorem dM_open_47 : decode bM_open 47 = .ok (.putfield 23, 3) := by decide +kernel
theorem dM_open_50 : decode bM_open 50 = .ok (.aload_n 0, 1) := by decide +kernel
theorem dM_open_51 : decode bM_open 51 = .ok (.getfield 23, 3) := by decide +kernel
theorem dM_open_54 : decode bM_open 54 = .ok (.ifCond .le 5, 3) := by decide +kernel
theorem dM_open_57 : decode bM_open 57 = .ok (.iconst 0, 1) := by decide +kernel
theorem dM_open_58 : decode bM_open 58 = .ok (.ireturn, 1) := by decide +kernel
theorem dM_open_59 : decode bM_open 59 = .ok (.aload_n 0, 1) := by decide +kernel
theorem dM_open_60 : decode bM_open 60 = .ok (.iconst 0, 1) := by decide +kernel
theorem dM_open_61 : decode bM_open 61 = .ok (.putfield 95, 3) := by decide +kernel
theorem dM_open_64 : decode bM_open 64 = .ok (.aload_n 0, 1) := by decide +kernel
theorem dM_open_65 : decode bM_open 65 = .ok (.iconst 0, 1) := by decide +kernel
theorem dM_open_66 : decode bM_open 66 = .ok (.putfield 98, 3) := by decide +kernel
theorem dM_open_69 : decode bM_open 69 = .ok (.aload_n 0, 1) := by decide +kernel
theorem dM_open_70 : decode bM_open 70 = .ok (.iconst 0, 1) := by decide +kernel
theorem dM_open_71 : decode bM_open 71 = .ok (.putfield 101, 3) := by decide +kernel
theorem dM_open_74 : decode bM_open 74 = .ok (.iload_n 2, 1) := by decide +kernel
theorem dM_open_75 : decode bM_open 75 = .ok (.istore 5, 2) := by decide +kernel
theorem dM_open_77 : decode bM_open 77 = .ok (.iload 5, 2) := by decide +kernel
theorem dM_open_79 : decode bM_open 79 = .ok (.iload_n 3, 1) := by decide +kernel
theorem dM_open_80 : decode bM_open 80 = .ok (.if_icmp .gt 118, 3) := by decide +kernel
theorem dM_open_83 : decode bM_open 83 = .ok (.iconst 0, 1) := by decide +kernel
theorem dM_open_84 : decode bM_open 84 = .ok (.istore 6, 2) := by decide +kernel
theorem dM_open_86 : decode bM_open 86 = .ok (.iload 6, 2) := by decide +kernel
theorem dM_open_88 : decode bM_open 88 = .ok (.aload_n 0, 1) := by decide +kernel
theorem dM_open_89 : decode bM_open 89 = .ok (.getfield 42, 3) := by decide +kernel
theorem dM_open_92 : decode bM_open 92 = .ok (.if_icmp .ge 100, 3) := by decide +kernel
theorem dM_open_95 : decode bM_open 95 = .ok (.aload_n 0, 1) := by decide +kernel
theorem dM_open_96 : decode bM_open 96 = .ok (.iload 6, 2) := by decide +kernel
theorem dM_open_98 : decode bM_open 98 = .ok (.iload 4, 2) := by decide +kernel
theorem dM_open_100 : decode bM_open 100 = .ok (.invokevirtual 45, 3) := by decide +kernel
theorem dM_open_103 : decode bM_open 103 = .ok (.istore 7, 2) := by decide +kernel
theorem dM_open_105 : decode bM_open 105 = .ok (.aload_n 0, 1) := by decide +kernel
theorem dM_open_106 : decode bM_open 106 = .ok (.iload 7, 2) := by decide +kernel
theorem dM_open_108 : decode bM_open 108 = .ok (.iload_n 1, 1) := by decide +kernel
theorem dM_open_109 : decode bM_open 109 = .ok (.invokevirtual 104, 3) := by decide +kernel
theorem dM_open_112 : decode bM_open 112 = .ok (.ifCond .eq 74, 3) := by decide +kernel
theorem dM_open_115 : decode bM_open 115 = .ok (.aload_n 0, 1) := by decide +kernel
theorem dM_open_116 : decode bM_open 116 = .ok (.iload 7, 2) := by decide +kernel
theorem dM_open_118 : decode bM_open 118 = .ok (.iconst 5, 1) := by decide +kernel
theorem dM_open_119 : decode bM_open 119 = .ok (.invokevirtual 30, 3) := by decide +kernel
theorem dM_open_122 : decode bM_open 122 = .ok (.iload 5, 2) := by decide +kernel
theorem dM_open_124 : decode bM_open 124 = .ok (.if_icmp .ne 62, 3) := by decide +kernel
theorem dM_open_127 : decode bM_open 127 = .ok (.aload_n 0, 1) := by decide +kernel
theorem dM_open_128 : decode bM_open 128 = .ok (.getfield 17, 3) := by decide +kernel
theorem dM_open_131 : decode bM_open 131 = .ok (.aload_n 0, 1) := by decide +kernel
theorem dM_open_132 : decode bM_open 132 = .ok (.getfield 95, 3) := by decide +kernel
theorem dM_open_135 : decode bM_open 135 = .ok (.iload 6, 2) := by decide +kernel
theorem dM_open_137 : decode bM_open 137 = .ok (.iastore, 1) := by decide +kernel
theorem dM_open_138 : decode bM_open 138 = .ok (.aload_n 0, 1) := by decide +kernel
theorem dM_open_139 : decode bM_open 139 = .ok (.getfield 20, 3) := by decide +kernel
theorem dM_open_142 : decode bM_open 142 = .ok (.aload_n 0, 1) := by decide +kernel
theorem dM_open_143 : decode bM_open 143 = .ok (.getfield 95, 3) := by decide +kernel
theorem dM_open_146 : decode bM_open 146 = .ok (.aload_n 0, 1) := by decide +kernel
theorem dM_open_147 : decode bM_open 147 = .ok (.iload 7, 2) := by decide +kernel
theorem dM_open_149 : decode bM_open 149 = .ok (.iconst 2, 1) := by decide +kernel
theorem dM_open_150 : decode bM_open 150 = .ok (.invokevirtual 30, 3) := by decide +kernel
theorem dM_open_153 : decode bM_open 153 = .ok (.iload_n 1, 1) := by decide +kernel
theorem dM_open_154 : decode bM_open 154 = .ok (.if_icmp .ne 13, 3) := by decide +kernel
theorem dM_open_157 : decode bM_open 157 = .ok (.aload_n 0, 1) := by decide +kernel
theorem dM_open_158 : decode bM_open 158 = .ok (.iload 7, 2) := by decide +kernel
theorem dM_open_160 : decode bM_open 160 = .ok (.iconst 4, 1) := by decide +kernel
theorem dM_open_161 : decode bM_open 161 = .ok (.invokevirtual 30, 3) := by decide +kernel
theorem dM_open_164 : decode bM_open 164 = .ok (.goto 11, 3) := by decide +kernel
theorem dM_open_167 : decode bM_open 167 = .ok (.aload_n 0, 1) := by decide +kernel
theorem dM_open_168 : decode bM_open 168 = .ok (.iload 7, 2) := by decide +kernel
theorem dM_open_170 : decode bM_open 170 = .ok (.iconst 4, 1) := by decide +kernel
theorem dM_open_171 : decode bM_open 171 = .ok (.invokevirtual 30, 3) := by decide +kernel
theorem dM_open_174 : decode bM_open 174 = .ok (.ineg, 1) := by decide +kernel
theorem dM_open_175 : decode bM_open 175 = .ok (.iastore, 1) := by decide +kernel
theorem dM_open_176 : decode bM_open 176 = .ok (.aload_n 0, 1) := by decide +kernel
theorem dM_open_177 : decode bM_open 177 = .ok (.aload_n 0, 1) := by decide +kernel
theorem dM_open_178 : decode bM_open 178 = .ok (.getfield 95, 3) := by decide +kernel
theorem dM_open_181 : decode bM_open 181 = .ok (.iconst 1, 1) := by decide +kernel
theorem dM_open_182 : decode bM_open 182 = .ok (.iadd, 1) := by decide +kernel
theorem dM_open_183 : decode bM_open 183 = .ok (.putfield 95, 3) := by decide +kernel
theorem dM_open_186 : decode bM_open 186 = .ok (.iinc 6 1, 3) := by decide +kernel
theorem dM_open_189 : decode bM_open 189 = .ok (.goto (-103), 3) := by decide +kernel
theorem dM_open_192 : decode bM_open 192 = .ok (.iinc 5 1, 3) := by decide +kernel
theorem dM_open_195 : decode bM_open 195 = .ok (.goto (-118), 3) := by decide +kernel
theorem dM_open_198 : decode bM_open 198 = .ok (.aload_n 0, 1) := by decide +kernel
theorem dM_open_199 : decode bM_open 199 = .ok (.getfield 95, 3) := by decide +kernel
theorem dM_open_202 : decode bM_open 202 = .ok (.ireturn, 1) := by decide +kernel
theorem dM_next_0 : decode bM_next 0 = .ok (.aload_n 0, 1) := by decide +kernel
theorem dM_next_1 : decode bM_next 1 = .ok (.aload_n 0, 1) := by decide +kernel
theorem dM_next_2 : decode bM_next 2 = .ok (.getfield 65, 3) := by decide +kernel
theorem dM_next_5 : decode bM_next 5 = .ok (.ifCond .eq 7, 3) := by decide +kernel
theorem dM_next_8 : decode bM_next 8 = .ok (.iconst 1, 1) := by decide +kernel
theorem dM_next_9 : decode bM_next 9 = .ok (.goto 4, 3) := by decide +kernel
theorem dM_next_12 : decode bM_next 12 = .ok (.iconst 0, 1) := by decide +kernel
theorem dM_next_13 : decode bM_next 13 = .ok (.putfield 23, 3) := by decide +kernel
theorem dM_next_16 : decode bM_next 16 = .ok (.aload_n 0, 1) := by decide +kernel
theorem dM_next_17 : decode bM_next 17 = .ok (.getfield 23, 3) := by decide +kernel
theorem dM_next_20 : decode bM_next 20 = .ok (.ifCond .le 5, 3) := by decide +kernel
theorem dM_next_23 : decode bM_next 23 = .ok (.iconst 0, 1) := by decide +kernel
theorem dM_next_24 : decode bM_next 24 = .ok (.ireturn, 1) := by decide +kernel
theorem dM_next_25 : decode bM_next 25 = .ok (.aload_n 0, 1) := by decide +kernel
theorem dM_next_26 : decode bM_next 26 = .ok (.aload_n 0, 1) := by decide +kernel
theorem dM_next_27 : decode bM_next 27 = .ok (.getfield 98, 3) := by decide +kernel
theorem dM_next_30 : decode bM_next 30 = .ok (.aload_n 0, 1) := by decide +kernel
theorem dM_next_31 : decode bM_next 31 = .ok (.getfield 95, 3) := by decide +kernel
theorem dM_next_34 : decode bM_next 34 = .ok (.if_icmp .ge 7, 3) := by decide +kernel
theorem dM_next_37 : decode bM_next 37 = .ok (.iconst 1, 1) := by decide +kernel
theorem dM_next_38 : decode bM_next 38 = .ok (.goto 4, 3) := by decide +kernel
theorem dM_next_41 : decode bM_next 41 = .ok (.iconst 0, 1) := by decide +kernel
theorem dM_next_42 : decode bM_next 42 = .ok (.putfield 101, 3) := by decide +kernel
theorem dM_next_45 : decode bM_next 45 = .ok (.aload_n 0, 1) := by decide +kernel
theorem dM_next_46 : decode bM_next 46 = .ok (.aload_n 0, 1) := by decide +kernel
theorem dM_next_47 : decode bM_next 47 = .ok (.getfield 101, 3) := by decide +kernel
theorem dM_next_50 : decode bM_next 50 = .ok (.ifCond .eq 12, 3) := by decide +kernel
theorem dM_next_53 : decode bM_next 53 = .ok (.aload_n 0, 1) := by decide +kernel
theorem dM_next_54 : decode bM_next 54 = .ok (.getfield 98, 3) := by decide +kernel
theorem dM_next_57 : decode bM_next 57 = .ok (.iconst 1, 1) := by decide +kernel
theorem dM_next_58 : decode bM_next 58 = .ok (.iadd, 1) := by decide +kernel
theorem dM_next_59 : decode bM_next 59 = .ok (.goto 7, 3) := by decide +kernel
theorem dM_next_62 : decode bM_next 62 = .ok (.aload_n 0, 1) := by decide +kernel
theorem dM_next_63 : decode bM_next 63 = .ok (.getfield 98, 3) := by decide +kernel
theorem dM_next_66 : decode bM_next 66 = .ok (.putfield 98, 3) := by decide +kernel
theorem dM_next_69 : decode bM_next 69 = .ok (.aload_n 0, 1) := by decide +kernel
theorem dM_next_70 : decode bM_next 70 = .ok (.getfield 101, 3) := by decide +kernel
theorem dM_next_73 : decode bM_next 73 = .ok (.ifCond .eq 17, 3) := by decide +kernel
theorem dM_next_76 : decode bM_next 76 = .ok (.aload_n 0, 1) := by decide +kernel
theorem dM_next_77 : decode bM_next 77 = .ok (.getfield 17, 3) := by decide +kernel
theorem dM_next_80 : decode bM_next 80 = .ok (.aload_n 0, 1) := by decide +kernel
theorem dM_next_81 : decode bM_next 81 = .ok (.getfield 98, 3) := by decide +kernel
theorem dM_next_84 : decode bM_next 84 = .ok (.iconst 1, 1) := by decide +kernel
theorem dM_next_85 : decode bM_next 85 = .ok (.isub, 1) := by decide +kernel
theorem dM_next_86 : decode bM_next 86 = .ok (.iaload, 1) := by decide +kernel
theorem dM_next_87 : decode bM_next 87 = .ok (.goto 4, 3) := by decide +kernel
theorem dM_next_90 : decode bM_next 90 = .ok (.iconst (-1), 1) := by decide +kernel
theorem dM_next_91 : decode bM_next 91 = .ok (.ireturn, 1) := by decide +kernel
theorem dM_moved_0 : decode bM_moved 0 = .ok (.aload_n 0, 1) := by decide +kernel
theorem dM_moved_1 : decode bM_moved 1 = .ok (.aload_n 0, 1) := by decide +kernel
theorem dM_moved_2 : decode bM_moved 2 = .ok (.getfield 65, 3) := by decide +kernel
theorem dM_moved_5 : decode bM_moved 5 = .ok (.ifCond .eq 7, 3) := by decide +kernel
theorem dM_moved_8 : decode bM_moved 8 = .ok (.iconst 1, 1) := by decide +kernel
theorem dM_moved_9 : decode bM_moved 9 = .ok (.goto 4, 3) := by decide +kernel
theorem dM_moved_12 : decode bM_moved 12 = .ok (.iconst 0, 1) := by decide +kernel
theorem dM_moved_13 : decode bM_moved 13 = .ok (.putfield 23, 3) := by decide +kernel
theorem dM_moved_16 : decode bM_moved 16 = .ok (.aload_n 0, 1) := by decide +kernel
theorem dM_moved_17 : decode bM_moved 17 = .ok (.getfield 23, 3) := by decide +kernel
theorem dM_moved_20 : decode bM_moved 20 = .ok (.ifCond .ne 24, 3) := by decide +kernel
theorem dM_moved_23 : decode bM_moved 23 = .ok (.aload_n 0, 1) := by decide +kernel
theorem dM_moved_24 : decode bM_moved 24 = .ok (.getfield 101, 3) := by decide +kernel
theorem dM_moved_27 : decode bM_moved 27 = .ok (.ifCond .eq 17, 3) := by decide +kernel
theorem dM_moved_30 : decode bM_moved 30 = .ok (.aload_n 0, 1) := by decide +kernel
theorem dM_moved_31 : decode bM_moved 31 = .ok (.getfield 20, 3) := by decide +kernel
theorem dM_moved_34 : decode bM_moved 34 = .ok (.aload_n 0, 1) := by decide +kernel
theorem dM_moved_35 : decode bM_moved 35 = .ok (.getfield 98, 3) := by decide +kernel
theorem dM_moved_38 : decode bM_moved 38 = .ok (.iconst 1, 1) := by decide +kernel
theorem dM_moved_39 : decode bM_moved 39 = .ok (.isub, 1) := by decide +kernel
theorem dM_moved_40 : decode bM_moved 40 = .ok (.iaload, 1) := by decide +kernel
theorem dM_moved_41 : decode bM_moved 41 = .ok (.goto 4, 3) := by decide +kernel
theorem dM_moved_44 : decode bM_moved 44 = .ok (.iconst 0, 1) := by decide +kernel
theorem dM_moved_45 : decode bM_moved 45 = .ok (.ireturn, 1) := by decide +kernel
theorem dM_field_0 : decode bM_field 0 = .ok (.aload_n 0, 1) := by decide +kernel
theorem dM_field_1 : decode bM_field 1 = .ok (.aload_n 0, 1) := by decide +kernel
theorem dM_field_2 : decode bM_field 2 = .ok (.getfield 65, 3) := by decide +kernel
theorem dM_field_5 : decode bM_field 5 = .ok (.ifCond .eq 7, 3) := by decide +kernel
theorem dM_field_8 : decode bM_field 8 = .ok (.iconst 1, 1) := by decide +kernel
theorem dM_field_9 : decode bM_field 9 = .ok (.goto 4, 3) := by decide +kernel
theorem dM_field_12 : decode bM_field 12 = .ok (.iconst 0, 1) := by decide +kernel
theorem dM_field_13 : decode bM_field 13 = .ok (.putfield 23, 3) := by decide +kernel
theorem dM_field_16 : decode bM_field 16 = .ok (.iload_n 1, 1) := by decide +kernel
theorem dM_field_17 : decode bM_field 17 = .ok (.ifCond .lt 33, 3) := by decide +kernel
theorem dM_field_20 : decode bM_field 20 = .ok (.iload_n 1, 1) := by decide +kernel
theorem dM_field_21 : decode bM_field 21 = .ok (.aload_n 0, 1) := by decide +kernel
theorem dM_field_22 : decode bM_field 22 = .ok (.getfield 42, 3) := by decide +kernel
theorem dM_field_25 : decode bM_field 25 = .ok (.if_icmp .ge 25, 3) := by decide +kernel
theorem dM_field_28 : decode bM_field 28 = .ok (.iload_n 2, 1) := by decide +kernel
theorem dM_field_29 : decode bM_field 29 = .ok (.ifCond .lt 21, 3) := by decide +kernel
theorem dM_field_32 : decode bM_field 32 = .ok (.iload_n 2, 1) := by decide +kernel
theorem dM_field_33 : decode bM_field 33 = .ok (.bipush 6, 2) := by decide +kernel
theorem dM_field_35 : decode bM_field 35 = .ok (.if_icmp .ge 15, 3) := by decide +kernel
theorem dM_field_38 : decode bM_field 38 = .ok (.aload_n 0, 1) := by decide +kernel
theorem dM_field_39 : decode bM_field 39 = .ok (.iload_n 3, 1) := by decide +kernel
theorem dM_field_40 : decode bM_field 40 = .ok (.invokevirtual 88, 3) := by decide +kernel
theorem dM_field_43 : decode bM_field 43 = .ok (.ifCond .eq 7, 3) := by decide +kernel
theorem dM_field_46 : decode bM_field 46 = .ok (.iconst 1, 1) := by decide +kernel
theorem dM_field_47 : decode bM_field 47 = .ok (.goto 4, 3) := by decide +kernel
theorem dM_field_50 : decode bM_field 50 = .ok (.iconst 0, 1) := by decide +kernel
theorem dM_field_51 : decode bM_field 51 = .ok (.istore 4, 2) := by decide +kernel
theorem dM_field_53 : decode bM_field 53 = .ok (.aload_n 0, 1) := by decide +kernel
theorem dM_field_54 : decode bM_field 54 = .ok (.getfield 23, 3) := by decide +kernel
theorem dM_field_57 : decode bM_field 57 = .ok (.ifCond .gt 8, 3) := by decide +kernel
theorem dM_field_60 : decode bM_field 60 = .ok (.iload 4, 2) := by decide +kernel
theorem dM_field_62 : decode bM_field 62 = .ok (.ifCond .ne 16, 3) := by decide +kernel
theorem dM_field_65 : decode bM_field 65 = .ok (.aload_n 0, 1) := by decide +kernel
theorem dM_field_66 : decode bM_field 66 = .ok (.getfield 23, 3) := by decide +kernel
theorem dM_field_69 : decode bM_field 69 = .ok (.ifCond .le 7, 3) := by decide +kernel
theorem dM_field_72 : decode bM_field 72 = .ok (.iconst 0, 1) := by decide +kernel
theorem dM_field_73 : decode bM_field 73 = .ok (.goto 4, 3) := by decide +kernel
theorem dM_field_76 : decode bM_field 76 = .ok (.iconst (-1), 1) := by decide +kernel
theorem dM_field_77 : decode bM_field 77 = .ok (.ireturn, 1) := by decide +kernel
theorem dM_field_78 : decode bM_field 78 = .ok (.aload_n 0, 1) := by decide +kernel
theorem dM_field_79 : decode bM_field 79 = .ok (.iload_n 1, 1) := by decide +kernel
theorem dM_field_80 : decode bM_field 80 = .ok (.iload_n 3, 1) := by decide +kernel
theorem dM_field_81 : decode bM_field 81 = .ok (.invokevirtual 45, 3) := by decide +kernel
theorem dM_field_84 : decode bM_field 84 = .ok (.istore 5, 2) := by decide +kernel
theorem dM_field_86 : decode bM_field 86 = .ok (.iload 5, 2) := by decide +kernel
theorem dM_field_88 : decode bM_field 88 = .ok (.ifCond .ge 7, 3) := by decide +kernel
theorem dM_field_91 : decode bM_field 91 = .ok (.iconst (-1), 1) := by decide +kernel
theorem dM_field_92 : decode bM_field 92 = .ok (.goto 10, 3) := by decide +kernel
theorem dM_field_95 : decode bM_field 95 = .ok (.aload_n 0, 1) := by decide +kernel
theorem dM_field_96 : decode bM_field 96 = .ok (.iload 5, 2) := by decide +kernel
theorem dM_field_98 : decode bM_field 98 = .ok (.iload_n 2, 1) := by decide +kernel
theorem dM_field_99 : decode bM_field 99 = .ok (.invokevirtual 30, 3) := by decide +kernel
theorem dM_field_102 : decode bM_field 102 = .ok (.ireturn, 1) := by decide +kernel
theorem dM_entries_0 : decode bM_entries 0 = .ok (.aload_n 0, 1) := by decide +kernel
theorem dM_entries_1 : decode bM_entries 1 = .ok (.aload_n 0, 1) := by decide +kernel
theorem dM_entries_2 : decode bM_entries 2 = .ok (.getfield 65, 3) := by decide +kernel
theorem dM_entries_5 : decode bM_entries 5 = .ok (.ifCond .eq 7, 3) := by decide +kernel
theorem dM_entries_8 : decode bM_entries 8 = .ok (.iconst 1, 1) := by decide +kernel
theorem dM_entries_9 : decode bM_entries 9 = .ok (.goto 4, 3) := by decide +kernel
theorem dM_entries_12 : decode bM_entries 12 = .ok (.iconst 0, 1) := by decide +kernel
theorem dM_entries_13 : decode bM_entries 13 = .ok (.putfield 23, 3) := by decide +kernel
theorem dM_entries_16 : decode bM_entries 16 = .ok (.aload_n 0, 1) := by decide +kernel
theorem dM_entries_17 : decode bM_entries 17 = .ok (.getfield 23, 3) := by decide +kernel
theorem dM_entries_20 : decode bM_entries 20 = .ok (.ifCond .le 7, 3) := by decide +kernel
theorem dM_entries_23 : decode bM_entries 23 = .ok (.iconst 0, 1) := by decide +kernel
theorem dM_entries_24 : decode bM_entries 24 = .ok (.goto 7, 3) := by decide +kernel
theorem dM_entries_27 : decode bM_entries 27 = .ok (.aload_n 0, 1) := by decide +kernel
theorem dM_entries_28 : decode bM_entries 28 = .ok (.getfield 42, 3) := by decide +kernel
theorem dM_entries_31 : decode bM_entries 31 = .ok (.ireturn, 1) := by decide +kernel
theorem dM_clock_0 : decode bM_clock 0 = .ok (.aload_n 0, 1) := by decide +kernel
theorem dM_clock_1 : decode bM_clock 1 = .ok (.iconst 0, 1) := by decide +kernel
theorem dM_clock_2 : decode bM_clock 2 = .ok (.putfield 23, 3) := by decide +kernel
theorem dM_clock_5 : decode bM_clock 5 = .ok (.aload_n 0, 1) := by decide +kernel
theorem dM_clock_6 : decode bM_clock 6 = .ok (.getfield 27, 3) := by decide +kernel
theorem dM_clock_9 : decode bM_clock 9 = .ok (.ireturn, 1) := by decide +kernel
theorem dM_head_0 : decode bM_head 0 = .ok (.aload_n 0, 1) := by decide +kernel
theorem dM_head_1 : decode bM_head 1 = .ok (.iconst 0, 1) := by decide +kernel
theorem dM_head_2 : decode bM_head 2 = .ok (.putfield 23, 3) := by decide +kernel
theorem dM_head_5 : decode bM_head 5 = .ok (.aload_n 0, 1) := by decide +kernel
theorem dM_head_6 : decode bM_head 6 = .ok (.aload_n 0, 1) := by decide +kernel
theorem dM_head_7 : decode bM_head 7 = .ok (.getfield 27, 3) := by decide +kernel
theorem dM_head_10 : decode bM_head 10 = .ok (.invokevirtual 58, 3) := by decide +kernel
theorem dM_head_13 : decode bM_head 13 = .ok (.lreturn, 1) := by decide +kernel
theorem dM_verify_0 : decode bM_verify 0 = .ok (.aload_n 0, 1) := by decide +kernel
theorem dM_verify_1 : decode bM_verify 1 = .ok (.iconst 0, 1) := by decide +kernel
theorem dM_verify_2 : decode bM_verify 2 = .ok (.putfield 23, 3) := by decide +kernel
theorem dM_verify_5 : decode bM_verify 5 = .ok (.iconst 0, 1) := by decide +kernel
theorem dM_verify_6 : decode bM_verify 6 = .ok (.istore_n 1, 1) := by decide +kernel
theorem dM_verify_7 : decode bM_verify 7 = .ok (.iload_n 1, 1) := by decide +kernel
theorem dM_verify_8 : decode bM_verify 8 = .ok (.aload_n 0, 1) := by decide +kernel
theorem dM_verify_9 : decode bM_verify 9 = .ok (.getfield 27, 3) := by decide +kernel
theorem dM_verify_12 : decode bM_verify 12 = .ok (.if_icmp .ge 35, 3) := by decide +kernel
theorem dM_verify_15 : decode bM_verify 15 = .ok (.aload_n 0, 1) := by decide +kernel
theorem dM_verify_16 : decode bM_verify 16 = .ok (.iload_n 1, 1) := by decide +kernel
theorem dM_verify_17 : decode bM_verify 17 = .ok (.aload_n 0, 1) := by decide +kernel
theorem dM_verify_18 : decode bM_verify 18 = .ok (.iload_n 1, 1) := by decide +kernel
theorem dM_verify_19 : decode bM_verify 19 = .ok (.invokevirtual 58, 3) := by decide +kernel
theorem dM_verify_22 : decode bM_verify 22 = .ok (.invokevirtual 61, 3) := by decide +kernel
theorem dM_verify_25 : decode bM_verify 25 = .ok (.lstore_n 2, 1) := by decide +kernel
theorem dM_verify_26 : decode bM_verify 26 = .ok (.lload_n 2, 1) := by decide +kernel
theorem dM_verify_27 : decode bM_verify 27 = .ok (.aload_n 0, 1) := by decide +kernel
theorem dM_verify_28 : decode bM_verify 28 = .ok (.getfield 13, 3) := by decide +kernel
theorem dM_verify_31 : decode bM_verify 31 = .ok (.iload_n 1, 1) := by decide +kernel
theorem dM_verify_32 : decode bM_verify 32 = .ok (.laload, 1) := by decide +kernel
theorem dM_verify_33 : decode bM_verify 33 = .ok (.lcmp, 1) := by decide +kernel
theorem dM_verify_34 : decode bM_verify 34 = .ok (.ifCond .eq 7, 3) := by decide +kernel
theorem dM_verify_37 : decode bM_verify 37 = .ok (.iload_n 1, 1) := by decide +kernel
theorem dM_verify_38 : decode bM_verify 38 = .ok (.iconst 1, 1) := by decide +kernel
theorem dM_verify_39 : decode bM_verify 39 = .ok (.iadd, 1) := by decide +kernel
theorem dM_verify_40 : decode bM_verify 40 = .ok (.ireturn, 1) := by decide +kernel
theorem dM_verify_41 : decode bM_verify 41 = .ok (.iinc 1 1, 3) := by decide +kernel
theorem dM_verify_44 : decode bM_verify 44 = .ok (.goto (-37), 3) := by decide +kernel
theorem dM_verify_47 : decode bM_verify 47 = .ok (.iconst 0, 1) := by decide +kernel
theorem dM_verify_48 : decode bM_verify 48 = .ok (.ireturn, 1) := by decide +kernel
theorem dM_tamper_0 : decode bM_tamper 0 = .ok (.aload_n 0, 1) := by decide +kernel
theorem dM_tamper_1 : decode bM_tamper 1 = .ok (.iconst 0, 1) := by decide +kernel
theorem dM_tamper_2 : decode bM_tamper 2 = .ok (.putfield 23, 3) := by decide +kernel
theorem dM_tamper_5 : decode bM_tamper 5 = .ok (.iload_n 1, 1) := by decide +kernel
theorem dM_tamper_6 : decode bM_tamper 6 = .ok (.ifCond .lt 20, 3) := by decide +kernel
theorem dM_tamper_9 : decode bM_tamper 9 = .ok (.iload_n 1, 1) := by decide +kernel
theorem dM_tamper_10 : decode bM_tamper 10 = .ok (.aload_n 0, 1) := by decide +kernel
theorem dM_tamper_11 : decode bM_tamper 11 = .ok (.getfield 27, 3) := by decide +kernel
theorem dM_tamper_14 : decode bM_tamper 14 = .ok (.if_icmp .ge 12, 3) := by decide +kernel
theorem dM_tamper_17 : decode bM_tamper 17 = .ok (.iload_n 2, 1) := by decide +kernel
theorem dM_tamper_18 : decode bM_tamper 18 = .ok (.ifCond .lt 8, 3) := by decide +kernel
theorem dM_tamper_21 : decode bM_tamper 21 = .ok (.iload_n 2, 1) := by decide +kernel
theorem dM_tamper_22 : decode bM_tamper 22 = .ok (.iconst 5, 1) := by decide +kernel
theorem dM_tamper_23 : decode bM_tamper 23 = .ok (.if_icmp .le 5, 3) := by decide +kernel
theorem dM_tamper_26 : decode bM_tamper 26 = .ok (.iconst 0, 1) := by decide +kernel
theorem dM_tamper_27 : decode bM_tamper 27 = .ok (.ireturn, 1) := by decide +kernel
theorem dM_tamper_28 : decode bM_tamper 28 = .ok (.aload_n 0, 1) := by decide +kernel
theorem dM_tamper_29 : decode bM_tamper 29 = .ok (.getfield 7, 3) := by decide +kernel
theorem dM_tamper_32 : decode bM_tamper 32 = .ok (.bipush 6, 2) := by decide +kernel
theorem dM_tamper_34 : decode bM_tamper 34 = .ok (.iload_n 1, 1) := by decide +kernel
theorem dM_tamper_35 : decode bM_tamper 35 = .ok (.imul, 1) := by decide +kernel
theorem dM_tamper_36 : decode bM_tamper 36 = .ok (.iload_n 2, 1) := by decide +kernel
theorem dM_tamper_37 : decode bM_tamper 37 = .ok (.iadd, 1) := by decide +kernel
theorem dM_tamper_38 : decode bM_tamper 38 = .ok (.iload_n 3, 1) := by decide +kernel
theorem dM_tamper_39 : decode bM_tamper 39 = .ok (.iastore, 1) := by decide +kernel
theorem dM_tamper_40 : decode bM_tamper 40 = .ok (.aload_n 0, 1) := by decide +kernel
theorem dM_tamper_41 : decode bM_tamper 41 = .ok (.iconst 1, 1) := by decide +kernel
theorem dM_tamper_42 : decode bM_tamper 42 = .ok (.putfield 65, 3) := by decide +kernel
theorem dM_tamper_45 : decode bM_tamper 45 = .ok (.iconst 1, 1) := by decide +kernel
theorem dM_tamper_46 : decode bM_tamper 46 = .ok (.ireturn, 1) := by decide +kernel
