theorem dX0_init_0 : decode cX0_init 0 = .ok (.aload_n 0, 1) := by decide +kernel
theorem dX0_init_1 : decode cX0_init 1 = .ok (.invokespecial 5, 3) := by decide +kernel
theorem dX0_init_4 : decode cX0_init 4 = .ok (.aload_n 0, 1) := by decide +kernel
theorem dX0_init_5 : decode cX0_init 5 = .ok (.bipush 6, 2) := by decide +kernel
theorem dX0_init_7 : decode cX0_init 7 = .ok (.anewarray 11, 3) := by decide +kernel
theorem dX0_init_10 : decode cX0_init 10 = .ok (.putfield 13, 3) := by decide +kernel
theorem dX0_init_13 : decode cX0_init 13 = .ok (.aload_n 0, 1) := by decide +kernel
theorem dX0_init_14 : decode cX0_init 14 = .ok (.iconst 0, 1) := by decide +kernel
theorem dX0_init_15 : decode cX0_init 15 = .ok (.putfield 17, 3) := by decide +kernel
theorem dX0_init_18 : decode cX0_init 18 = .ok (.aload_n 0, 1) := by decide +kernel
theorem dX0_init_19 : decode cX0_init 19 = .ok (.iconst 0, 1) := by decide +kernel
theorem dX0_init_20 : decode cX0_init 20 = .ok (.putfield 21, 3) := by decide +kernel
theorem dX0_init_23 : decode cX0_init 23 = .ok (.iconst 0, 1) := by decide +kernel
theorem dX0_init_24 : decode cX0_init 24 = .ok (.istore_n 1, 1) := by decide +kernel
theorem dX0_init_25 : decode cX0_init 25 = .ok (.iload_n 1, 1) := by decide +kernel
theorem dX0_init_26 : decode cX0_init 26 = .ok (.bipush 6, 2) := by decide +kernel
theorem dX0_init_28 : decode cX0_init 28 = .ok (.if_icmp .ge 22, 3) := by decide +kernel
theorem dX0_init_31 : decode cX0_init 31 = .ok (.aload_n 0, 1) := by decide +kernel
theorem dX0_init_32 : decode cX0_init 32 = .ok (.getfield 13, 3) := by decide +kernel
theorem dX0_init_35 : decode cX0_init 35 = .ok (.iload_n 1, 1) := by decide +kernel
theorem dX0_init_36 : decode cX0_init 36 = .ok (.new 11, 3) := by decide +kernel
theorem dX0_init_39 : decode cX0_init 39 = .ok (.dup, 1) := by decide +kernel
theorem dX0_init_40 : decode cX0_init 40 = .ok (.invokespecial 24, 3) := by decide +kernel
theorem dX0_init_43 : decode cX0_init 43 = .ok (.aastore, 1) := by decide +kernel
theorem dX0_init_44 : decode cX0_init 44 = .ok (.iinc 1 1, 3) := by decide +kernel
theorem dX0_init_47 : decode cX0_init 47 = .ok (.goto (-22), 3) := by decide +kernel
theorem dX0_init_50 : decode cX0_init 50 = .ok (.return_, 1) := by decide +kernel
theorem dX0_prepare_0 : decode cX0_prepare 0 = .ok (.aload_n 0, 1) := by decide +kernel
theorem dX0_prepare_1 : decode cX0_prepare 1 = .ok (.getfield 13, 3) := by decide +kernel
theorem dX0_prepare_4 : decode cX0_prepare 4 = .ok (.aload_n 0, 1) := by decide +kernel
theorem dX0_prepare_5 : decode cX0_prepare 5 = .ok (.getfield 17, 3) := by decide +kernel
theorem dX0_prepare_8 : decode cX0_prepare 8 = .ok (.aaload, 1) := by decide +kernel
theorem dX0_prepare_9 : decode cX0_prepare 9 = .ok (.aload_n 1, 1) := by decide +kernel
theorem dX0_prepare_10 : decode cX0_prepare 10 = .ok (.invokevirtual 25, 3) := by decide +kernel
theorem dX0_prepare_13 : decode cX0_prepare 13 = .ok (.return_, 1) := by decide +kernel
theorem dX0_settle_0 : decode cX0_settle 0 = .ok (.iload_n 1, 1) := by decide +kernel
theorem dX0_settle_1 : decode cX0_settle 1 = .ok (.ifCond .lt 30, 3) := by decide +kernel
theorem dX0_settle_4 : decode cX0_settle 4 = .ok (.aload_n 0, 1) := by decide +kernel
theorem dX0_settle_5 : decode cX0_settle 5 = .ok (.aload_n 0, 1) := by decide +kernel
theorem dX0_settle_6 : decode cX0_settle 6 = .ok (.getfield 17, 3) := by decide +kernel
theorem dX0_settle_9 : decode cX0_settle 9 = .ok (.iconst 1, 1) := by decide +kernel
theorem dX0_settle_10 : decode cX0_settle 10 = .ok (.iadd, 1) := by decide +kernel
theorem dX0_settle_11 : decode cX0_settle 11 = .ok (.bipush 6, 2) := by decide +kernel
theorem dX0_settle_13 : decode cX0_settle 13 = .ok (.irem, 1) := by decide +kernel
theorem dX0_settle_14 : decode cX0_settle 14 = .ok (.putfield 17, 3) := by decide +kernel
theorem dX0_settle_17 : decode cX0_settle 17 = .ok (.aload_n 0, 1) := by decide +kernel
theorem dX0_settle_18 : decode cX0_settle 18 = .ok (.aload_n 0, 1) := by decide +kernel
theorem dX0_settle_19 : decode cX0_settle 19 = .ok (.getfield 21, 3) := by decide +kernel
theorem dX0_settle_22 : decode cX0_settle 22 = .ok (.iconst 1, 1) := by decide +kernel
theorem dX0_settle_23 : decode cX0_settle 23 = .ok (.iadd, 1) := by decide +kernel
theorem dX0_settle_24 : decode cX0_settle 24 = .ok (.iconst 5, 1) := by decide +kernel
theorem dX0_settle_25 : decode cX0_settle 25 = .ok (.invokestatic 29, 3) := by decide +kernel
theorem dX0_settle_28 : decode cX0_settle 28 = .ok (.putfield 21, 3) := by decide +kernel
theorem dX0_settle_31 : decode cX0_settle 31 = .ok (.iload_n 1, 1) := by decide +kernel
theorem dX0_settle_32 : decode cX0_settle 32 = .ok (.ireturn, 1) := by decide +kernel
theorem dX0_restore_0 : decode cX0_restore 0 = .ok (.aload_n 0, 1) := by decide +kernel
theorem dX0_restore_1 : decode cX0_restore 1 = .ok (.getfield 21, 3) := by decide +kernel
theorem dX0_restore_4 : decode cX0_restore 4 = .ok (.ifCond .ne 6, 3) := by decide +kernel
theorem dX0_restore_7 : decode cX0_restore 7 = .ok (.bipush (-4), 2) := by decide +kernel
theorem dX0_restore_9 : decode cX0_restore 9 = .ok (.ireturn, 1) := by decide +kernel
theorem dX0_restore_10 : decode cX0_restore 10 = .ok (.aload_n 0, 1) := by decide +kernel
theorem dX0_restore_11 : decode cX0_restore 11 = .ok (.aload_n 0, 1) := by decide +kernel
theorem dX0_restore_12 : decode cX0_restore 12 = .ok (.getfield 17, 3) := by decide +kernel
theorem dX0_restore_15 : decode cX0_restore 15 = .ok (.bipush 6, 2) := by decide +kernel
theorem dX0_restore_17 : decode cX0_restore 17 = .ok (.iadd, 1) := by decide +kernel
theorem dX0_restore_18 : decode cX0_restore 18 = .ok (.iconst 1, 1) := by decide +kernel
theorem dX0_restore_19 : decode cX0_restore 19 = .ok (.isub, 1) := by decide +kernel
theorem dX0_restore_20 : decode cX0_restore 20 = .ok (.bipush 6, 2) := by decide +kernel
theorem dX0_restore_22 : decode cX0_restore 22 = .ok (.irem, 1) := by decide +kernel
theorem dX0_restore_23 : decode cX0_restore 23 = .ok (.putfield 17, 3) := by decide +kernel
theorem dX0_restore_26 : decode cX0_restore 26 = .ok (.aload_n 0, 1) := by decide +kernel
theorem dX0_restore_27 : decode cX0_restore 27 = .ok (.dup, 1) := by decide +kernel
theorem dX0_restore_28 : decode cX0_restore 28 = .ok (.getfield 21, 3) := by decide +kernel
theorem dX0_restore_31 : decode cX0_restore 31 = .ok (.iconst 1, 1) := by decide +kernel
theorem dX0_restore_32 : decode cX0_restore 32 = .ok (.isub, 1) := by decide +kernel
theorem dX0_restore_33 : decode cX0_restore 33 = .ok (.putfield 21, 3) := by decide +kernel
theorem dX0_restore_36 : decode cX0_restore 36 = .ok (.aload_n 1, 1) := by decide +kernel
theorem dX0_restore_37 : decode cX0_restore 37 = .ok (.aload_n 0, 1) := by decide +kernel
theorem dX0_restore_38 : decode cX0_restore 38 = .ok (.getfield 13, 3) := by decide +kernel
theorem dX0_restore_41 : decode cX0_restore 41 = .ok (.aload_n 0, 1) := by decide +kernel
theorem dX0_restore_42 : decode cX0_restore 42 = .ok (.getfield 17, 3) := by decide +kernel
theorem dX0_restore_45 : decode cX0_restore 45 = .ok (.aaload, 1) := by decide +kernel
theorem dX0_restore_46 : decode cX0_restore 46 = .ok (.invokevirtual 25, 3) := by decide +kernel
theorem dX0_restore_49 : decode cX0_restore 49 = .ok (.aload_n 0, 1) := by decide +kernel
theorem dX0_restore_50 : decode cX0_restore 50 = .ok (.getfield 21, 3) := by decide +kernel
theorem dX0_restore_53 : decode cX0_restore 53 = .ok (.ireturn, 1) := by decide +kernel
theorem dX1_init_0 : decode cX1_init 0 = .ok (.aload_n 0, 1) := by decide +kernel
theorem dX1_init_1 : decode cX1_init 1 = .ok (.invokespecial 3, 3) := by decide +kernel
theorem dX1_init_4 : decode cX1_init 4 = .ok (.aload_n 0, 1) := by decide +kernel
theorem dX1_init_5 : decode cX1_init 5 = .ok (.bipush 100, 2) := by decide +kernel
theorem dX1_init_7 : decode cX1_init 7 = .ok (.newarray .int, 2) := by decide +kernel
theorem dX1_init_9 : decode cX1_init 9 = .ok (.putfield 11, 3) := by decide +kernel
theorem dX1_init_12 : decode cX1_init 12 = .ok (.aload_n 0, 1) := by decide +kernel
theorem dX1_init_13 : decode cX1_init 13 = .ok (.iconst 0, 1) := by decide +kernel
theorem dX1_init_14 : decode cX1_init 14 = .ok (.putfield 15, 3) := by decide +kernel
theorem dX1_init_17 : decode cX1_init 17 = .ok (.aload_n 0, 1) := by decide +kernel
theorem dX1_init_18 : decode cX1_init 18 = .ok (.iconst 0, 1) := by decide +kernel
theorem dX1_init_19 : decode cX1_init 19 = .ok (.putfield 19, 3) := by decide +kernel
theorem dX1_init_22 : decode cX1_init 22 = .ok (.aload_n 0, 1) := by decide +kernel
theorem dX1_init_23 : decode cX1_init 23 = .ok (.iconst 0, 1) := by decide +kernel
theorem dX1_init_24 : decode cX1_init 24 = .ok (.putfield 22, 3) := by decide +kernel
theorem dX1_init_27 : decode cX1_init 27 = .ok (.aload_n 0, 1) := by decide +kernel
theorem dX1_init_28 : decode cX1_init 28 = .ok (.iconst (-1), 1) := by decide +kernel
theorem dX1_init_29 : decode cX1_init 29 = .ok (.putfield 26, 3) := by decide +kernel
theorem dX1_init_32 : decode cX1_init 32 = .ok (.aload_n 0, 1) := by decide +kernel
theorem dX1_init_33 : decode cX1_init 33 = .ok (.iconst 0, 1) := by decide +kernel
theorem dX1_init_34 : decode cX1_init 34 = .ok (.putfield 29, 3) := by decide +kernel
theorem dX1_init_37 : decode cX1_init 37 = .ok (.aload_n 0, 1) := by decide +kernel
theorem dX1_init_38 : decode cX1_init 38 = .ok (.iconst 0, 1) := by decide +kernel
theorem dX1_init_39 : decode cX1_init 39 = .ok (.putfield 32, 3) := by decide +kernel
theorem dX1_init_42 : decode cX1_init 42 = .ok (.return_, 1) := by decide +kernel
theorem dX1_faultOf_0 : decode cX1_faultOf 0 = .ok (.aload_n 0, 1) := by decide +kernel
theorem dX1_faultOf_1 : decode cX1_faultOf 1 = .ok (.invokevirtual 35, 3) := by decide +kernel
theorem dX1_faultOf_4 : decode cX1_faultOf 4 = .ok (.iconst 0, 1) := by decide +kernel
theorem dX1_faultOf_5 : decode cX1_faultOf 5 = .ok (.istore_n 1, 1) := by decide +kernel
theorem dX1_faultOf_6 : decode cX1_faultOf 6 = .ok (.iload_n 1, 1) := by decide +kernel
theorem dX1_faultOf_7 : decode cX1_faultOf 7 = .ok (.bipush 100, 2) := by decide +kernel
theorem dX1_faultOf_9 : decode cX1_faultOf 9 = .ok (.if_icmp .gt 28, 3) := by decide +kernel
theorem dX1_faultOf_12 : decode cX1_faultOf 12 = .ok (.aload_n 0, 1) := by decide +kernel
theorem dX1_faultOf_13 : decode cX1_faultOf 13 = .ok (.getfield 22, 3) := by decide +kernel
theorem dX1_faultOf_16 : decode cX1_faultOf 16 = .ok (.ifCond .eq 21, 3) := by decide +kernel
theorem dX1_faultOf_19 : decode cX1_faultOf 19 = .ok (.aload_n 0, 1) := by decide +kernel
theorem dX1_faultOf_20 : decode cX1_faultOf 20 = .ok (.invokevirtual 38, 3) := by decide +kernel
theorem dX1_faultOf_23 : decode cX1_faultOf 23 = .ok (.istore_n 2, 1) := by decide +kernel
theorem dX1_faultOf_24 : decode cX1_faultOf 24 = .ok (.iload_n 2, 1) := by decide +kernel
theorem dX1_faultOf_25 : decode cX1_faultOf 25 = .ok (.iconst (-1), 1) := by decide +kernel
theorem dX1_faultOf_26 : decode cX1_faultOf 26 = .ok (.if_icmp .eq 5, 3) := by decide +kernel
theorem dX1_faultOf_29 : decode cX1_faultOf 29 = .ok (.iload_n 2, 1) := by decide +kernel
theorem dX1_faultOf_30 : decode cX1_faultOf 30 = .ok (.ireturn, 1) := by decide +kernel
theorem dX1_faultOf_31 : decode cX1_faultOf 31 = .ok (.iinc 1 1, 3) := by decide +kernel
theorem dX1_faultOf_34 : decode cX1_faultOf 34 = .ok (.goto (-28), 3) := by decide +kernel
theorem dX1_faultOf_37 : decode cX1_faultOf 37 = .ok (.iconst (-1), 1) := by decide +kernel
theorem dX1_faultOf_38 : decode cX1_faultOf 38 = .ok (.ireturn, 1) := by decide +kernel
theorem dX1_startReading_0 : decode cX1_startReading 0 = .ok (.aload_n 0, 1) := by decide +kernel
theorem dX1_startReading_1 : decode cX1_startReading 1 = .ok (.iconst 0, 1) := by decide +kernel
theorem dX1_startReading_2 : decode cX1_startReading 2 = .ok (.putfield 19, 3) := by decide +kernel
theorem dX1_startReading_5 : decode cX1_startReading 5 = .ok (.aload_n 0, 1) := by decide +kernel
theorem dX1_startReading_6 : decode cX1_startReading 6 = .ok (.iconst 1, 1) := by decide +kernel
theorem dX1_startReading_7 : decode cX1_startReading 7 = .ok (.putfield 22, 3) := by decide +kernel
theorem dX1_startReading_10 : decode cX1_startReading 10 = .ok (.return_, 1) := by decide +kernel
theorem dX1_hasMore_0 : decode cX1_hasMore 0 = .ok (.aload_n 0, 1) := by decide +kernel
theorem dX1_hasMore_1 : decode cX1_hasMore 1 = .ok (.getfield 22, 3) := by decide +kernel
theorem dX1_hasMore_4 : decode cX1_hasMore 4 = .ok (.ireturn, 1) := by decide +kernel
theorem dX1_word_0 : decode cX1_word 0 = .ok (.aload_n 0, 1) := by decide +kernel
theorem dX1_word_1 : decode cX1_word 1 = .ok (.getfield 26, 3) := by decide +kernel
theorem dX1_word_4 : decode cX1_word 4 = .ok (.ireturn, 1) := by decide +kernel
theorem dX1_first_0 : decode cX1_first 0 = .ok (.aload_n 0, 1) := by decide +kernel
theorem dX1_first_1 : decode cX1_first 1 = .ok (.getfield 29, 3) := by decide +kernel
theorem dX1_first_4 : decode cX1_first 4 = .ok (.ireturn, 1) := by decide +kernel
theorem dX1_second_0 : decode cX1_second 0 = .ok (.aload_n 0, 1) := by decide +kernel
theorem dX1_second_1 : decode cX1_second 1 = .ok (.getfield 32, 3) := by decide +kernel
theorem dX1_second_4 : decode cX1_second 4 = .ok (.ireturn, 1) := by decide +kernel
theorem dX1_readOrder_0 : decode cX1_readOrder 0 = .ok (.aload_n 0, 1) := by decide +kernel
theorem dX1_readOrder_1 : decode cX1_readOrder 1 = .ok (.invokevirtual 42, 3) := by decide +kernel
theorem dX1_readOrder_4 : decode cX1_readOrder 4 = .ok (.aload_n 0, 1) := by decide +kernel
theorem dX1_readOrder_5 : decode cX1_readOrder 5 = .ok (.getfield 19, 3) := by decide +kernel
theorem dX1_readOrder_8 : decode cX1_readOrder 8 = .ok (.istore_n 1, 1) := by decide +kernel
theorem dX1_readOrder_9 : decode cX1_readOrder 9 = .ok (.aload_n 0, 1) := by decide +kernel
theorem dX1_readOrder_10 : decode cX1_readOrder 10 = .ok (.aload_n 0, 1) := by decide +kernel
theorem dX1_readOrder_11 : decode cX1_readOrder 11 = .ok (.invokevirtual 45, 3) := by decide +kernel
theorem dX1_readOrder_14 : decode cX1_readOrder 14 = .ok (.putfield 26, 3) := by decide +kernel
theorem dX1_readOrder_17 : decode cX1_readOrder 17 = .ok (.aload_n 0, 1) := by decide +kernel
theorem dX1_readOrder_18 : decode cX1_readOrder 18 = .ok (.getfield 26, 3) := by decide +kernel
theorem dX1_readOrder_21 : decode cX1_readOrder 21 = .ok (.iconst (-1), 1) := by decide +kernel
theorem dX1_readOrder_22 : decode cX1_readOrder 22 = .ok (.if_icmp .ne 5, 3) := by decide +kernel
theorem dX1_readOrder_25 : decode cX1_readOrder 25 = .ok (.iload_n 1, 1) := by decide +kernel
theorem dX1_readOrder_26 : decode cX1_readOrder 26 = .ok (.ireturn, 1) := by decide +kernel
theorem dX1_readOrder_27 : decode cX1_readOrder 27 = .ok (.aload_n 0, 1) := by decide +kernel
theorem dX1_readOrder_28 : decode cX1_readOrder 28 = .ok (.invokevirtual 42, 3) := by decide +kernel
theorem dX1_readOrder_31 : decode cX1_readOrder 31 = .ok (.aload_n 0, 1) := by decide +kernel
theorem dX1_readOrder_32 : decode cX1_readOrder 32 = .ok (.aload_n 0, 1) := by decide +kernel
theorem dX1_readOrder_33 : decode cX1_readOrder 33 = .ok (.invokevirtual 48, 3) := by decide +kernel
theorem dX1_readOrder_36 : decode cX1_readOrder 36 = .ok (.putfield 29, 3) := by decide +kernel
theorem dX1_readOrder_39 : decode cX1_readOrder 39 = .ok (.aload_n 0, 1) := by decide +kernel
theorem dX1_readOrder_40 : decode cX1_readOrder 40 = .ok (.getfield 29, 3) := by decide +kernel
theorem dX1_readOrder_43 : decode cX1_readOrder 43 = .ok (.iconst (-1), 1) := by decide +kernel
theorem dX1_readOrder_44 : decode cX1_readOrder 44 = .ok (.if_icmp .ne 8, 3) := by decide +kernel
theorem dX1_readOrder_47 : decode cX1_readOrder 47 = .ok (.aload_n 0, 1) := by decide +kernel
theorem dX1_readOrder_48 : decode cX1_readOrder 48 = .ok (.getfield 19, 3) := by decide +kernel
theorem dX1_readOrder_51 : decode cX1_readOrder 51 = .ok (.ireturn, 1) := by decide +kernel
theorem dX1_readOrder_52 : decode cX1_readOrder 52 = .ok (.aload_n 0, 1) := by decide +kernel
theorem dX1_readOrder_53 : decode cX1_readOrder 53 = .ok (.getfield 26, 3) := by decide +kernel
theorem dX1_readOrder_56 : decode cX1_readOrder 56 = .ok (.invokestatic 51, 3) := by decide +kernel
theorem dX1_readOrder_59 : decode cX1_readOrder 59 = .ok (.ifCond .eq 42, 3) := by decide +kernel
theorem dX1_readOrder_62 : decode cX1_readOrder 62 = .ok (.aload_n 0, 1) := by decide +kernel
theorem dX1_readOrder_63 : decode cX1_readOrder 63 = .ok (.invokevirtual 55, 3) := by decide +kernel
theorem dX1_readOrder_66 : decode cX1_readOrder 66 = .ok (.bipush 32, 2) := by decide +kernel
theorem dX1_readOrder_68 : decode cX1_readOrder 68 = .ok (.if_icmp .eq 8, 3) := by decide +kernel
theorem dX1_readOrder_71 : decode cX1_readOrder 71 = .ok (.aload_n 0, 1) := by decide +kernel
theorem dX1_readOrder_72 : decode cX1_readOrder 72 = .ok (.getfield 19, 3) := by decide +kernel
theorem dX1_readOrder_75 : decode cX1_readOrder 75 = .ok (.ireturn, 1) := by decide +kernel
theorem dX1_readOrder_76 : decode cX1_readOrder 76 = .ok (.aload_n 0, 1) := by decide +kernel
theorem dX1_readOrder_77 : decode cX1_readOrder 77 = .ok (.invokevirtual 42, 3) := by decide +kernel
theorem dX1_readOrder_80 : decode cX1_readOrder 80 = .ok (.aload_n 0, 1) := by decide +kernel
theorem dX1_readOrder_81 : decode cX1_readOrder 81 = .ok (.aload_n 0, 1) := by decide +kernel
theorem dX1_readOrder_82 : decode cX1_readOrder 82 = .ok (.invokevirtual 48, 3) := by decide +kernel
theorem dX1_readOrder_85 : decode cX1_readOrder 85 = .ok (.putfield 32, 3) := by decide +kernel
theorem dX1_readOrder_88 : decode cX1_readOrder 88 = .ok (.aload_n 0, 1) := by decide +kernel
theorem dX1_readOrder_89 : decode cX1_readOrder 89 = .ok (.getfield 32, 3) := by decide +kernel
theorem dX1_readOrder_92 : decode cX1_readOrder 92 = .ok (.iconst (-1), 1) := by decide +kernel
theorem dX1_readOrder_93 : decode cX1_readOrder 93 = .ok (.if_icmp .ne 8, 3) := by decide +kernel
theorem dX1_readOrder_96 : decode cX1_readOrder 96 = .ok (.aload_n 0, 1) := by decide +kernel
theorem dX1_readOrder_97 : decode cX1_readOrder 97 = .ok (.getfield 19, 3) := by decide +kernel
theorem dX1_readOrder_100 : decode cX1_readOrder 100 = .ok (.ireturn, 1) := by decide +kernel
theorem dX1_readOrder_101 : decode cX1_readOrder 101 = .ok (.aload_n 0, 1) := by decide +kernel
theorem dX1_readOrder_102 : decode cX1_readOrder 102 = .ok (.invokevirtual 42, 3) := by decide +kernel
theorem dX1_readOrder_105 : decode cX1_readOrder 105 = .ok (.aload_n 0, 1) := by decide +kernel
theorem dX1_readOrder_106 : decode cX1_readOrder 106 = .ok (.invokevirtual 58, 3) := by decide +kernel
theorem dX1_readOrder_109 : decode cX1_readOrder 109 = .ok (.ireturn, 1) := by decide +kernel
theorem dX1_readEndOfOrder_0 : decode cX1_readEndOfOrder 0 = .ok (.aload_n 0, 1) := by decide +kernel
theorem dX1_readEndOfOrder_1 : decode cX1_readEndOfOrder 1 = .ok (.aload_n 0, 1) := by decide +kernel
theorem dX1_readEndOfOrder_2 : decode cX1_readEndOfOrder 2 = .ok (.invokevirtual 55, 3) := by decide +kernel
theorem dX1_readEndOfOrder_5 : decode cX1_readEndOfOrder 5 = .ok (.bipush 59, 2) := by decide +kernel
theorem dX1_readEndOfOrder_7 : decode cX1_readEndOfOrder 7 = .ok (.if_icmp .ne 7, 3) := by decide +kernel
theorem dX1_readEndOfOrder_10 : decode cX1_readEndOfOrder 10 = .ok (.iconst 1, 1) := by decide +kernel
theorem dX1_readEndOfOrder_11 : decode cX1_readEndOfOrder 11 = .ok (.goto 4, 3) := by decide +kernel
theorem dX1_readEndOfOrder_14 : decode cX1_readEndOfOrder 14 = .ok (.iconst 0, 1) := by decide +kernel
theorem dX1_readEndOfOrder_15 : decode cX1_readEndOfOrder 15 = .ok (.putfield 22, 3) := by decide +kernel
theorem dX1_readEndOfOrder_18 : decode cX1_readEndOfOrder 18 = .ok (.aload_n 0, 1) := by decide +kernel
theorem dX1_readEndOfOrder_19 : decode cX1_readEndOfOrder 19 = .ok (.getfield 22, 3) := by decide +kernel
theorem dX1_readEndOfOrder_22 : decode cX1_readEndOfOrder 22 = .ok (.ifCond .eq 15, 3) := by decide +kernel
theorem dX1_readEndOfOrder_25 : decode cX1_readEndOfOrder 25 = .ok (.aload_n 0, 1) := by decide +kernel
theorem dX1_readEndOfOrder_26 : decode cX1_readEndOfOrder 26 = .ok (.dup, 1) := by decide +kernel
theorem dX1_readEndOfOrder_27 : decode cX1_readEndOfOrder 27 = .ok (.getfield 19, 3) := by decide +kernel
theorem dX1_readEndOfOrder_30 : decode cX1_readEndOfOrder 30 = .ok (.iconst 1, 1) := by decide +kernel
theorem dX1_readEndOfOrder_31 : decode cX1_readEndOfOrder 31 = .ok (.iadd, 1) := by decide +kernel
theorem dX1_readEndOfOrder_32 : decode cX1_readEndOfOrder 32 = .ok (.putfield 19, 3) := by decide +kernel
theorem dX1_readEndOfOrder_35 : decode cX1_readEndOfOrder 35 = .ok (.iconst (-1), 1) := by decide +kernel
theorem dX1_readEndOfOrder_36 : decode cX1_readEndOfOrder 36 = .ok (.ireturn, 1) := by decide +kernel
theorem dX1_readEndOfOrder_37 : decode cX1_readEndOfOrder 37 = .ok (.aload_n 0, 1) := by decide +kernel
theorem dX1_readEndOfOrder_38 : decode cX1_readEndOfOrder 38 = .ok (.invokevirtual 55, 3) := by decide +kernel
theorem dX1_readEndOfOrder_41 : decode cX1_readEndOfOrder 41 = .ok (.iconst (-1), 1) := by decide +kernel
theorem dX1_readEndOfOrder_42 : decode cX1_readEndOfOrder 42 = .ok (.if_icmp .ne 7, 3) := by decide +kernel
theorem dX1_readEndOfOrder_45 : decode cX1_readEndOfOrder 45 = .ok (.iconst (-1), 1) := by decide +kernel
theorem dX1_readEndOfOrder_46 : decode cX1_readEndOfOrder 46 = .ok (.goto 7, 3) := by decide +kernel
theorem dX1_readEndOfOrder_49 : decode cX1_readEndOfOrder 49 = .ok (.aload_n 0, 1) := by decide +kernel
theorem dX1_readEndOfOrder_50 : decode cX1_readEndOfOrder 50 = .ok (.getfield 19, 3) := by decide +kernel
theorem dX1_readEndOfOrder_53 : decode cX1_readEndOfOrder 53 = .ok (.ireturn, 1) := by decide +kernel
theorem dX1_readWord_0 : decode cX1_readWord 0 = .ok (.aload_n 0, 1) := by decide +kernel
theorem dX1_readWord_1 : decode cX1_readWord 1 = .ok (.getfield 19, 3) := by decide +kernel
theorem dX1_readWord_4 : decode cX1_readWord 4 = .ok (.istore_n 1, 1) := by decide +kernel
theorem dX1_readWord_5 : decode cX1_readWord 5 = .ok (.aload_n 0, 1) := by decide +kernel
theorem dX1_readWord_6 : decode cX1_readWord 6 = .ok (.getfield 19, 3) := by decide +kernel
theorem dX1_readWord_9 : decode cX1_readWord 9 = .ok (.aload_n 0, 1) := by decide +kernel
theorem dX1_readWord_10 : decode cX1_readWord 10 = .ok (.getfield 15, 3) := by decide +kernel
theorem dX1_readWord_13 : decode cX1_readWord 13 = .ok (.if_icmp .ge 44, 3) := by decide +kernel
theorem dX1_readWord_16 : decode cX1_readWord 16 = .ok (.aload_n 0, 1) := by decide +kernel
theorem dX1_readWord_17 : decode cX1_readWord 17 = .ok (.getfield 11, 3) := by decide +kernel
theorem dX1_readWord_20 : decode cX1_readWord 20 = .ok (.aload_n 0, 1) := by decide +kernel
theorem dX1_readWord_21 : decode cX1_readWord 21 = .ok (.getfield 19, 3) := by decide +kernel
theorem dX1_readWord_24 : decode cX1_readWord 24 = .ok (.iaload, 1) := by decide +kernel
theorem dX1_readWord_25 : decode cX1_readWord 25 = .ok (.bipush 97, 2) := by decide +kernel
theorem dX1_readWord_27 : decode cX1_readWord 27 = .ok (.if_icmp .lt 30, 3) := by decide +kernel
theorem dX1_readWord_30 : decode cX1_readWord 30 = .ok (.aload_n 0, 1) := by decide +kernel
theorem dX1_readWord_31 : decode cX1_readWord 31 = .ok (.getfield 11, 3) := by decide +kernel
theorem dX1_readWord_34 : decode cX1_readWord 34 = .ok (.aload_n 0, 1) := by decide +kernel
theorem dX1_readWord_35 : decode cX1_readWord 35 = .ok (.getfield 19, 3) := by decide +kernel
theorem dX1_readWord_38 : decode cX1_readWord 38 = .ok (.iaload, 1) := by decide +kernel
theorem dX1_readWord_39 : decode cX1_readWord 39 = .ok (.bipush 122, 2) := by decide +kernel
theorem dX1_readWord_41 : decode cX1_readWord 41 = .ok (.if_icmp .gt 16, 3) := by decide +kernel
theorem dX1_readWord_44 : decode cX1_readWord 44 = .ok (.aload_n 0, 1) := by decide +kernel
theorem dX1_readWord_45 : decode cX1_readWord 45 = .ok (.dup, 1) := by decide +kernel
theorem dX1_readWord_46 : decode cX1_readWord 46 = .ok (.getfield 19, 3) := by decide +kernel
theorem dX1_readWord_49 : decode cX1_readWord 49 = .ok (.iconst 1, 1) := by decide +kernel
theorem dX1_readWord_50 : decode cX1_readWord 50 = .ok (.iadd, 1) := by decide +kernel
theorem dX1_readWord_51 : decode cX1_readWord 51 = .ok (.putfield 19, 3) := by decide +kernel
theorem dX1_readWord_54 : decode cX1_readWord 54 = .ok (.goto (-49), 3) := by decide +kernel
theorem dX1_readWord_57 : decode cX1_readWord 57 = .ok (.aload_n 0, 1) := by decide +kernel
theorem dX1_readWord_58 : decode cX1_readWord 58 = .ok (.ldc 61, 2) := by decide +kernel
theorem dX1_readWord_60 : decode cX1_readWord 60 = .ok (.iload_n 1, 1) := by decide +kernel
theorem dX1_readWord_61 : decode cX1_readWord 61 = .ok (.invokevirtual 63, 3) := by decide +kernel
theorem dX1_readWord_64 : decode cX1_readWord 64 = .ok (.ifCond .eq 5, 3) := by decide +kernel
theorem dX1_readWord_67 : decode cX1_readWord 67 = .ok (.iconst 0, 1) := by decide +kernel
theorem dX1_readWord_68 : decode cX1_readWord 68 = .ok (.ireturn, 1) := by decide +kernel
theorem dX1_readWord_69 : decode cX1_readWord 69 = .ok (.aload_n 0, 1) := by decide +kernel
theorem dX1_readWord_70 : decode cX1_readWord 70 = .ok (.ldc 67, 2) := by decide +kernel
theorem dX1_readWord_72 : decode cX1_readWord 72 = .ok (.iload_n 1, 1) := by decide +kernel
theorem dX1_readWord_73 : decode cX1_readWord 73 = .ok (.invokevirtual 63, 3) := by decide +kernel
theorem dX1_readWord_76 : decode cX1_readWord 76 = .ok (.ifCond .eq 5, 3) := by decide +kernel
theorem dX1_readWord_79 : decode cX1_readWord 79 = .ok (.iconst 1, 1) := by decide +kernel
theorem dX1_readWord_80 : decode cX1_readWord 80 = .ok (.ireturn, 1) := by decide +kernel
theorem dX1_readWord_81 : decode cX1_readWord 81 = .ok (.aload_n 0, 1) := by decide +kernel
theorem dX1_readWord_82 : decode cX1_readWord 82 = .ok (.ldc 69, 2) := by decide +kernel
theorem dX1_readWord_84 : decode cX1_readWord 84 = .ok (.iload_n 1, 1) := by decide +kernel
theorem dX1_readWord_85 : decode cX1_readWord 85 = .ok (.invokevirtual 63, 3) := by decide +kernel
theorem dX1_readWord_88 : decode cX1_readWord 88 = .ok (.ifCond .eq 5, 3) := by decide +kernel
theorem dX1_readWord_91 : decode cX1_readWord 91 = .ok (.iconst 2, 1) := by decide +kernel
theorem dX1_readWord_92 : decode cX1_readWord 92 = .ok (.ireturn, 1) := by decide +kernel
theorem dX1_readWord_93 : decode cX1_readWord 93 = .ok (.aload_n 0, 1) := by decide +kernel
theorem dX1_readWord_94 : decode cX1_readWord 94 = .ok (.ldc 71, 2) := by decide +kernel
theorem dX1_readWord_96 : decode cX1_readWord 96 = .ok (.iload_n 1, 1) := by decide +kernel
theorem dX1_readWord_97 : decode cX1_readWord 97 = .ok (.invokevirtual 63, 3) := by decide +kernel
theorem dX1_readWord_100 : decode cX1_readWord 100 = .ok (.ifCond .eq 5, 3) := by decide +kernel
theorem dX1_readWord_103 : decode cX1_readWord 103 = .ok (.iconst 3, 1) := by decide +kernel
theorem dX1_readWord_104 : decode cX1_readWord 104 = .ok (.ireturn, 1) := by decide +kernel
theorem dX1_readWord_105 : decode cX1_readWord 105 = .ok (.aload_n 0, 1) := by decide +kernel
theorem dX1_readWord_106 : decode cX1_readWord 106 = .ok (.ldc 73, 2) := by decide +kernel
theorem dX1_readWord_108 : decode cX1_readWord 108 = .ok (.iload_n 1, 1) := by decide +kernel
theorem dX1_readWord_109 : decode cX1_readWord 109 = .ok (.invokevirtual 63, 3) := by decide +kernel
theorem dX1_readWord_112 : decode cX1_readWord 112 = .ok (.ifCond .eq 7, 3) := by decide +kernel
theorem dX1_readWord_115 : decode cX1_readWord 115 = .ok (.iconst 4, 1) := by decide +kernel
theorem dX1_readWord_116 : decode cX1_readWord 116 = .ok (.goto 4, 3) := by decide +kernel
theorem dX1_readWord_119 : decode cX1_readWord 119 = .ok (.iconst (-1), 1) := by decide +kernel
theorem dX1_readWord_120 : decode cX1_readWord 120 = .ok (.ireturn, 1) := by decide +kernel
theorem dX1_stands_0 : decode cX1_stands 0 = .ok (.aload_n 1, 1) := by decide +kernel
theorem dX1_stands_1 : decode cX1_stands 1 = .ok (.invokevirtual 75, 3) := by decide +kernel
theorem dX1_stands_4 : decode cX1_stands 4 = .ok (.aload_n 0, 1) := by decide +kernel
theorem dX1_stands_5 : decode cX1_stands 5 = .ok (.getfield 19, 3) := by decide +kernel
theorem dX1_stands_8 : decode cX1_stands 8 = .ok (.iload_n 2, 1) := by decide +kernel
theorem dX1_stands_9 : decode cX1_stands 9 = .ok (.isub, 1) := by decide +kernel
theorem dX1_stands_10 : decode cX1_stands 10 = .ok (.if_icmp .eq 5, 3) := by decide +kernel
theorem dX1_stands_13 : decode cX1_stands 13 = .ok (.iconst 0, 1) := by decide +kernel
theorem dX1_stands_14 : decode cX1_stands 14 = .ok (.ireturn, 1) := by decide +kernel
theorem dX1_stands_15 : decode cX1_stands 15 = .ok (.iconst 0, 1) := by decide +kernel
theorem dX1_stands_16 : decode cX1_stands 16 = .ok (.istore_n 3, 1) := by decide +kernel
theorem dX1_stands_17 : decode cX1_stands 17 = .ok (.iload_n 3, 1) := by decide +kernel
theorem dX1_stands_18 : decode cX1_stands 18 = .ok (.aload_n 1, 1) := by decide +kernel
theorem dX1_stands_19 : decode cX1_stands 19 = .ok (.invokevirtual 75, 3) := by decide +kernel
theorem dX1_stands_22 : decode cX1_stands 22 = .ok (.if_icmp .ge 37, 3) := by decide +kernel
theorem dX1_stands_25 : decode cX1_stands 25 = .ok (.iload_n 2, 1) := by decide +kernel
theorem dX1_stands_26 : decode cX1_stands 26 = .ok (.iload_n 3, 1) := by decide +kernel
theorem dX1_stands_27 : decode cX1_stands 27 = .ok (.iadd, 1) := by decide +kernel
theorem dX1_stands_28 : decode cX1_stands 28 = .ok (.aload_n 0, 1) := by decide +kernel
theorem dX1_stands_29 : decode cX1_stands 29 = .ok (.getfield 15, 3) := by decide +kernel
theorem dX1_stands_32 : decode cX1_stands 32 = .ok (.if_icmp .ge 27, 3) := by decide +kernel
theorem dX1_stands_35 : decode cX1_stands 35 = .ok (.aload_n 0, 1) := by decide +kernel
theorem dX1_stands_36 : decode cX1_stands 36 = .ok (.getfield 11, 3) := by decide +kernel
theorem dX1_stands_39 : decode cX1_stands 39 = .ok (.iload_n 2, 1) := by decide +kernel
theorem dX1_stands_40 : decode cX1_stands 40 = .ok (.iload_n 3, 1) := by decide +kernel
theorem dX1_stands_41 : decode cX1_stands 41 = .ok (.iadd, 1) := by decide +kernel
theorem dX1_stands_42 : decode cX1_stands 42 = .ok (.iaload, 1) := by decide +kernel
theorem dX1_stands_43 : decode cX1_stands 43 = .ok (.aload_n 1, 1) := by decide +kernel
theorem dX1_stands_44 : decode cX1_stands 44 = .ok (.iload_n 3, 1) := by decide +kernel
theorem dX1_stands_45 : decode cX1_stands 45 = .ok (.invokevirtual 79, 3) := by decide +kernel
theorem dX1_stands_48 : decode cX1_stands 48 = .ok (.if_icmp .eq 5, 3) := by decide +kernel
theorem dX1_stands_51 : decode cX1_stands 51 = .ok (.iconst 0, 1) := by decide +kernel
theorem dX1_stands_52 : decode cX1_stands 52 = .ok (.ireturn, 1) := by decide +kernel
theorem dX1_stands_53 : decode cX1_stands 53 = .ok (.iinc 3 1, 3) := by decide +kernel
theorem dX1_stands_56 : decode cX1_stands 56 = .ok (.goto (-39), 3) := by decide +kernel
theorem dX1_stands_59 : decode cX1_stands 59 = .ok (.iconst 1, 1) := by decide +kernel
theorem dX1_stands_60 : decode cX1_stands 60 = .ok (.ireturn, 1) := by decide +kernel
theorem dX1_takesTwo_0 : decode cX1_takesTwo 0 = .ok (.iload_n 0, 1) := by decide +kernel
theorem dX1_takesTwo_1 : decode cX1_takesTwo 1 = .ok (.ifCond .eq 13, 3) := by decide +kernel
theorem dX1_takesTwo_4 : decode cX1_takesTwo 4 = .ok (.iload_n 0, 1) := by decide +kernel
theorem dX1_takesTwo_5 : decode cX1_takesTwo 5 = .ok (.iconst 1, 1) := by decide +kernel
theorem dX1_takesTwo_6 : decode cX1_takesTwo 6 = .ok (.if_icmp .eq 8, 3) := by decide +kernel
theorem dX1_takesTwo_9 : decode cX1_takesTwo 9 = .ok (.iload_n 0, 1) := by decide +kernel
theorem dX1_takesTwo_10 : decode cX1_takesTwo 10 = .ok (.iconst 2, 1) := by decide +kernel
theorem dX1_takesTwo_11 : decode cX1_takesTwo 11 = .ok (.if_icmp .ne 7, 3) := by decide +kernel
theorem dX1_takesTwo_14 : decode cX1_takesTwo 14 = .ok (.iconst 1, 1) := by decide +kernel
theorem dX1_takesTwo_15 : decode cX1_takesTwo 15 = .ok (.goto 4, 3) := by decide +kernel
theorem dX1_takesTwo_18 : decode cX1_takesTwo 18 = .ok (.iconst 0, 1) := by decide +kernel
theorem dX1_takesTwo_19 : decode cX1_takesTwo 19 = .ok (.ireturn, 1) := by decide +kernel
theorem dX1_readNumber_0 : decode cX1_readNumber 0 = .ok (.iconst 0, 1) := by decide +kernel
theorem dX1_readNumber_1 : decode cX1_readNumber 1 = .ok (.istore_n 1, 1) := by decide +kernel
theorem dX1_readNumber_2 : decode cX1_readNumber 2 = .ok (.iconst 0, 1) := by decide +kernel
theorem dX1_readNumber_3 : decode cX1_readNumber 3 = .ok (.istore_n 2, 1) := by decide +kernel
theorem dX1_readNumber_4 : decode cX1_readNumber 4 = .ok (.aload_n 0, 1) := by decide +kernel
theorem dX1_readNumber_5 : decode cX1_readNumber 5 = .ok (.getfield 19, 3) := by decide +kernel
theorem dX1_readNumber_8 : decode cX1_readNumber 8 = .ok (.aload_n 0, 1) := by decide +kernel
theorem dX1_readNumber_9 : decode cX1_readNumber 9 = .ok (.getfield 15, 3) := by decide +kernel
theorem dX1_readNumber_12 : decode cX1_readNumber 12 = .ok (.if_icmp .ge 72, 3) := by decide +kernel
theorem dX1_readNumber_15 : decode cX1_readNumber 15 = .ok (.aload_n 0, 1) := by decide +kernel
theorem dX1_readNumber_16 : decode cX1_readNumber 16 = .ok (.getfield 11, 3) := by decide +kernel
theorem dX1_readNumber_19 : decode cX1_readNumber 19 = .ok (.aload_n 0, 1) := by decide +kernel
theorem dX1_readNumber_20 : decode cX1_readNumber 20 = .ok (.getfield 19, 3) := by decide +kernel
theorem dX1_readNumber_23 : decode cX1_readNumber 23 = .ok (.iaload, 1) := by decide +kernel
theorem dX1_readNumber_24 : decode cX1_readNumber 24 = .ok (.bipush 48, 2) := by decide +kernel
theorem dX1_readNumber_26 : decode cX1_readNumber 26 = .ok (.if_icmp .lt 58, 3) := by decide +kernel
theorem dX1_readNumber_29 : decode cX1_readNumber 29 = .ok (.aload_n 0, 1) := by decide +kernel
theorem dX1_readNumber_30 : decode cX1_readNumber 30 = .ok (.getfield 11, 3) := by decide +kernel
theorem dX1_readNumber_33 : decode cX1_readNumber 33 = .ok (.aload_n 0, 1) := by decide +kernel
theorem dX1_readNumber_34 : decode cX1_readNumber 34 = .ok (.getfield 19, 3) := by decide +kernel
theorem dX1_readNumber_37 : decode cX1_readNumber 37 = .ok (.iaload, 1) := by decide +kernel
theorem dX1_readNumber_38 : decode cX1_readNumber 38 = .ok (.bipush 57, 2) := by decide +kernel
theorem dX1_readNumber_40 : decode cX1_readNumber 40 = .ok (.if_icmp .gt 44, 3) := by decide +kernel
theorem dX1_readNumber_43 : decode cX1_readNumber 43 = .ok (.iload_n 2, 1) := by decide +kernel
theorem dX1_readNumber_44 : decode cX1_readNumber 44 = .ok (.iconst 5, 1) := by decide +kernel
theorem dX1_readNumber_45 : decode cX1_readNumber 45 = .ok (.if_icmp .ne 5, 3) := by decide +kernel
theorem dX1_readNumber_48 : decode cX1_readNumber 48 = .ok (.iconst (-1), 1) := by decide +kernel
theorem dX1_readNumber_49 : decode cX1_readNumber 49 = .ok (.ireturn, 1) := by decide +kernel
theorem dX1_readNumber_50 : decode cX1_readNumber 50 = .ok (.iload_n 1, 1) := by decide +kernel
theorem dX1_readNumber_51 : decode cX1_readNumber 51 = .ok (.bipush 10, 2) := by decide +kernel
theorem dX1_readNumber_53 : decode cX1_readNumber 53 = .ok (.imul, 1) := by decide +kernel
theorem dX1_readNumber_54 : decode cX1_readNumber 54 = .ok (.aload_n 0, 1) := by decide +kernel
theorem dX1_readNumber_55 : decode cX1_readNumber 55 = .ok (.getfield 11, 3) := by decide +kernel
theorem dX1_readNumber_58 : decode cX1_readNumber 58 = .ok (.aload_n 0, 1) := by decide +kernel
theorem dX1_readNumber_59 : decode cX1_readNumber 59 = .ok (.getfield 19, 3) := by decide +kernel
theorem dX1_readNumber_62 : decode cX1_readNumber 62 = .ok (.iaload, 1) := by decide +kernel
theorem dX1_readNumber_63 : decode cX1_readNumber 63 = .ok (.iadd, 1) := by decide +kernel
theorem dX1_readNumber_64 : decode cX1_readNumber 64 = .ok (.bipush 48, 2) := by decide +kernel
theorem dX1_readNumber_66 : decode cX1_readNumber 66 = .ok (.isub, 1) := by decide +kernel
theorem dX1_readNumber_67 : decode cX1_readNumber 67 = .ok (.istore_n 1, 1) := by decide +kernel
theorem dX1_readNumber_68 : decode cX1_readNumber 68 = .ok (.iinc 2 1, 3) := by decide +kernel
theorem dX1_readNumber_71 : decode cX1_readNumber 71 = .ok (.aload_n 0, 1) := by decide +kernel
theorem dX1_readNumber_72 : decode cX1_readNumber 72 = .ok (.dup, 1) := by decide +kernel
theorem dX1_readNumber_73 : decode cX1_readNumber 73 = .ok (.getfield 19, 3) := by decide +kernel
theorem dX1_readNumber_76 : decode cX1_readNumber 76 = .ok (.iconst 1, 1) := by decide +kernel
theorem dX1_readNumber_77 : decode cX1_readNumber 77 = .ok (.iadd, 1) := by decide +kernel
theorem dX1_readNumber_78 : decode cX1_readNumber 78 = .ok (.putfield 19, 3) := by decide +kernel
theorem dX1_readNumber_81 : decode cX1_readNumber 81 = .ok (.goto (-77), 3) := by decide +kernel
theorem dX1_readNumber_84 : decode cX1_readNumber 84 = .ok (.iload_n 2, 1) := by decide +kernel
theorem dX1_readNumber_85 : decode cX1_readNumber 85 = .ok (.ifCond .ne 7, 3) := by decide +kernel
theorem dX1_readNumber_88 : decode cX1_readNumber 88 = .ok (.iconst (-1), 1) := by decide +kernel
theorem dX1_readNumber_89 : decode cX1_readNumber 89 = .ok (.goto 4, 3) := by decide +kernel
theorem dX1_readNumber_92 : decode cX1_readNumber 92 = .ok (.iload_n 1, 1) := by decide +kernel
theorem dX1_readNumber_93 : decode cX1_readNumber 93 = .ok (.ireturn, 1) := by decide +kernel
theorem dX1_skipBlanks_0 : decode cX1_skipBlanks 0 = .ok (.aload_n 0, 1) := by decide +kernel
theorem dX1_skipBlanks_1 : decode cX1_skipBlanks 1 = .ok (.getfield 19, 3) := by decide +kernel
theorem dX1_skipBlanks_4 : decode cX1_skipBlanks 4 = .ok (.aload_n 0, 1) := by decide +kernel
theorem dX1_skipBlanks_5 : decode cX1_skipBlanks 5 = .ok (.getfield 15, 3) := by decide +kernel
theorem dX1_skipBlanks_8 : decode cX1_skipBlanks 8 = .ok (.if_icmp .ge 30, 3) := by decide +kernel
theorem dX1_skipBlanks_11 : decode cX1_skipBlanks 11 = .ok (.aload_n 0, 1) := by decide +kernel
theorem dX1_skipBlanks_12 : decode cX1_skipBlanks 12 = .ok (.getfield 11, 3) := by decide +kernel
theorem dX1_skipBlanks_15 : decode cX1_skipBlanks 15 = .ok (.aload_n 0, 1) := by decide +kernel
theorem dX1_skipBlanks_16 : decode cX1_skipBlanks 16 = .ok (.getfield 19, 3) := by decide +kernel
theorem dX1_skipBlanks_19 : decode cX1_skipBlanks 19 = .ok (.iaload, 1) := by decide +kernel
theorem dX1_skipBlanks_20 : decode cX1_skipBlanks 20 = .ok (.bipush 32, 2) := by decide +kernel
theorem dX1_skipBlanks_22 : decode cX1_skipBlanks 22 = .ok (.if_icmp .ne 16, 3) := by decide +kernel
theorem dX1_skipBlanks_25 : decode cX1_skipBlanks 25 = .ok (.aload_n 0, 1) := by decide +kernel
theorem dX1_skipBlanks_26 : decode cX1_skipBlanks 26 = .ok (.dup, 1) := by decide +kernel
theorem dX1_skipBlanks_27 : decode cX1_skipBlanks 27 = .ok (.getfield 19, 3) := by decide +kernel
theorem dX1_skipBlanks_30 : decode cX1_skipBlanks 30 = .ok (.iconst 1, 1) := by decide +kernel
theorem dX1_skipBlanks_31 : decode cX1_skipBlanks 31 = .ok (.iadd, 1) := by decide +kernel
theorem dX1_skipBlanks_32 : decode cX1_skipBlanks 32 = .ok (.putfield 19, 3) := by decide +kernel
theorem dX1_skipBlanks_35 : decode cX1_skipBlanks 35 = .ok (.goto (-35), 3) := by decide +kernel
theorem dX1_skipBlanks_38 : decode cX1_skipBlanks 38 = .ok (.return_, 1) := by decide +kernel
theorem dX1_here_0 : decode cX1_here 0 = .ok (.aload_n 0, 1) := by decide +kernel
theorem dX1_here_1 : decode cX1_here 1 = .ok (.getfield 19, 3) := by decide +kernel
theorem dX1_here_4 : decode cX1_here 4 = .ok (.aload_n 0, 1) := by decide +kernel
theorem dX1_here_5 : decode cX1_here 5 = .ok (.getfield 15, 3) := by decide +kernel
theorem dX1_here_8 : decode cX1_here 8 = .ok (.if_icmp .ge 15, 3) := by decide +kernel
theorem dX1_here_11 : decode cX1_here 11 = .ok (.aload_n 0, 1) := by decide +kernel
theorem dX1_here_12 : decode cX1_here 12 = .ok (.getfield 11, 3) := by decide +kernel
theorem dX1_here_15 : decode cX1_here 15 = .ok (.aload_n 0, 1) := by decide +kernel
theorem dX1_here_16 : decode cX1_here 16 = .ok (.getfield 19, 3) := by decide +kernel
theorem dX1_here_19 : decode cX1_here 19 = .ok (.iaload, 1) := by decide +kernel
theorem dX1_here_20 : decode cX1_here 20 = .ok (.goto 4, 3) := by decide +kernel
theorem dX1_here_23 : decode cX1_here 23 = .ok (.iconst (-1), 1) := by decide +kernel
theorem dX1_here_24 : decode cX1_here 24 = .ok (.ireturn, 1) := by decide +kernel
theorem dX2_init_0 : decode cX2_init 0 = .ok (.aload_n 0, 1) := by decide +kernel
theorem dX2_init_1 : decode cX2_init 1 = .ok (.invokespecial 3, 3) := by decide +kernel
theorem dX2_init_4 : decode cX2_init 4 = .ok (.aload_n 0, 1) := by decide +kernel
theorem dX2_init_5 : decode cX2_init 5 = .ok (.iconst 0, 1) := by decide +kernel
theorem dX2_init_6 : decode cX2_init 6 = .ok (.putfield 9, 3) := by decide +kernel
theorem dX2_init_9 : decode cX2_init 9 = .ok (.aload_n 0, 1) := by decide +kernel
theorem dX2_init_10 : decode cX2_init 10 = .ok (.iconst 0, 1) := by decide +kernel
theorem dX2_init_11 : decode cX2_init 11 = .ok (.putfield 15, 3) := by decide +kernel
theorem dX2_init_14 : decode cX2_init 14 = .ok (.aload_n 0, 1) := by decide +kernel
theorem dX2_init_15 : decode cX2_init 15 = .ok (.iconst 0, 1) := by decide +kernel
theorem dX2_init_16 : decode cX2_init 16 = .ok (.putfield 18, 3) := by decide +kernel
theorem dX2_init_19 : decode cX2_init 19 = .ok (.aload_n 0, 1) := by decide +kernel
theorem dX2_init_20 : decode cX2_init 20 = .ok (.iconst 0, 1) := by decide +kernel
theorem dX2_init_21 : decode cX2_init 21 = .ok (.putfield 21, 3) := by decide +kernel
theorem dX2_init_24 : decode cX2_init 24 = .ok (.aload_n 0, 1) := by decide +kernel
theorem dX2_init_25 : decode cX2_init 25 = .ok (.iconst 4, 1) := by decide +kernel
theorem dX2_init_26 : decode cX2_init 26 = .ok (.newarray .int, 2) := by decide +kernel
theorem dX2_init_28 : decode cX2_init 28 = .ok (.dup, 1) := by decide +kernel
theorem dX2_init_29 : decode cX2_init 29 = .ok (.iconst 0, 1) := by decide +kernel
theorem dX2_init_30 : decode cX2_init 30 = .ok (.bipush 100, 2) := by decide +kernel
theorem dX2_init_32 : decode cX2_init 32 = .ok (.iastore, 1) := by decide +kernel
theorem dX2_init_33 : decode cX2_init 33 = .ok (.dup, 1) := by decide +kernel
theorem dX2_init_34 : decode cX2_init 34 = .ok (.iconst 1, 1) := by decide +kernel
theorem dX2_init_35 : decode cX2_init 35 = .ok (.bipush 25, 2) := by decide +kernel
theorem dX2_init_37 : decode cX2_init 37 = .ok (.iastore, 1) := by decide +kernel
theorem dX2_init_38 : decode cX2_init 38 = .ok (.dup, 1) := by decide +kernel
theorem dX2_init_39 : decode cX2_init 39 = .ok (.iconst 2, 1) := by decide +kernel
theorem dX2_init_40 : decode cX2_init 40 = .ok (.bipush 30, 2) := by decide +kernel
theorem dX2_init_42 : decode cX2_init 42 = .ok (.iastore, 1) := by decide +kernel
theorem dX2_init_43 : decode cX2_init 43 = .ok (.dup, 1) := by decide +kernel
theorem dX2_init_44 : decode cX2_init 44 = .ok (.iconst 3, 1) := by decide +kernel
theorem dX2_init_45 : decode cX2_init 45 = .ok (.bipush 20, 2) := by decide +kernel
theorem dX2_init_47 : decode cX2_init 47 = .ok (.iastore, 1) := by decide +kernel
theorem dX2_init_48 : decode cX2_init 48 = .ok (.putfield 24, 3) := by decide +kernel
theorem dX2_init_51 : decode cX2_init 51 = .ok (.aload_n 0, 1) := by decide +kernel
theorem dX2_init_52 : decode cX2_init 52 = .ok (.bipush 6, 2) := by decide +kernel
theorem dX2_init_54 : decode cX2_init 54 = .ok (.newarray .int, 2) := by decide +kernel
theorem dX2_init_56 : decode cX2_init 56 = .ok (.putfield 28, 3) := by decide +kernel
theorem dX2_init_59 : decode cX2_init 59 = .ok (.aload_n 0, 1) := by decide +kernel
theorem dX2_init_60 : decode cX2_init 60 = .ok (.bipush 6, 2) := by decide +kernel
theorem dX2_init_62 : decode cX2_init 62 = .ok (.newarray .int, 2) := by decide +kernel
theorem dX2_init_64 : decode cX2_init 64 = .ok (.putfield 31, 3) := by decide +kernel
theorem dX2_init_67 : decode cX2_init 67 = .ok (.aload_n 0, 1) := by decide +kernel
theorem dX2_init_68 : decode cX2_init 68 = .ok (.bipush 6, 2) := by decide +kernel
theorem dX2_init_70 : decode cX2_init 70 = .ok (.newarray .int, 2) := by decide +kernel
theorem dX2_init_72 : decode cX2_init 72 = .ok (.putfield 34, 3) := by decide +kernel
theorem dX2_init_75 : decode cX2_init 75 = .ok (.aload_n 0, 1) := by decide +kernel
theorem dX2_init_76 : decode cX2_init 76 = .ok (.bipush 6, 2) := by decide +kernel
theorem dX2_init_78 : decode cX2_init 78 = .ok (.newarray .int, 2) := by decide +kernel
theorem dX2_init_80 : decode cX2_init 80 = .ok (.putfield 37, 3) := by decide +kernel
theorem dX2_init_83 : decode cX2_init 83 = .ok (.aload_n 0, 1) := by decide +kernel
theorem dX2_init_84 : decode cX2_init 84 = .ok (.bipush 6, 2) := by decide +kernel
theorem dX2_init_86 : decode cX2_init 86 = .ok (.newarray .int, 2) := by decide +kernel
theorem dX2_init_88 : decode cX2_init 88 = .ok (.putfield 40, 3) := by decide +kernel
theorem dX2_init_91 : decode cX2_init 91 = .ok (.aload_n 0, 1) := by decide +kernel
theorem dX2_init_92 : decode cX2_init 92 = .ok (.bipush 60, 2) := by decide +kernel
theorem dX2_init_94 : decode cX2_init 94 = .ok (.newarray .int, 2) := by decide +kernel
theorem dX2_init_96 : decode cX2_init 96 = .ok (.putfield 43, 3) := by decide +kernel
theorem dX2_init_99 : decode cX2_init 99 = .ok (.aload_n 0, 1) := by decide +kernel
theorem dX2_init_100 : decode cX2_init 100 = .ok (.bipush 60, 2) := by decide +kernel
theorem dX2_init_102 : decode cX2_init 102 = .ok (.newarray .int, 2) := by decide +kernel
theorem dX2_init_104 : decode cX2_init 104 = .ok (.putfield 46, 3) := by decide +kernel
theorem dX2_init_107 : decode cX2_init 107 = .ok (.aload_n 0, 1) := by decide +kernel
theorem dX2_init_108 : decode cX2_init 108 = .ok (.bipush 60, 2) := by decide +kernel
theorem dX2_init_110 : decode cX2_init 110 = .ok (.newarray .int, 2) := by decide +kernel
theorem dX2_init_112 : decode cX2_init 112 = .ok (.putfield 49, 3) := by decide +kernel
theorem dX2_init_115 : decode cX2_init 115 = .ok (.aload_n 0, 1) := by decide +kernel
theorem dX2_init_116 : decode cX2_init 116 = .ok (.bipush 60, 2) := by decide +kernel
theorem dX2_init_118 : decode cX2_init 118 = .ok (.newarray .int, 2) := by decide +kernel
theorem dX2_init_120 : decode cX2_init 120 = .ok (.putfield 52, 3) := by decide +kernel
theorem dX2_init_123 : decode cX2_init 123 = .ok (.aload_n 0, 1) := by decide +kernel
theorem dX2_init_124 : decode cX2_init 124 = .ok (.bipush 60, 2) := by decide +kernel
theorem dX2_init_126 : decode cX2_init 126 = .ok (.newarray .int, 2) := by decide +kernel
theorem dX2_init_128 : decode cX2_init 128 = .ok (.putfield 55, 3) := by decide +kernel
theorem dX2_init_131 : decode cX2_init 131 = .ok (.aload_n 0, 1) := by decide +kernel
theorem dX2_init_132 : decode cX2_init 132 = .ok (.bipush 60, 2) := by decide +kernel
theorem dX2_init_134 : decode cX2_init 134 = .ok (.newarray .int, 2) := by decide +kernel
theorem dX2_init_136 : decode cX2_init 136 = .ok (.putfield 58, 3) := by decide +kernel
theorem dX2_init_139 : decode cX2_init 139 = .ok (.aload_n 0, 1) := by decide +kernel
theorem dX2_init_140 : decode cX2_init 140 = .ok (.bipush 7, 2) := by decide +kernel
theorem dX2_init_142 : decode cX2_init 142 = .ok (.newarray .int, 2) := by decide +kernel
theorem dX2_init_144 : decode cX2_init 144 = .ok (.putfield 61, 3) := by decide +kernel
theorem dX2_init_147 : decode cX2_init 147 = .ok (.aload_n 0, 1) := by decide +kernel
theorem dX2_init_148 : decode cX2_init 148 = .ok (.bipush 8, 2) := by decide +kernel
theorem dX2_init_150 : decode cX2_init 150 = .ok (.newarray .int, 2) := by decide +kernel
theorem dX2_init_152 : decode cX2_init 152 = .ok (.putfield 64, 3) := by decide +kernel
theorem dX2_init_155 : decode cX2_init 155 = .ok (.return_, 1) := by decide +kernel
theorem dX2_becomeLike_0 : decode cX2_becomeLike 0 = .ok (.aload_n 0, 1) := by decide +kernel
theorem dX2_becomeLike_1 : decode cX2_becomeLike 1 = .ok (.aload_n 1, 1) := by decide +kernel
theorem dX2_becomeLike_2 : decode cX2_becomeLike 2 = .ok (.getfield 9, 3) := by decide +kernel
theorem dX2_becomeLike_5 : decode cX2_becomeLike 5 = .ok (.putfield 9, 3) := by decide +kernel
theorem dX2_becomeLike_8 : decode cX2_becomeLike 8 = .ok (.aload_n 0, 1) := by decide +kernel
theorem dX2_becomeLike_9 : decode cX2_becomeLike 9 = .ok (.aload_n 1, 1) := by decide +kernel
theorem dX2_becomeLike_10 : decode cX2_becomeLike 10 = .ok (.getfield 15, 3) := by decide +kernel
theorem dX2_becomeLike_13 : decode cX2_becomeLike 13 = .ok (.putfield 15, 3) := by decide +kernel
theorem dX2_becomeLike_16 : decode cX2_becomeLike 16 = .ok (.aload_n 0, 1) := by decide +kernel
theorem dX2_becomeLike_17 : decode cX2_becomeLike 17 = .ok (.aload_n 1, 1) := by decide +kernel
theorem dX2_becomeLike_18 : decode cX2_becomeLike 18 = .ok (.getfield 18, 3) := by decide +kernel
theorem dX2_becomeLike_21 : decode cX2_becomeLike 21 = .ok (.putfield 18, 3) := by decide +kernel
theorem dX2_becomeLike_24 : decode cX2_becomeLike 24 = .ok (.aload_n 0, 1) := by decide +kernel
theorem dX2_becomeLike_25 : decode cX2_becomeLike 25 = .ok (.aload_n 1, 1) := by decide +kernel
theorem dX2_becomeLike_26 : decode cX2_becomeLike 26 = .ok (.getfield 21, 3) := by decide +kernel
theorem dX2_becomeLike_29 : decode cX2_becomeLike 29 = .ok (.putfield 21, 3) := by decide +kernel
theorem dX2_becomeLike_32 : decode cX2_becomeLike 32 = .ok (.aload_n 0, 1) := by decide +kernel
theorem dX2_becomeLike_33 : decode cX2_becomeLike 33 = .ok (.getfield 24, 3) := by decide +kernel
theorem dX2_becomeLike_36 : decode cX2_becomeLike 36 = .ok (.aload_n 1, 1) := by decide +kernel
theorem dX2_becomeLike_37 : decode cX2_becomeLike 37 = .ok (.getfield 24, 3) := by decide +kernel
theorem dX2_becomeLike_40 : decode cX2_becomeLike 40 = .ok (.invokestatic 67, 3) := by decide +kernel
theorem dX2_becomeLike_43 : decode cX2_becomeLike 43 = .ok (.aload_n 0, 1) := by decide +kernel
theorem dX2_becomeLike_44 : decode cX2_becomeLike 44 = .ok (.getfield 28, 3) := by decide +kernel
theorem dX2_becomeLike_47 : decode cX2_becomeLike 47 = .ok (.aload_n 1, 1) := by decide +kernel
theorem dX2_becomeLike_48 : decode cX2_becomeLike 48 = .ok (.getfield 28, 3) := by decide +kernel
theorem dX2_becomeLike_51 : decode cX2_becomeLike 51 = .ok (.invokestatic 67, 3) := by decide +kernel
theorem dX2_becomeLike_54 : decode cX2_becomeLike 54 = .ok (.aload_n 0, 1) := by decide +kernel
theorem dX2_becomeLike_55 : decode cX2_becomeLike 55 = .ok (.getfield 31, 3) := by decide +kernel
theorem dX2_becomeLike_58 : decode cX2_becomeLike 58 = .ok (.aload_n 1, 1) := by decide +kernel
theorem dX2_becomeLike_59 : decode cX2_becomeLike 59 = .ok (.getfield 31, 3) := by decide +kernel
theorem dX2_becomeLike_62 : decode cX2_becomeLike 62 = .ok (.invokestatic 67, 3) := by decide +kernel
theorem dX2_becomeLike_65 : decode cX2_becomeLike 65 = .ok (.aload_n 0, 1) := by decide +kernel
theorem dX2_becomeLike_66 : decode cX2_becomeLike 66 = .ok (.getfield 34, 3) := by decide +kernel
theorem dX2_becomeLike_69 : decode cX2_becomeLike 69 = .ok (.aload_n 1, 1) := by decide +kernel
theorem dX2_becomeLike_70 : decode cX2_becomeLike 70 = .ok (.getfield 34, 3) := by decide +kernel
theorem dX2_becomeLike_73 : decode cX2_becomeLike 73 = .ok (.invokestatic 67, 3) := by decide +kernel
theorem dX2_becomeLike_76 : decode cX2_becomeLike 76 = .ok (.aload_n 0, 1) := by decide +kernel
theorem dX2_becomeLike_77 : decode cX2_becomeLike 77 = .ok (.getfield 37, 3) := by decide +kernel
theorem dX2_becomeLike_80 : decode cX2_becomeLike 80 = .ok (.aload_n 1, 1) := by decide +kernel
theorem dX2_becomeLike_81 : decode cX2_becomeLike 81 = .ok (.getfield 37, 3) := by decide +kernel
theorem dX2_becomeLike_84 : decode cX2_becomeLike 84 = .ok (.invokestatic 67, 3) := by decide +kernel
theorem dX2_becomeLike_87 : decode cX2_becomeLike 87 = .ok (.aload_n 0, 1) := by decide +kernel
theorem dX2_becomeLike_88 : decode cX2_becomeLike 88 = .ok (.getfield 40, 3) := by decide +kernel
theorem dX2_becomeLike_91 : decode cX2_becomeLike 91 = .ok (.aload_n 1, 1) := by decide +kernel
theorem dX2_becomeLike_92 : decode cX2_becomeLike 92 = .ok (.getfield 40, 3) := by decide +kernel
theorem dX2_becomeLike_95 : decode cX2_becomeLike 95 = .ok (.invokestatic 67, 3) := by decide +kernel
theorem dX2_becomeLike_98 : decode cX2_becomeLike 98 = .ok (.aload_n 0, 1) := by decide +kernel
theorem dX2_becomeLike_99 : decode cX2_becomeLike 99 = .ok (.getfield 43, 3) := by decide +kernel
theorem dX2_becomeLike_102 : decode cX2_becomeLike 102 = .ok (.aload_n 1, 1) := by decide +kernel
theorem dX2_becomeLike_103 : decode cX2_becomeLike 103 = .ok (.getfield 43, 3) := by decide +kernel
theorem dX2_becomeLike_106 : decode cX2_becomeLike 106 = .ok (.invokestatic 67, 3) := by decide +kernel
theorem dX2_becomeLike_109 : decode cX2_becomeLike 109 = .ok (.aload_n 0, 1) := by decide +kernel
theorem dX2_becomeLike_110 : decode cX2_becomeLike 110 = .ok (.getfield 46, 3) := by decide +kernel
theorem dX2_becomeLike_113 : decode cX2_becomeLike 113 = .ok (.aload_n 1, 1) := by decide +kernel
theorem dX2_becomeLike_114 : decode cX2_becomeLike 114 = .ok (.getfield 46, 3) := by decide +kernel
theorem dX2_becomeLike_117 : decode cX2_becomeLike 117 = .ok (.invokestatic 67, 3) := by decide +kernel
theorem dX2_becomeLike_120 : decode cX2_becomeLike 120 = .ok (.aload_n 0, 1) := by decide +kernel
theorem dX2_becomeLike_121 : decode cX2_becomeLike 121 = .ok (.getfield 49, 3) := by decide +kernel
theorem dX2_becomeLike_124 : decode cX2_becomeLike 124 = .ok (.aload_n 1, 1) := by decide +kernel
theorem dX2_becomeLike_125 : decode cX2_becomeLike 125 = .ok (.getfield 49, 3) := by decide +kernel
theorem dX2_becomeLike_128 : decode cX2_becomeLike 128 = .ok (.invokestatic 67, 3) := by decide +kernel
theorem dX2_becomeLike_131 : decode cX2_becomeLike 131 = .ok (.aload_n 0, 1) := by decide +kernel
theorem dX2_becomeLike_132 : decode cX2_becomeLike 132 = .ok (.getfield 52, 3) := by decide +kernel
theorem dX2_becomeLike_135 : decode cX2_becomeLike 135 = .ok (.aload_n 1, 1) := by decide +kernel
theorem dX2_becomeLike_136 : decode cX2_becomeLike 136 = .ok (.getfield 52, 3) := by decide +kernel
theorem dX2_becomeLike_139 : decode cX2_becomeLike 139 = .ok (.invokestatic 67, 3) := by decide +kernel
theorem dX2_becomeLike_142 : decode cX2_becomeLike 142 = .ok (.aload_n 0, 1) := by decide +kernel
theorem dX2_becomeLike_143 : decode cX2_becomeLike 143 = .ok (.getfield 55, 3) := by decide +kernel
theorem dX2_becomeLike_146 : decode cX2_becomeLike 146 = .ok (.aload_n 1, 1) := by decide +kernel
theorem dX2_becomeLike_147 : decode cX2_becomeLike 147 = .ok (.getfield 55, 3) := by decide +kernel
theorem dX2_becomeLike_150 : decode cX2_becomeLike 150 = .ok (.invokestatic 67, 3) := by decide +kernel
theorem dX2_becomeLike_153 : decode cX2_becomeLike 153 = .ok (.aload_n 0, 1) := by decide +kernel
theorem dX2_becomeLike_154 : decode cX2_becomeLike 154 = .ok (.getfield 58, 3) := by decide +kernel
theorem dX2_becomeLike_157 : decode cX2_becomeLike 157 = .ok (.aload_n 1, 1) := by decide +kernel
theorem dX2_becomeLike_158 : decode cX2_becomeLike 158 = .ok (.getfield 58, 3) := by decide +kernel
theorem dX2_becomeLike_161 : decode cX2_becomeLike 161 = .ok (.invokestatic 67, 3) := by decide +kernel
theorem dX2_becomeLike_164 : decode cX2_becomeLike 164 = .ok (.aload_n 0, 1) := by decide +kernel
theorem dX2_becomeLike_165 : decode cX2_becomeLike 165 = .ok (.getfield 61, 3) := by decide +kernel
theorem dX2_becomeLike_168 : decode cX2_becomeLike 168 = .ok (.aload_n 1, 1) := by decide +kernel
theorem dX2_becomeLike_169 : decode cX2_becomeLike 169 = .ok (.getfield 61, 3) := by decide +kernel
theorem dX2_becomeLike_172 : decode cX2_becomeLike 172 = .ok (.invokestatic 67, 3) := by decide +kernel
theorem dX2_becomeLike_175 : decode cX2_becomeLike 175 = .ok (.aload_n 0, 1) := by decide +kernel
theorem dX2_becomeLike_176 : decode cX2_becomeLike 176 = .ok (.getfield 64, 3) := by decide +kernel
theorem dX2_becomeLike_179 : decode cX2_becomeLike 179 = .ok (.aload_n 1, 1) := by decide +kernel
theorem dX2_becomeLike_180 : decode cX2_becomeLike 180 = .ok (.getfield 64, 3) := by decide +kernel
theorem dX2_becomeLike_183 : decode cX2_becomeLike 183 = .ok (.invokestatic 67, 3) := by decide +kernel
theorem dX2_becomeLike_186 : decode cX2_becomeLike 186 = .ok (.return_, 1) := by decide +kernel
theorem dX2_fill_0 : decode cX2_fill 0 = .ok (.aload_n 1, 1) := by decide +kernel
theorem dX2_fill_1 : decode cX2_fill 1 = .ok (.iconst 0, 1) := by decide +kernel
theorem dX2_fill_2 : decode cX2_fill 2 = .ok (.aload_n 0, 1) := by decide +kernel
theorem dX2_fill_3 : decode cX2_fill 3 = .ok (.iconst 0, 1) := by decide +kernel
theorem dX2_fill_4 : decode cX2_fill 4 = .ok (.aload_n 0, 1) := by decide +kernel
theorem dX2_fill_5 : decode cX2_fill 5 = .ok (.arraylength, 1) := by decide +kernel
theorem dX2_fill_6 : decode cX2_fill 6 = .ok (.aload_n 1, 1) := by decide +kernel
theorem dX2_fill_7 : decode cX2_fill 7 = .ok (.arraylength, 1) := by decide +kernel
theorem dX2_fill_8 : decode cX2_fill 8 = .ok (.invokestatic 71, 3) := by decide +kernel
theorem dX2_fill_11 : decode cX2_fill 11 = .ok (.invokestatic 77, 3) := by decide +kernel
theorem dX2_fill_14 : decode cX2_fill 14 = .ok (.return_, 1) := by decide +kernel
theorem dX2_putTitle_0 : decode cX2_putTitle 0 = .ok (.iload_n 1, 1) := by decide +kernel
theorem dX2_putTitle_1 : decode cX2_putTitle 1 = .ok (.invokestatic 83, 3) := by decide +kernel
theorem dX2_putTitle_4 : decode cX2_putTitle 4 = .ok (.ifCond .eq 10, 3) := by decide +kernel
theorem dX2_putTitle_7 : decode cX2_putTitle 7 = .ok (.iload_n 2, 1) := by decide +kernel
theorem dX2_putTitle_8 : decode cX2_putTitle 8 = .ok (.invokestatic 87, 3) := by decide +kernel
theorem dX2_putTitle_11 : decode cX2_putTitle 11 = .ok (.ifCond .ne 6, 3) := by decide +kernel
theorem dX2_putTitle_14 : decode cX2_putTitle 14 = .ok (.bipush (-3), 2) := by decide +kernel
theorem dX2_putTitle_16 : decode cX2_putTitle 16 = .ok (.ireturn, 1) := by decide +kernel
theorem dX2_putTitle_17 : decode cX2_putTitle 17 = .ok (.aload_n 0, 1) := by decide +kernel
theorem dX2_putTitle_18 : decode cX2_putTitle 18 = .ok (.getfield 15, 3) := by decide +kernel
theorem dX2_putTitle_21 : decode cX2_putTitle 21 = .ok (.bipush 6, 2) := by decide +kernel
theorem dX2_putTitle_23 : decode cX2_putTitle 23 = .ok (.if_icmp .lt 6, 3) := by decide +kernel
theorem dX2_putTitle_26 : decode cX2_putTitle 26 = .ok (.bipush (-5), 2) := by decide +kernel
theorem dX2_putTitle_28 : decode cX2_putTitle 28 = .ok (.ireturn, 1) := by decide +kernel
theorem dX2_putTitle_29 : decode cX2_putTitle 29 = .ok (.aload_n 0, 1) := by decide +kernel
theorem dX2_putTitle_30 : decode cX2_putTitle 30 = .ok (.getfield 28, 3) := by decide +kernel
theorem dX2_putTitle_33 : decode cX2_putTitle 33 = .ok (.aload_n 0, 1) := by decide +kernel
theorem dX2_putTitle_34 : decode cX2_putTitle 34 = .ok (.getfield 15, 3) := by decide +kernel
theorem dX2_putTitle_37 : decode cX2_putTitle 37 = .ok (.iload_n 1, 1) := by decide +kernel
theorem dX2_putTitle_38 : decode cX2_putTitle 38 = .ok (.iastore, 1) := by decide +kernel
theorem dX2_putTitle_39 : decode cX2_putTitle 39 = .ok (.aload_n 0, 1) := by decide +kernel
theorem dX2_putTitle_40 : decode cX2_putTitle 40 = .ok (.getfield 31, 3) := by decide +kernel
theorem dX2_putTitle_43 : decode cX2_putTitle 43 = .ok (.aload_n 0, 1) := by decide +kernel
theorem dX2_putTitle_44 : decode cX2_putTitle 44 = .ok (.getfield 15, 3) := by decide +kernel
theorem dX2_putTitle_47 : decode cX2_putTitle 47 = .ok (.iload_n 2, 1) := by decide +kernel
theorem dX2_putTitle_48 : decode cX2_putTitle 48 = .ok (.iastore, 1) := by decide +kernel
theorem dX2_putTitle_49 : decode cX2_putTitle 49 = .ok (.aload_n 0, 1) := by decide +kernel
theorem dX2_putTitle_50 : decode cX2_putTitle 50 = .ok (.dup, 1) := by decide +kernel
theorem dX2_putTitle_51 : decode cX2_putTitle 51 = .ok (.getfield 15, 3) := by decide +kernel
theorem dX2_putTitle_54 : decode cX2_putTitle 54 = .ok (.iconst 1, 1) := by decide +kernel
theorem dX2_putTitle_55 : decode cX2_putTitle 55 = .ok (.iadd, 1) := by decide +kernel
theorem dX2_putTitle_56 : decode cX2_putTitle 56 = .ok (.putfield 15, 3) := by decide +kernel
theorem dX2_putTitle_59 : decode cX2_putTitle 59 = .ok (.aload_n 0, 1) := by decide +kernel
theorem dX2_putTitle_60 : decode cX2_putTitle 60 = .ok (.getfield 15, 3) := by decide +kernel
theorem dX2_putTitle_63 : decode cX2_putTitle 63 = .ok (.iconst 1, 1) := by decide +kernel
theorem dX2_putTitle_64 : decode cX2_putTitle 64 = .ok (.isub, 1) := by decide +kernel
theorem dX2_putTitle_65 : decode cX2_putTitle 65 = .ok (.ireturn, 1) := by decide +kernel
theorem dX2_changePrice_0 : decode cX2_changePrice 0 = .ok (.aload_n 0, 1) := by decide +kernel
theorem dX2_changePrice_1 : decode cX2_changePrice 1 = .ok (.iload_n 1, 1) := by decide +kernel
theorem dX2_changePrice_2 : decode cX2_changePrice 2 = .ok (.invokevirtual 90, 3) := by decide +kernel
theorem dX2_changePrice_5 : decode cX2_changePrice 5 = .ok (.ifCond .ne 6, 3) := by decide +kernel
theorem dX2_changePrice_8 : decode cX2_changePrice 8 = .ok (.bipush (-2), 2) := by decide +kernel
theorem dX2_changePrice_10 : decode cX2_changePrice 10 = .ok (.ireturn, 1) := by decide +kernel
theorem dX2_changePrice_11 : decode cX2_changePrice 11 = .ok (.iload_n 2, 1) := by decide +kernel
theorem dX2_changePrice_12 : decode cX2_changePrice 12 = .ok (.invokestatic 83, 3) := by decide +kernel
theorem dX2_changePrice_15 : decode cX2_changePrice 15 = .ok (.ifCond .ne 6, 3) := by decide +kernel
theorem dX2_changePrice_18 : decode cX2_changePrice 18 = .ok (.bipush (-3), 2) := by decide +kernel
theorem dX2_changePrice_20 : decode cX2_changePrice 20 = .ok (.ireturn, 1) := by decide +kernel
theorem dX2_changePrice_21 : decode cX2_changePrice 21 = .ok (.aload_n 0, 1) := by decide +kernel
theorem dX2_changePrice_22 : decode cX2_changePrice 22 = .ok (.getfield 28, 3) := by decide +kernel
theorem dX2_changePrice_25 : decode cX2_changePrice 25 = .ok (.iload_n 1, 1) := by decide +kernel
theorem dX2_changePrice_26 : decode cX2_changePrice 26 = .ok (.iaload, 1) := by decide +kernel
theorem dX2_changePrice_27 : decode cX2_changePrice 27 = .ok (.istore_n 3, 1) := by decide +kernel
theorem dX2_changePrice_28 : decode cX2_changePrice 28 = .ok (.aload_n 0, 1) := by decide +kernel
theorem dX2_changePrice_29 : decode cX2_changePrice 29 = .ok (.getfield 28, 3) := by decide +kernel
theorem dX2_changePrice_32 : decode cX2_changePrice 32 = .ok (.iload_n 1, 1) := by decide +kernel
theorem dX2_changePrice_33 : decode cX2_changePrice 33 = .ok (.iload_n 2, 1) := by decide +kernel
theorem dX2_changePrice_34 : decode cX2_changePrice 34 = .ok (.iastore, 1) := by decide +kernel
theorem dX2_changePrice_35 : decode cX2_changePrice 35 = .ok (.iload_n 3, 1) := by decide +kernel
theorem dX2_changePrice_36 : decode cX2_changePrice 36 = .ok (.ireturn, 1) := by decide +kernel
theorem dX2_advanceEdition_0 : decode cX2_advanceEdition 0 = .ok (.aload_n 0, 1) := by decide +kernel
theorem dX2_advanceEdition_1 : decode cX2_advanceEdition 1 = .ok (.iload_n 1, 1) := by decide +kernel
theorem dX2_advanceEdition_2 : decode cX2_advanceEdition 2 = .ok (.invokevirtual 90, 3) := by decide +kernel
theorem dX2_advanceEdition_5 : decode cX2_advanceEdition 5 = .ok (.ifCond .ne 6, 3) := by decide +kernel
theorem dX2_advanceEdition_8 : decode cX2_advanceEdition 8 = .ok (.bipush (-2), 2) := by decide +kernel
theorem dX2_advanceEdition_10 : decode cX2_advanceEdition 10 = .ok (.ireturn, 1) := by decide +kernel
theorem dX2_advanceEdition_11 : decode cX2_advanceEdition 11 = .ok (.aload_n 0, 1) := by decide +kernel
theorem dX2_advanceEdition_12 : decode cX2_advanceEdition 12 = .ok (.getfield 31, 3) := by decide +kernel
theorem dX2_advanceEdition_15 : decode cX2_advanceEdition 15 = .ok (.iload_n 1, 1) := by decide +kernel
theorem dX2_advanceEdition_16 : decode cX2_advanceEdition 16 = .ok (.iaload, 1) := by decide +kernel
theorem dX2_advanceEdition_17 : decode cX2_advanceEdition 17 = .ok (.bipush 30, 2) := by decide +kernel
theorem dX2_advanceEdition_19 : decode cX2_advanceEdition 19 = .ok (.if_icmp .lt 6, 3) := by decide +kernel
theorem dX2_advanceEdition_22 : decode cX2_advanceEdition 22 = .ok (.bipush (-5), 2) := by decide +kernel
theorem dX2_advanceEdition_24 : decode cX2_advanceEdition 24 = .ok (.ireturn, 1) := by decide +kernel
theorem dX2_advanceEdition_25 : decode cX2_advanceEdition 25 = .ok (.aload_n 0, 1) := by decide +kernel
theorem dX2_advanceEdition_26 : decode cX2_advanceEdition 26 = .ok (.getfield 31, 3) := by decide +kernel
theorem dX2_advanceEdition_29 : decode cX2_advanceEdition 29 = .ok (.iload_n 1, 1) := by decide +kernel
theorem dX2_advanceEdition_30 : decode cX2_advanceEdition 30 = .ok (.dup2, 1) := by decide +kernel
theorem dX2_advanceEdition_31 : decode cX2_advanceEdition 31 = .ok (.iaload, 1) := by decide +kernel
theorem dX2_advanceEdition_32 : decode cX2_advanceEdition 32 = .ok (.iconst 1, 1) := by decide +kernel
theorem dX2_advanceEdition_33 : decode cX2_advanceEdition 33 = .ok (.iadd, 1) := by decide +kernel
theorem dX2_advanceEdition_34 : decode cX2_advanceEdition 34 = .ok (.iastore, 1) := by decide +kernel
theorem dX2_advanceEdition_35 : decode cX2_advanceEdition 35 = .ok (.aload_n 0, 1) := by decide +kernel
theorem dX2_advanceEdition_36 : decode cX2_advanceEdition 36 = .ok (.getfield 31, 3) := by decide +kernel
theorem dX2_advanceEdition_39 : decode cX2_advanceEdition 39 = .ok (.iload_n 1, 1) := by decide +kernel
theorem dX2_advanceEdition_40 : decode cX2_advanceEdition 40 = .ok (.iaload, 1) := by decide +kernel
theorem dX2_advanceEdition_41 : decode cX2_advanceEdition 41 = .ok (.ireturn, 1) := by decide +kernel
theorem dX2_putCourse_0 : decode cX2_putCourse 0 = .ok (.aload_n 0, 1) := by decide +kernel
theorem dX2_putCourse_1 : decode cX2_putCourse 1 = .ok (.iload_n 1, 1) := by decide +kernel
theorem dX2_putCourse_2 : decode cX2_putCourse 2 = .ok (.invokevirtual 90, 3) := by decide +kernel
theorem dX2_putCourse_5 : decode cX2_putCourse 5 = .ok (.ifCond .ne 6, 3) := by decide +kernel
theorem dX2_putCourse_8 : decode cX2_putCourse 8 = .ok (.bipush (-2), 2) := by decide +kernel
theorem dX2_putCourse_10 : decode cX2_putCourse 10 = .ok (.ireturn, 1) := by decide +kernel
theorem dX2_putCourse_11 : decode cX2_putCourse 11 = .ok (.iload_n 2, 1) := by decide +kernel
theorem dX2_putCourse_12 : decode cX2_putCourse 12 = .ok (.invokestatic 87, 3) := by decide +kernel
theorem dX2_putCourse_15 : decode cX2_putCourse 15 = .ok (.ifCond .eq 14, 3) := by decide +kernel
theorem dX2_putCourse_18 : decode cX2_putCourse 18 = .ok (.iload_n 3, 1) := by decide +kernel
theorem dX2_putCourse_19 : decode cX2_putCourse 19 = .ok (.iconst 0, 1) := by decide +kernel
theorem dX2_putCourse_20 : decode cX2_putCourse 20 = .ok (.sipush 200, 3) := by decide +kernel
theorem dX2_putCourse_23 : decode cX2_putCourse 23 = .ok (.invokestatic 93, 3) := by decide +kernel
theorem dX2_putCourse_26 : decode cX2_putCourse 26 = .ok (.ifCond .ne 6, 3) := by decide +kernel
theorem dX2_putCourse_29 : decode cX2_putCourse 29 = .ok (.bipush (-3), 2) := by decide +kernel
theorem dX2_putCourse_31 : decode cX2_putCourse 31 = .ok (.ireturn, 1) := by decide +kernel
theorem dX2_putCourse_32 : decode cX2_putCourse 32 = .ok (.aload_n 0, 1) := by decide +kernel
theorem dX2_putCourse_33 : decode cX2_putCourse 33 = .ok (.getfield 18, 3) := by decide +kernel
theorem dX2_putCourse_36 : decode cX2_putCourse 36 = .ok (.bipush 6, 2) := by decide +kernel
theorem dX2_putCourse_38 : decode cX2_putCourse 38 = .ok (.if_icmp .lt 6, 3) := by decide +kernel
theorem dX2_putCourse_41 : decode cX2_putCourse 41 = .ok (.bipush (-5), 2) := by decide +kernel
theorem dX2_putCourse_43 : decode cX2_putCourse 43 = .ok (.ireturn, 1) := by decide +kernel
theorem dX2_putCourse_44 : decode cX2_putCourse 44 = .ok (.aload_n 0, 1) := by decide +kernel
theorem dX2_putCourse_45 : decode cX2_putCourse 45 = .ok (.getfield 34, 3) := by decide +kernel
theorem dX2_putCourse_48 : decode cX2_putCourse 48 = .ok (.aload_n 0, 1) := by decide +kernel
theorem dX2_putCourse_49 : decode cX2_putCourse 49 = .ok (.getfield 18, 3) := by decide +kernel
theorem dX2_putCourse_52 : decode cX2_putCourse 52 = .ok (.iload_n 1, 1) := by decide +kernel
theorem dX2_putCourse_53 : decode cX2_putCourse 53 = .ok (.iastore, 1) := by decide +kernel
theorem dX2_putCourse_54 : decode cX2_putCourse 54 = .ok (.aload_n 0, 1) := by decide +kernel
theorem dX2_putCourse_55 : decode cX2_putCourse 55 = .ok (.getfield 37, 3) := by decide +kernel
theorem dX2_putCourse_58 : decode cX2_putCourse 58 = .ok (.aload_n 0, 1) := by decide +kernel
theorem dX2_putCourse_59 : decode cX2_putCourse 59 = .ok (.getfield 18, 3) := by decide +kernel
theorem dX2_putCourse_62 : decode cX2_putCourse 62 = .ok (.iload_n 2, 1) := by decide +kernel
theorem dX2_putCourse_63 : decode cX2_putCourse 63 = .ok (.iastore, 1) := by decide +kernel
theorem dX2_putCourse_64 : decode cX2_putCourse 64 = .ok (.aload_n 0, 1) := by decide +kernel
theorem dX2_putCourse_65 : decode cX2_putCourse 65 = .ok (.getfield 40, 3) := by decide +kernel
theorem dX2_putCourse_68 : decode cX2_putCourse 68 = .ok (.aload_n 0, 1) := by decide +kernel
theorem dX2_putCourse_69 : decode cX2_putCourse 69 = .ok (.getfield 18, 3) := by decide +kernel
theorem dX2_putCourse_72 : decode cX2_putCourse 72 = .ok (.iload_n 3, 1) := by decide +kernel
theorem dX2_putCourse_73 : decode cX2_putCourse 73 = .ok (.iastore, 1) := by decide +kernel
theorem dX2_putCourse_74 : decode cX2_putCourse 74 = .ok (.aload_n 0, 1) := by decide +kernel
theorem dX2_putCourse_75 : decode cX2_putCourse 75 = .ok (.dup, 1) := by decide +kernel
theorem dX2_putCourse_76 : decode cX2_putCourse 76 = .ok (.getfield 18, 3) := by decide +kernel
theorem dX2_putCourse_79 : decode cX2_putCourse 79 = .ok (.iconst 1, 1) := by decide +kernel
theorem dX2_putCourse_80 : decode cX2_putCourse 80 = .ok (.iadd, 1) := by decide +kernel
theorem dX2_putCourse_81 : decode cX2_putCourse 81 = .ok (.putfield 18, 3) := by decide +kernel
theorem dX2_putCourse_84 : decode cX2_putCourse 84 = .ok (.aload_n 0, 1) := by decide +kernel
theorem dX2_putCourse_85 : decode cX2_putCourse 85 = .ok (.getfield 18, 3) := by decide +kernel
theorem dX2_putCourse_88 : decode cX2_putCourse 88 = .ok (.iconst 1, 1) := by decide +kernel
theorem dX2_putCourse_89 : decode cX2_putCourse 89 = .ok (.isub, 1) := by decide +kernel
theorem dX2_putCourse_90 : decode cX2_putCourse 90 = .ok (.ireturn, 1) := by decide +kernel
theorem dX2_changeCourse_0 : decode cX2_changeCourse 0 = .ok (.aload_n 0, 1) := by decide +kernel
theorem dX2_changeCourse_1 : decode cX2_changeCourse 1 = .ok (.iload_n 1, 1) := by decide +kernel
theorem dX2_changeCourse_2 : decode cX2_changeCourse 2 = .ok (.invokevirtual 97, 3) := by decide +kernel
theorem dX2_changeCourse_5 : decode cX2_changeCourse 5 = .ok (.ifCond .ne 6, 3) := by decide +kernel
theorem dX2_changeCourse_8 : decode cX2_changeCourse 8 = .ok (.bipush (-2), 2) := by decide +kernel
theorem dX2_changeCourse_10 : decode cX2_changeCourse 10 = .ok (.ireturn, 1) := by decide +kernel
theorem dX2_changeCourse_11 : decode cX2_changeCourse 11 = .ok (.iload_n 2, 1) := by decide +kernel
theorem dX2_changeCourse_12 : decode cX2_changeCourse 12 = .ok (.invokestatic 87, 3) := by decide +kernel
theorem dX2_changeCourse_15 : decode cX2_changeCourse 15 = .ok (.ifCond .eq 14, 3) := by decide +kernel
theorem dX2_changeCourse_18 : decode cX2_changeCourse 18 = .ok (.iload_n 3, 1) := by decide +kernel
theorem dX2_changeCourse_19 : decode cX2_changeCourse 19 = .ok (.iconst 0, 1) := by decide +kernel
theorem dX2_changeCourse_20 : decode cX2_changeCourse 20 = .ok (.sipush 200, 3) := by decide +kernel
theorem dX2_changeCourse_23 : decode cX2_changeCourse 23 = .ok (.invokestatic 93, 3) := by decide +kernel
theorem dX2_changeCourse_26 : decode cX2_changeCourse 26 = .ok (.ifCond .ne 6, 3) := by decide +kernel
theorem dX2_changeCourse_29 : decode cX2_changeCourse 29 = .ok (.bipush (-3), 2) := by decide +kernel
theorem dX2_changeCourse_31 : decode cX2_changeCourse 31 = .ok (.ireturn, 1) := by decide +kernel
theorem dX2_changeCourse_32 : decode cX2_changeCourse 32 = .ok (.aload_n 0, 1) := by decide +kernel
theorem dX2_changeCourse_33 : decode cX2_changeCourse 33 = .ok (.getfield 40, 3) := by decide +kernel
theorem dX2_changeCourse_36 : decode cX2_changeCourse 36 = .ok (.iload_n 1, 1) := by decide +kernel
theorem dX2_changeCourse_37 : decode cX2_changeCourse 37 = .ok (.iaload, 1) := by decide +kernel
theorem dX2_changeCourse_38 : decode cX2_changeCourse 38 = .ok (.istore 4, 2) := by decide +kernel
theorem dX2_changeCourse_40 : decode cX2_changeCourse 40 = .ok (.aload_n 0, 1) := by decide +kernel
theorem dX2_changeCourse_41 : decode cX2_changeCourse 41 = .ok (.getfield 37, 3) := by decide +kernel
theorem dX2_changeCourse_44 : decode cX2_changeCourse 44 = .ok (.iload_n 1, 1) := by decide +kernel
theorem dX2_changeCourse_45 : decode cX2_changeCourse 45 = .ok (.iload_n 2, 1) := by decide +kernel
theorem dX2_changeCourse_46 : decode cX2_changeCourse 46 = .ok (.iastore, 1) := by decide +kernel
theorem dX2_changeCourse_47 : decode cX2_changeCourse 47 = .ok (.aload_n 0, 1) := by decide +kernel
theorem dX2_changeCourse_48 : decode cX2_changeCourse 48 = .ok (.getfield 40, 3) := by decide +kernel
theorem dX2_changeCourse_51 : decode cX2_changeCourse 51 = .ok (.iload_n 1, 1) := by decide +kernel
theorem dX2_changeCourse_52 : decode cX2_changeCourse 52 = .ok (.iload_n 3, 1) := by decide +kernel
theorem dX2_changeCourse_53 : decode cX2_changeCourse 53 = .ok (.iastore, 1) := by decide +kernel
theorem dX2_changeCourse_54 : decode cX2_changeCourse 54 = .ok (.iload 4, 2) := by decide +kernel
theorem dX2_changeCourse_56 : decode cX2_changeCourse 56 = .ok (.ireturn, 1) := by decide +kernel
theorem dX2_changeSetting_0 : decode cX2_changeSetting 0 = .ok (.iload_n 1, 1) := by decide +kernel
theorem dX2_changeSetting_1 : decode cX2_changeSetting 1 = .ok (.iconst 0, 1) := by decide +kernel
theorem dX2_changeSetting_2 : decode cX2_changeSetting 2 = .ok (.iconst 3, 1) := by decide +kernel
theorem dX2_changeSetting_3 : decode cX2_changeSetting 3 = .ok (.invokestatic 93, 3) := by decide +kernel
theorem dX2_changeSetting_6 : decode cX2_changeSetting 6 = .ok (.ifCond .ne 6, 3) := by decide +kernel
theorem dX2_changeSetting_9 : decode cX2_changeSetting 9 = .ok (.bipush (-2), 2) := by decide +kernel
theorem dX2_changeSetting_11 : decode cX2_changeSetting 11 = .ok (.ireturn, 1) := by decide +kernel
theorem dX2_changeSetting_12 : decode cX2_changeSetting 12 = .ok (.iload_n 2, 1) := by decide +kernel
theorem dX2_changeSetting_13 : decode cX2_changeSetting 13 = .ok (.getstatic 100, 3) := by decide +kernel
theorem dX2_changeSetting_16 : decode cX2_changeSetting 16 = .ok (.iload_n 1, 1) := by decide +kernel
theorem dX2_changeSetting_17 : decode cX2_changeSetting 17 = .ok (.iaload, 1) := by decide +kernel
theorem dX2_changeSetting_18 : decode cX2_changeSetting 18 = .ok (.getstatic 103, 3) := by decide +kernel
theorem dX2_changeSetting_21 : decode cX2_changeSetting 21 = .ok (.iload_n 1, 1) := by decide +kernel
theorem dX2_changeSetting_22 : decode cX2_changeSetting 22 = .ok (.iaload, 1) := by decide +kernel
theorem dX2_changeSetting_23 : decode cX2_changeSetting 23 = .ok (.invokestatic 93, 3) := by decide +kernel
theorem dX2_changeSetting_26 : decode cX2_changeSetting 26 = .ok (.ifCond .ne 6, 3) := by decide +kernel
theorem dX2_changeSetting_29 : decode cX2_changeSetting 29 = .ok (.bipush (-3), 2) := by decide +kernel
theorem dX2_changeSetting_31 : decode cX2_changeSetting 31 = .ok (.ireturn, 1) := by decide +kernel
theorem dX2_changeSetting_32 : decode cX2_changeSetting 32 = .ok (.aload_n 0, 1) := by decide +kernel
theorem dX2_changeSetting_33 : decode cX2_changeSetting 33 = .ok (.getfield 24, 3) := by decide +kernel
theorem dX2_changeSetting_36 : decode cX2_changeSetting 36 = .ok (.iload_n 1, 1) := by decide +kernel
theorem dX2_changeSetting_37 : decode cX2_changeSetting 37 = .ok (.iaload, 1) := by decide +kernel
theorem dX2_changeSetting_38 : decode cX2_changeSetting 38 = .ok (.istore_n 3, 1) := by decide +kernel
theorem dX2_changeSetting_39 : decode cX2_changeSetting 39 = .ok (.aload_n 0, 1) := by decide +kernel
theorem dX2_changeSetting_40 : decode cX2_changeSetting 40 = .ok (.getfield 24, 3) := by decide +kernel
theorem dX2_changeSetting_43 : decode cX2_changeSetting 43 = .ok (.iload_n 1, 1) := by decide +kernel
theorem dX2_changeSetting_44 : decode cX2_changeSetting 44 = .ok (.iload_n 2, 1) := by decide +kernel
theorem dX2_changeSetting_45 : decode cX2_changeSetting 45 = .ok (.iastore, 1) := by decide +kernel
theorem dX2_changeSetting_46 : decode cX2_changeSetting 46 = .ok (.iload_n 3, 1) := by decide +kernel
theorem dX2_changeSetting_47 : decode cX2_changeSetting 47 = .ok (.ireturn, 1) := by decide +kernel
theorem dX2_numberOf_0 : decode cX2_numberOf 0 = .ok (.iload_n 1, 1) := by decide +kernel
theorem dX2_numberOf_1 : decode cX2_numberOf 1 = .ok (.tableswitch 167 0 13 #[71, 76, 81, 86, 91, 97, 103, 109, 115, 121, 139, 146, 153, 160], 71) := by decide +kernel
theorem dX2_numberOf_72 : decode cX2_numberOf 72 = .ok (.aload_n 0, 1) := by decide +kernel
theorem dX2_numberOf_73 : decode cX2_numberOf 73 = .ok (.getfield 15, 3) := by decide +kernel
theorem dX2_numberOf_76 : decode cX2_numberOf 76 = .ok (.ireturn, 1) := by decide +kernel
theorem dX2_numberOf_77 : decode cX2_numberOf 77 = .ok (.aload_n 0, 1) := by decide +kernel
theorem dX2_numberOf_78 : decode cX2_numberOf 78 = .ok (.getfield 21, 3) := by decide +kernel
theorem dX2_numberOf_81 : decode cX2_numberOf 81 = .ok (.ireturn, 1) := by decide +kernel
theorem dX2_numberOf_82 : decode cX2_numberOf 82 = .ok (.aload_n 0, 1) := by decide +kernel
theorem dX2_numberOf_83 : decode cX2_numberOf 83 = .ok (.getfield 18, 3) := by decide +kernel
theorem dX2_numberOf_86 : decode cX2_numberOf 86 = .ok (.ireturn, 1) := by decide +kernel
theorem dX2_numberOf_87 : decode cX2_numberOf 87 = .ok (.aload_n 0, 1) := by decide +kernel
theorem dX2_numberOf_88 : decode cX2_numberOf 88 = .ok (.getfield 9, 3) := by decide +kernel
theorem dX2_numberOf_91 : decode cX2_numberOf 91 = .ok (.ireturn, 1) := by decide +kernel
theorem dX2_numberOf_92 : decode cX2_numberOf 92 = .ok (.aload_n 0, 1) := by decide +kernel
theorem dX2_numberOf_93 : decode cX2_numberOf 93 = .ok (.iconst 0, 1) := by decide +kernel
theorem dX2_numberOf_94 : decode cX2_numberOf 94 = .ok (.invokevirtual 106, 3) := by decide +kernel
theorem dX2_numberOf_97 : decode cX2_numberOf 97 = .ok (.ireturn, 1) := by decide +kernel
theorem dX2_numberOf_98 : decode cX2_numberOf 98 = .ok (.aload_n 0, 1) := by decide +kernel
theorem dX2_numberOf_99 : decode cX2_numberOf 99 = .ok (.iconst 1, 1) := by decide +kernel
theorem dX2_numberOf_100 : decode cX2_numberOf 100 = .ok (.invokevirtual 106, 3) := by decide +kernel
theorem dX2_numberOf_103 : decode cX2_numberOf 103 = .ok (.ireturn, 1) := by decide +kernel
theorem dX2_numberOf_104 : decode cX2_numberOf 104 = .ok (.aload_n 0, 1) := by decide +kernel
theorem dX2_numberOf_105 : decode cX2_numberOf 105 = .ok (.iconst 2, 1) := by decide +kernel
theorem dX2_numberOf_106 : decode cX2_numberOf 106 = .ok (.invokevirtual 106, 3) := by decide +kernel
theorem dX2_numberOf_109 : decode cX2_numberOf 109 = .ok (.ireturn, 1) := by decide +kernel
theorem dX2_numberOf_110 : decode cX2_numberOf 110 = .ok (.aload_n 0, 1) := by decide +kernel
theorem dX2_numberOf_111 : decode cX2_numberOf 111 = .ok (.iconst 3, 1) := by decide +kernel
theorem dX2_numberOf_112 : decode cX2_numberOf 112 = .ok (.invokevirtual 106, 3) := by decide +kernel
theorem dX2_numberOf_115 : decode cX2_numberOf 115 = .ok (.ireturn, 1) := by decide +kernel
theorem dX2_numberOf_116 : decode cX2_numberOf 116 = .ok (.aload_n 0, 1) := by decide +kernel
theorem dX2_numberOf_117 : decode cX2_numberOf 117 = .ok (.iconst 4, 1) := by decide +kernel
theorem dX2_numberOf_118 : decode cX2_numberOf 118 = .ok (.invokevirtual 106, 3) := by decide +kernel
theorem dX2_numberOf_121 : decode cX2_numberOf 121 = .ok (.ireturn, 1) := by decide +kernel
theorem dX2_numberOf_122 : decode cX2_numberOf 122 = .ok (.aload_n 0, 1) := by decide +kernel
theorem dX2_numberOf_123 : decode cX2_numberOf 123 = .ok (.iconst 0, 1) := by decide +kernel
theorem dX2_numberOf_124 : decode cX2_numberOf 124 = .ok (.invokevirtual 106, 3) := by decide +kernel
theorem dX2_numberOf_127 : decode cX2_numberOf 127 = .ok (.aload_n 0, 1) := by decide +kernel
theorem dX2_numberOf_128 : decode cX2_numberOf 128 = .ok (.iconst 1, 1) := by decide +kernel
theorem dX2_numberOf_129 : decode cX2_numberOf 129 = .ok (.invokevirtual 106, 3) := by decide +kernel
theorem dX2_numberOf_132 : decode cX2_numberOf 132 = .ok (.iadd, 1) := by decide +kernel
theorem dX2_numberOf_133 : decode cX2_numberOf 133 = .ok (.aload_n 0, 1) := by decide +kernel
theorem dX2_numberOf_134 : decode cX2_numberOf 134 = .ok (.iconst 4, 1) := by decide +kernel
theorem dX2_numberOf_135 : decode cX2_numberOf 135 = .ok (.invokevirtual 106, 3) := by decide +kernel
theorem dX2_numberOf_138 : decode cX2_numberOf 138 = .ok (.iadd, 1) := by decide +kernel
theorem dX2_numberOf_139 : decode cX2_numberOf 139 = .ok (.ireturn, 1) := by decide +kernel
theorem dX2_numberOf_140 : decode cX2_numberOf 140 = .ok (.aload_n 0, 1) := by decide +kernel
theorem dX2_numberOf_141 : decode cX2_numberOf 141 = .ok (.getfield 24, 3) := by decide +kernel
theorem dX2_numberOf_144 : decode cX2_numberOf 144 = .ok (.iconst 0, 1) := by decide +kernel
theorem dX2_numberOf_145 : decode cX2_numberOf 145 = .ok (.iaload, 1) := by decide +kernel
theorem dX2_numberOf_146 : decode cX2_numberOf 146 = .ok (.ireturn, 1) := by decide +kernel
theorem dX2_numberOf_147 : decode cX2_numberOf 147 = .ok (.aload_n 0, 1) := by decide +kernel
theorem dX2_numberOf_148 : decode cX2_numberOf 148 = .ok (.getfield 24, 3) := by decide +kernel
theorem dX2_numberOf_151 : decode cX2_numberOf 151 = .ok (.iconst 1, 1) := by decide +kernel
theorem dX2_numberOf_152 : decode cX2_numberOf 152 = .ok (.iaload, 1) := by decide +kernel
theorem dX2_numberOf_153 : decode cX2_numberOf 153 = .ok (.ireturn, 1) := by decide +kernel
theorem dX2_numberOf_154 : decode cX2_numberOf 154 = .ok (.aload_n 0, 1) := by decide +kernel
theorem dX2_numberOf_155 : decode cX2_numberOf 155 = .ok (.getfield 24, 3) := by decide +kernel
theorem dX2_numberOf_158 : decode cX2_numberOf 158 = .ok (.iconst 2, 1) := by decide +kernel
theorem dX2_numberOf_159 : decode cX2_numberOf 159 = .ok (.iaload, 1) := by decide +kernel
theorem dX2_numberOf_160 : decode cX2_numberOf 160 = .ok (.ireturn, 1) := by decide +kernel
theorem dX2_numberOf_161 : decode cX2_numberOf 161 = .ok (.aload_n 0, 1) := by decide +kernel
theorem dX2_numberOf_162 : decode cX2_numberOf 162 = .ok (.getfield 24, 3) := by decide +kernel
theorem dX2_numberOf_165 : decode cX2_numberOf 165 = .ok (.iconst 3, 1) := by decide +kernel
theorem dX2_numberOf_166 : decode cX2_numberOf 166 = .ok (.iaload, 1) := by decide +kernel
theorem dX2_numberOf_167 : decode cX2_numberOf 167 = .ok (.ireturn, 1) := by decide +kernel
theorem dX2_numberOf_168 : decode cX2_numberOf 168 = .ok (.bipush (-3), 2) := by decide +kernel
theorem dX2_numberOf_170 : decode cX2_numberOf 170 = .ok (.ireturn, 1) := by decide +kernel
theorem dX2_titleProperty_0 : decode cX2_titleProperty 0 = .ok (.aload_n 0, 1) := by decide +kernel
theorem dX2_titleProperty_1 : decode cX2_titleProperty 1 = .ok (.iload_n 1, 1) := by decide +kernel
theorem dX2_titleProperty_2 : decode cX2_titleProperty 2 = .ok (.invokevirtual 90, 3) := by decide +kernel
theorem dX2_titleProperty_5 : decode cX2_titleProperty 5 = .ok (.ifCond .ne 6, 3) := by decide +kernel
theorem dX2_titleProperty_8 : decode cX2_titleProperty 8 = .ok (.bipush (-2), 2) := by decide +kernel
theorem dX2_titleProperty_10 : decode cX2_titleProperty 10 = .ok (.ireturn, 1) := by decide +kernel
theorem dX2_titleProperty_11 : decode cX2_titleProperty 11 = .ok (.iload_n 2, 1) := by decide +kernel
theorem dX2_titleProperty_12 : decode cX2_titleProperty 12 = .ok (.tableswitch 99 0 6 #[44, 51, 58, 64, 70, 86, 92], 44) := by decide +kernel
theorem dX2_titleProperty_56 : decode cX2_titleProperty 56 = .ok (.aload_n 0, 1) := by decide +kernel
theorem dX2_titleProperty_57 : decode cX2_titleProperty 57 = .ok (.getfield 28, 3) := by decide +kernel
theorem dX2_titleProperty_60 : decode cX2_titleProperty 60 = .ok (.iload_n 1, 1) := by decide +kernel
theorem dX2_titleProperty_61 : decode cX2_titleProperty 61 = .ok (.iaload, 1) := by decide +kernel
theorem dX2_titleProperty_62 : decode cX2_titleProperty 62 = .ok (.ireturn, 1) := by decide +kernel
theorem dX2_titleProperty_63 : decode cX2_titleProperty 63 = .ok (.aload_n 0, 1) := by decide +kernel
theorem dX2_titleProperty_64 : decode cX2_titleProperty 64 = .ok (.getfield 31, 3) := by decide +kernel
theorem dX2_titleProperty_67 : decode cX2_titleProperty 67 = .ok (.iload_n 1, 1) := by decide +kernel
theorem dX2_titleProperty_68 : decode cX2_titleProperty 68 = .ok (.iaload, 1) := by decide +kernel
theorem dX2_titleProperty_69 : decode cX2_titleProperty 69 = .ok (.ireturn, 1) := by decide +kernel
theorem dX2_titleProperty_70 : decode cX2_titleProperty 70 = .ok (.aload_n 0, 1) := by decide +kernel
theorem dX2_titleProperty_71 : decode cX2_titleProperty 71 = .ok (.iload_n 1, 1) := by decide +kernel
theorem dX2_titleProperty_72 : decode cX2_titleProperty 72 = .ok (.invokevirtual 110, 3) := by decide +kernel
theorem dX2_titleProperty_75 : decode cX2_titleProperty 75 = .ok (.ireturn, 1) := by decide +kernel
theorem dX2_titleProperty_76 : decode cX2_titleProperty 76 = .ok (.aload_n 0, 1) := by decide +kernel
theorem dX2_titleProperty_77 : decode cX2_titleProperty 77 = .ok (.iload_n 1, 1) := by decide +kernel
theorem dX2_titleProperty_78 : decode cX2_titleProperty 78 = .ok (.invokevirtual 113, 3) := by decide +kernel
theorem dX2_titleProperty_81 : decode cX2_titleProperty 81 = .ok (.ireturn, 1) := by decide +kernel
theorem dX2_titleProperty_82 : decode cX2_titleProperty 82 = .ok (.iconst 0, 1) := by decide +kernel
theorem dX2_titleProperty_83 : decode cX2_titleProperty 83 = .ok (.aload_n 0, 1) := by decide +kernel
theorem dX2_titleProperty_84 : decode cX2_titleProperty 84 = .ok (.iload_n 1, 1) := by decide +kernel
theorem dX2_titleProperty_85 : decode cX2_titleProperty 85 = .ok (.invokevirtual 110, 3) := by decide +kernel
theorem dX2_titleProperty_88 : decode cX2_titleProperty 88 = .ok (.aload_n 0, 1) := by decide +kernel
theorem dX2_titleProperty_89 : decode cX2_titleProperty 89 = .ok (.iload_n 1, 1) := by decide +kernel
theorem dX2_titleProperty_90 : decode cX2_titleProperty 90 = .ok (.invokevirtual 113, 3) := by decide +kernel
theorem dX2_titleProperty_93 : decode cX2_titleProperty 93 = .ok (.isub, 1) := by decide +kernel
theorem dX2_titleProperty_94 : decode cX2_titleProperty 94 = .ok (.invokestatic 116, 3) := by decide +kernel
theorem dX2_titleProperty_97 : decode cX2_titleProperty 97 = .ok (.ireturn, 1) := by decide +kernel
theorem dX2_titleProperty_98 : decode cX2_titleProperty 98 = .ok (.aload_n 0, 1) := by decide +kernel
theorem dX2_titleProperty_99 : decode cX2_titleProperty 99 = .ok (.iload_n 1, 1) := by decide +kernel
theorem dX2_titleProperty_100 : decode cX2_titleProperty 100 = .ok (.invokevirtual 119, 3) := by decide +kernel
theorem dX2_titleProperty_103 : decode cX2_titleProperty 103 = .ok (.ireturn, 1) := by decide +kernel
theorem dX2_titleProperty_104 : decode cX2_titleProperty 104 = .ok (.aload_n 0, 1) := by decide +kernel
theorem dX2_titleProperty_105 : decode cX2_titleProperty 105 = .ok (.iload_n 1, 1) := by decide +kernel
theorem dX2_titleProperty_106 : decode cX2_titleProperty 106 = .ok (.iconst 0, 1) := by decide +kernel
theorem dX2_titleProperty_107 : decode cX2_titleProperty 107 = .ok (.invokevirtual 122, 3) := by decide +kernel
theorem dX2_titleProperty_110 : decode cX2_titleProperty 110 = .ok (.ireturn, 1) := by decide +kernel
theorem dX2_titleProperty_111 : decode cX2_titleProperty 111 = .ok (.bipush (-3), 2) := by decide +kernel
theorem dX2_titleProperty_113 : decode cX2_titleProperty 113 = .ok (.ireturn, 1) := by decide +kernel
theorem dX2_courseProperty_0 : decode cX2_courseProperty 0 = .ok (.aload_n 0, 1) := by decide +kernel
theorem dX2_courseProperty_1 : decode cX2_courseProperty 1 = .ok (.iload_n 1, 1) := by decide +kernel
theorem dX2_courseProperty_2 : decode cX2_courseProperty 2 = .ok (.invokevirtual 97, 3) := by decide +kernel
theorem dX2_courseProperty_5 : decode cX2_courseProperty 5 = .ok (.ifCond .ne 6, 3) := by decide +kernel
theorem dX2_courseProperty_8 : decode cX2_courseProperty 8 = .ok (.bipush (-2), 2) := by decide +kernel
theorem dX2_courseProperty_10 : decode cX2_courseProperty 10 = .ok (.ireturn, 1) := by decide +kernel
theorem dX2_courseProperty_11 : decode cX2_courseProperty 11 = .ok (.iload_n 2, 1) := by decide +kernel
theorem dX2_courseProperty_12 : decode cX2_courseProperty 12 = .ok (.tableswitch 59 0 3 #[32, 39, 46, 53], 32) := by decide +kernel
theorem dX2_courseProperty_44 : decode cX2_courseProperty 44 = .ok (.aload_n 0, 1) := by decide +kernel
theorem dX2_courseProperty_45 : decode cX2_courseProperty 45 = .ok (.getfield 34, 3) := by decide +kernel
theorem dX2_courseProperty_48 : decode cX2_courseProperty 48 = .ok (.iload_n 1, 1) := by decide +kernel
theorem dX2_courseProperty_49 : decode cX2_courseProperty 49 = .ok (.iaload, 1) := by decide +kernel
theorem dX2_courseProperty_50 : decode cX2_courseProperty 50 = .ok (.ireturn, 1) := by decide +kernel
theorem dX2_courseProperty_51 : decode cX2_courseProperty 51 = .ok (.aload_n 0, 1) := by decide +kernel
theorem dX2_courseProperty_52 : decode cX2_courseProperty 52 = .ok (.getfield 37, 3) := by decide +kernel
theorem dX2_courseProperty_55 : decode cX2_courseProperty 55 = .ok (.iload_n 1, 1) := by decide +kernel
theorem dX2_courseProperty_56 : decode cX2_courseProperty 56 = .ok (.iaload, 1) := by decide +kernel
theorem dX2_courseProperty_57 : decode cX2_courseProperty 57 = .ok (.ireturn, 1) := by decide +kernel
theorem dX2_courseProperty_58 : decode cX2_courseProperty 58 = .ok (.aload_n 0, 1) := by decide +kernel
theorem dX2_courseProperty_59 : decode cX2_courseProperty 59 = .ok (.getfield 40, 3) := by decide +kernel
theorem dX2_courseProperty_62 : decode cX2_courseProperty 62 = .ok (.iload_n 1, 1) := by decide +kernel
theorem dX2_courseProperty_63 : decode cX2_courseProperty 63 = .ok (.iaload, 1) := by decide +kernel
theorem dX2_courseProperty_64 : decode cX2_courseProperty 64 = .ok (.ireturn, 1) := by decide +kernel
theorem dX2_courseProperty_65 : decode cX2_courseProperty 65 = .ok (.aload_n 0, 1) := by decide +kernel
theorem dX2_courseProperty_66 : decode cX2_courseProperty 66 = .ok (.iload_n 1, 1) := by decide +kernel
theorem dX2_courseProperty_67 : decode cX2_courseProperty 67 = .ok (.invokevirtual 125, 3) := by decide +kernel
theorem dX2_courseProperty_70 : decode cX2_courseProperty 70 = .ok (.ireturn, 1) := by decide +kernel
theorem dX2_courseProperty_71 : decode cX2_courseProperty 71 = .ok (.bipush (-3), 2) := by decide +kernel
theorem dX2_courseProperty_73 : decode cX2_courseProperty 73 = .ok (.ireturn, 1) := by decide +kernel
theorem dX2_copyProperty_0 : decode cX2_copyProperty 0 = .ok (.aload_n 0, 1) := by decide +kernel
theorem dX2_copyProperty_1 : decode cX2_copyProperty 1 = .ok (.iload_n 1, 1) := by decide +kernel
theorem dX2_copyProperty_2 : decode cX2_copyProperty 2 = .ok (.invokevirtual 128, 3) := by decide +kernel
theorem dX2_copyProperty_5 : decode cX2_copyProperty 5 = .ok (.ifCond .ne 6, 3) := by decide +kernel
theorem dX2_copyProperty_8 : decode cX2_copyProperty 8 = .ok (.bipush (-2), 2) := by decide +kernel
theorem dX2_copyProperty_10 : decode cX2_copyProperty 10 = .ok (.ireturn, 1) := by decide +kernel
theorem dX2_copyProperty_11 : decode cX2_copyProperty 11 = .ok (.aload_n 0, 1) := by decide +kernel
theorem dX2_copyProperty_12 : decode cX2_copyProperty 12 = .ok (.getfield 52, 3) := by decide +kernel
theorem dX2_copyProperty_15 : decode cX2_copyProperty 15 = .ok (.iload_n 1, 1) := by decide +kernel
theorem dX2_copyProperty_16 : decode cX2_copyProperty 16 = .ok (.iaload, 1) := by decide +kernel
theorem dX2_copyProperty_17 : decode cX2_copyProperty 17 = .ok (.iconst 1, 1) := by decide +kernel
theorem dX2_copyProperty_18 : decode cX2_copyProperty 18 = .ok (.if_icmp .ne 7, 3) := by decide +kernel
theorem dX2_copyProperty_21 : decode cX2_copyProperty 21 = .ok (.iconst 1, 1) := by decide +kernel
theorem dX2_copyProperty_22 : decode cX2_copyProperty 22 = .ok (.goto 4, 3) := by decide +kernel
theorem dX2_copyProperty_25 : decode cX2_copyProperty 25 = .ok (.iconst 0, 1) := by decide +kernel
theorem dX2_copyProperty_26 : decode cX2_copyProperty 26 = .ok (.istore_n 3, 1) := by decide +kernel
theorem dX2_copyProperty_27 : decode cX2_copyProperty 27 = .ok (.iload_n 2, 1) := by decide +kernel
theorem dX2_copyProperty_28 : decode cX2_copyProperty 28 = .ok (.tableswitch 175 0 10 #[60, 67, 74, 81, 88, 103, 118, 124, 130, 136, 161], 60) := by decide +kernel
theorem dX2_copyProperty_88 : decode cX2_copyProperty 88 = .ok (.aload_n 0, 1) := by decide +kernel
theorem dX2_copyProperty_89 : decode cX2_copyProperty 89 = .ok (.getfield 43, 3) := by decide +kernel
theorem dX2_copyProperty_92 : decode cX2_copyProperty 92 = .ok (.iload_n 1, 1) := by decide +kernel
theorem dX2_copyProperty_93 : decode cX2_copyProperty 93 = .ok (.iaload, 1) := by decide +kernel
theorem dX2_copyProperty_94 : decode cX2_copyProperty 94 = .ok (.ireturn, 1) := by decide +kernel
theorem dX2_copyProperty_95 : decode cX2_copyProperty 95 = .ok (.aload_n 0, 1) := by decide +kernel
theorem dX2_copyProperty_96 : decode cX2_copyProperty 96 = .ok (.getfield 46, 3) := by decide +kernel
theorem dX2_copyProperty_99 : decode cX2_copyProperty 99 = .ok (.iload_n 1, 1) := by decide +kernel
theorem dX2_copyProperty_100 : decode cX2_copyProperty 100 = .ok (.iaload, 1) := by decide +kernel
theorem dX2_copyProperty_101 : decode cX2_copyProperty 101 = .ok (.ireturn, 1) := by decide +kernel
theorem dX2_copyProperty_102 : decode cX2_copyProperty 102 = .ok (.aload_n 0, 1) := by decide +kernel
theorem dX2_copyProperty_103 : decode cX2_copyProperty 103 = .ok (.getfield 49, 3) := by decide +kernel
theorem dX2_copyProperty_106 : decode cX2_copyProperty 106 = .ok (.iload_n 1, 1) := by decide +kernel
theorem dX2_copyProperty_107 : decode cX2_copyProperty 107 = .ok (.iaload, 1) := by decide +kernel
theorem dX2_copyProperty_108 : decode cX2_copyProperty 108 = .ok (.ireturn, 1) := by decide +kernel
theorem dX2_copyProperty_109 : decode cX2_copyProperty 109 = .ok (.aload_n 0, 1) := by decide +kernel
theorem dX2_copyProperty_110 : decode cX2_copyProperty 110 = .ok (.getfield 52, 3) := by decide +kernel
theorem dX2_copyProperty_113 : decode cX2_copyProperty 113 = .ok (.iload_n 1, 1) := by decide +kernel
theorem dX2_copyProperty_114 : decode cX2_copyProperty 114 = .ok (.iaload, 1) := by decide +kernel
theorem dX2_copyProperty_115 : decode cX2_copyProperty 115 = .ok (.ireturn, 1) := by decide +kernel
theorem dX2_copyProperty_116 : decode cX2_copyProperty 116 = .ok (.iload_n 3, 1) := by decide +kernel
theorem dX2_copyProperty_117 : decode cX2_copyProperty 117 = .ok (.ifCond .eq 12, 3) := by decide +kernel
theorem dX2_copyProperty_120 : decode cX2_copyProperty 120 = .ok (.aload_n 0, 1) := by decide +kernel
theorem dX2_copyProperty_121 : decode cX2_copyProperty 121 = .ok (.getfield 55, 3) := by decide +kernel
theorem dX2_copyProperty_124 : decode cX2_copyProperty 124 = .ok (.iload_n 1, 1) := by decide +kernel
theorem dX2_copyProperty_125 : decode cX2_copyProperty 125 = .ok (.iaload, 1) := by decide +kernel
theorem dX2_copyProperty_126 : decode cX2_copyProperty 126 = .ok (.goto 4, 3) := by decide +kernel
theorem dX2_copyProperty_129 : decode cX2_copyProperty 129 = .ok (.iconst (-1), 1) := by decide +kernel
theorem dX2_copyProperty_130 : decode cX2_copyProperty 130 = .ok (.ireturn, 1) := by decide +kernel
theorem dX2_copyProperty_131 : decode cX2_copyProperty 131 = .ok (.iload_n 3, 1) := by decide +kernel
theorem dX2_copyProperty_132 : decode cX2_copyProperty 132 = .ok (.ifCond .eq 12, 3) := by decide +kernel
theorem dX2_copyProperty_135 : decode cX2_copyProperty 135 = .ok (.aload_n 0, 1) := by decide +kernel
theorem dX2_copyProperty_136 : decode cX2_copyProperty 136 = .ok (.getfield 58, 3) := by decide +kernel
theorem dX2_copyProperty_139 : decode cX2_copyProperty 139 = .ok (.iload_n 1, 1) := by decide +kernel
theorem dX2_copyProperty_140 : decode cX2_copyProperty 140 = .ok (.iaload, 1) := by decide +kernel
theorem dX2_copyProperty_141 : decode cX2_copyProperty 141 = .ok (.goto 4, 3) := by decide +kernel
theorem dX2_copyProperty_144 : decode cX2_copyProperty 144 = .ok (.iconst (-1), 1) := by decide +kernel
theorem dX2_copyProperty_145 : decode cX2_copyProperty 145 = .ok (.ireturn, 1) := by decide +kernel
theorem dX2_copyProperty_146 : decode cX2_copyProperty 146 = .ok (.aload_n 0, 1) := by decide +kernel
theorem dX2_copyProperty_147 : decode cX2_copyProperty 147 = .ok (.iload_n 1, 1) := by decide +kernel
theorem dX2_copyProperty_148 : decode cX2_copyProperty 148 = .ok (.invokevirtual 131, 3) := by decide +kernel
theorem dX2_copyProperty_151 : decode cX2_copyProperty 151 = .ok (.ireturn, 1) := by decide +kernel
theorem dX2_copyProperty_152 : decode cX2_copyProperty 152 = .ok (.aload_n 0, 1) := by decide +kernel
theorem dX2_copyProperty_153 : decode cX2_copyProperty 153 = .ok (.iload_n 1, 1) := by decide +kernel
theorem dX2_copyProperty_154 : decode cX2_copyProperty 154 = .ok (.invokevirtual 134, 3) := by decide +kernel
theorem dX2_copyProperty_157 : decode cX2_copyProperty 157 = .ok (.ireturn, 1) := by decide +kernel
theorem dX2_copyProperty_158 : decode cX2_copyProperty 158 = .ok (.aload_n 0, 1) := by decide +kernel
theorem dX2_copyProperty_159 : decode cX2_copyProperty 159 = .ok (.iload_n 1, 1) := by decide +kernel
theorem dX2_copyProperty_160 : decode cX2_copyProperty 160 = .ok (.invokevirtual 137, 3) := by decide +kernel
theorem dX2_copyProperty_163 : decode cX2_copyProperty 163 = .ok (.ireturn, 1) := by decide +kernel
theorem dX2_copyProperty_164 : decode cX2_copyProperty 164 = .ok (.aload_n 0, 1) := by decide +kernel
theorem dX2_copyProperty_165 : decode cX2_copyProperty 165 = .ok (.aload_n 0, 1) := by decide +kernel
theorem dX2_copyProperty_166 : decode cX2_copyProperty 166 = .ok (.getfield 43, 3) := by decide +kernel
theorem dX2_copyProperty_169 : decode cX2_copyProperty 169 = .ok (.iload_n 1, 1) := by decide +kernel
theorem dX2_copyProperty_170 : decode cX2_copyProperty 170 = .ok (.iaload, 1) := by decide +kernel
theorem dX2_copyProperty_171 : decode cX2_copyProperty 171 = .ok (.aload_n 0, 1) := by decide +kernel
theorem dX2_copyProperty_172 : decode cX2_copyProperty 172 = .ok (.getfield 46, 3) := by decide +kernel
theorem dX2_copyProperty_175 : decode cX2_copyProperty 175 = .ok (.iload_n 1, 1) := by decide +kernel
theorem dX2_copyProperty_176 : decode cX2_copyProperty 176 = .ok (.iaload, 1) := by decide +kernel
theorem dX2_copyProperty_177 : decode cX2_copyProperty 177 = .ok (.invokevirtual 140, 3) := by decide +kernel
theorem dX2_copyProperty_180 : decode cX2_copyProperty 180 = .ok (.ifCond .eq 7, 3) := by decide +kernel
theorem dX2_copyProperty_183 : decode cX2_copyProperty 183 = .ok (.iconst 1, 1) := by decide +kernel
theorem dX2_copyProperty_184 : decode cX2_copyProperty 184 = .ok (.goto 4, 3) := by decide +kernel
theorem dX2_copyProperty_187 : decode cX2_copyProperty 187 = .ok (.iconst 0, 1) := by decide +kernel
theorem dX2_copyProperty_188 : decode cX2_copyProperty 188 = .ok (.ireturn, 1) := by decide +kernel
theorem dX2_copyProperty_189 : decode cX2_copyProperty 189 = .ok (.iload_n 3, 1) := by decide +kernel
theorem dX2_copyProperty_190 : decode cX2_copyProperty 190 = .ok (.ifCond .eq 11, 3) := by decide +kernel
theorem dX2_copyProperty_193 : decode cX2_copyProperty 193 = .ok (.aload_n 0, 1) := by decide +kernel
theorem dX2_copyProperty_194 : decode cX2_copyProperty 194 = .ok (.iload_n 1, 1) := by decide +kernel
theorem dX2_copyProperty_195 : decode cX2_copyProperty 195 = .ok (.invokevirtual 144, 3) := by decide +kernel
theorem dX2_copyProperty_198 : decode cX2_copyProperty 198 = .ok (.goto 4, 3) := by decide +kernel
theorem dX2_copyProperty_201 : decode cX2_copyProperty 201 = .ok (.iconst 0, 1) := by decide +kernel
theorem dX2_copyProperty_202 : decode cX2_copyProperty 202 = .ok (.ireturn, 1) := by decide +kernel
theorem dX2_copyProperty_203 : decode cX2_copyProperty 203 = .ok (.bipush (-3), 2) := by decide +kernel
theorem dX2_copyProperty_205 : decode cX2_copyProperty 205 = .ok (.ireturn, 1) := by decide +kernel
theorem dX2_sumOf_0 : decode cX2_sumOf 0 = .ok (.iload_n 1, 1) := by decide +kernel
theorem dX2_sumOf_1 : decode cX2_sumOf 1 = .ok (.iconst 0, 1) := by decide +kernel
theorem dX2_sumOf_2 : decode cX2_sumOf 2 = .ok (.bipush 7, 2) := by decide +kernel
theorem dX2_sumOf_4 : decode cX2_sumOf 4 = .ok (.invokestatic 93, 3) := by decide +kernel
theorem dX2_sumOf_7 : decode cX2_sumOf 7 = .ok (.ifCond .ne 6, 3) := by decide +kernel
theorem dX2_sumOf_10 : decode cX2_sumOf 10 = .ok (.bipush (-3), 2) := by decide +kernel
theorem dX2_sumOf_12 : decode cX2_sumOf 12 = .ok (.ireturn, 1) := by decide +kernel
theorem dX2_sumOf_13 : decode cX2_sumOf 13 = .ok (.iload_n 1, 1) := by decide +kernel
theorem dX2_sumOf_14 : decode cX2_sumOf 14 = .ok (.bipush 7, 2) := by decide +kernel
theorem dX2_sumOf_16 : decode cX2_sumOf 16 = .ok (.if_icmp .ge 10, 3) := by decide +kernel
theorem dX2_sumOf_19 : decode cX2_sumOf 19 = .ok (.aload_n 0, 1) := by decide +kernel
theorem dX2_sumOf_20 : decode cX2_sumOf 20 = .ok (.getfield 61, 3) := by decide +kernel
theorem dX2_sumOf_23 : decode cX2_sumOf 23 = .ok (.iload_n 1, 1) := by decide +kernel
theorem dX2_sumOf_24 : decode cX2_sumOf 24 = .ok (.iaload, 1) := by decide +kernel
theorem dX2_sumOf_25 : decode cX2_sumOf 25 = .ok (.ireturn, 1) := by decide +kernel
theorem dX2_sumOf_26 : decode cX2_sumOf 26 = .ok (.aload_n 0, 1) := by decide +kernel
theorem dX2_sumOf_27 : decode cX2_sumOf 27 = .ok (.getfield 61, 3) := by decide +kernel
theorem dX2_sumOf_30 : decode cX2_sumOf 30 = .ok (.iconst 0, 1) := by decide +kernel
theorem dX2_sumOf_31 : decode cX2_sumOf 31 = .ok (.iaload, 1) := by decide +kernel
theorem dX2_sumOf_32 : decode cX2_sumOf 32 = .ok (.aload_n 0, 1) := by decide +kernel
theorem dX2_sumOf_33 : decode cX2_sumOf 33 = .ok (.getfield 61, 3) := by decide +kernel
theorem dX2_sumOf_36 : decode cX2_sumOf 36 = .ok (.iconst 1, 1) := by decide +kernel
theorem dX2_sumOf_37 : decode cX2_sumOf 37 = .ok (.iaload, 1) := by decide +kernel
theorem dX2_sumOf_38 : decode cX2_sumOf 38 = .ok (.iadd, 1) := by decide +kernel
theorem dX2_sumOf_39 : decode cX2_sumOf 39 = .ok (.aload_n 0, 1) := by decide +kernel
theorem dX2_sumOf_40 : decode cX2_sumOf 40 = .ok (.getfield 61, 3) := by decide +kernel
theorem dX2_sumOf_43 : decode cX2_sumOf 43 = .ok (.iconst 2, 1) := by decide +kernel
theorem dX2_sumOf_44 : decode cX2_sumOf 44 = .ok (.iaload, 1) := by decide +kernel
theorem dX2_sumOf_45 : decode cX2_sumOf 45 = .ok (.iadd, 1) := by decide +kernel
theorem dX2_sumOf_46 : decode cX2_sumOf 46 = .ok (.aload_n 0, 1) := by decide +kernel
theorem dX2_sumOf_47 : decode cX2_sumOf 47 = .ok (.getfield 61, 3) := by decide +kernel
theorem dX2_sumOf_50 : decode cX2_sumOf 50 = .ok (.iconst 3, 1) := by decide +kernel
theorem dX2_sumOf_51 : decode cX2_sumOf 51 = .ok (.iaload, 1) := by decide +kernel
theorem dX2_sumOf_52 : decode cX2_sumOf 52 = .ok (.iadd, 1) := by decide +kernel
theorem dX2_sumOf_53 : decode cX2_sumOf 53 = .ok (.aload_n 0, 1) := by decide +kernel
theorem dX2_sumOf_54 : decode cX2_sumOf 54 = .ok (.getfield 61, 3) := by decide +kernel
theorem dX2_sumOf_57 : decode cX2_sumOf 57 = .ok (.iconst 4, 1) := by decide +kernel
theorem dX2_sumOf_58 : decode cX2_sumOf 58 = .ok (.iaload, 1) := by decide +kernel
theorem dX2_sumOf_59 : decode cX2_sumOf 59 = .ok (.iadd, 1) := by decide +kernel
theorem dX2_sumOf_60 : decode cX2_sumOf 60 = .ok (.istore_n 2, 1) := by decide +kernel
theorem dX2_sumOf_61 : decode cX2_sumOf 61 = .ok (.ldc 147, 2) := by decide +kernel
theorem dX2_sumOf_63 : decode cX2_sumOf 63 = .ok (.iload_n 2, 1) := by decide +kernel
theorem dX2_sumOf_64 : decode cX2_sumOf 64 = .ok (.iadd, 1) := by decide +kernel
theorem dX2_sumOf_65 : decode cX2_sumOf 65 = .ok (.aload_n 0, 1) := by decide +kernel
theorem dX2_sumOf_66 : decode cX2_sumOf 66 = .ok (.getfield 61, 3) := by decide +kernel
theorem dX2_sumOf_69 : decode cX2_sumOf 69 = .ok (.iconst 5, 1) := by decide +kernel
theorem dX2_sumOf_70 : decode cX2_sumOf 70 = .ok (.iaload, 1) := by decide +kernel
theorem dX2_sumOf_71 : decode cX2_sumOf 71 = .ok (.isub, 1) := by decide +kernel
theorem dX2_sumOf_72 : decode cX2_sumOf 72 = .ok (.aload_n 0, 1) := by decide +kernel
theorem dX2_sumOf_73 : decode cX2_sumOf 73 = .ok (.getfield 61, 3) := by decide +kernel
theorem dX2_sumOf_76 : decode cX2_sumOf 76 = .ok (.bipush 6, 2) := by decide +kernel
theorem dX2_sumOf_78 : decode cX2_sumOf 78 = .ok (.iaload, 1) := by decide +kernel
theorem dX2_sumOf_79 : decode cX2_sumOf 79 = .ok (.isub, 1) := by decide +kernel
theorem dX2_sumOf_80 : decode cX2_sumOf 80 = .ok (.ireturn, 1) := by decide +kernel
theorem dX2_customerNumber_0 : decode cX2_customerNumber 0 = .ok (.iload_n 1, 1) := by decide +kernel
theorem dX2_customerNumber_1 : decode cX2_customerNumber 1 = .ok (.invokestatic 148, 3) := by decide +kernel
theorem dX2_customerNumber_4 : decode cX2_customerNumber 4 = .ok (.ifCond .ne 6, 3) := by decide +kernel
theorem dX2_customerNumber_7 : decode cX2_customerNumber 7 = .ok (.bipush (-2), 2) := by decide +kernel
theorem dX2_customerNumber_9 : decode cX2_customerNumber 9 = .ok (.ireturn, 1) := by decide +kernel
theorem dX2_customerNumber_10 : decode cX2_customerNumber 10 = .ok (.iload_n 2, 1) := by decide +kernel
theorem dX2_customerNumber_11 : decode cX2_customerNumber 11 = .ok (.tableswitch 44 0 2 #[25, 31, 37], 25) := by decide +kernel
theorem dX2_customerNumber_36 : decode cX2_customerNumber 36 = .ok (.aload_n 0, 1) := by decide +kernel
theorem dX2_customerNumber_37 : decode cX2_customerNumber 37 = .ok (.iload_n 1, 1) := by decide +kernel
theorem dX2_customerNumber_38 : decode cX2_customerNumber 38 = .ok (.invokevirtual 151, 3) := by decide +kernel
theorem dX2_customerNumber_41 : decode cX2_customerNumber 41 = .ok (.ireturn, 1) := by decide +kernel
theorem dX2_customerNumber_42 : decode cX2_customerNumber 42 = .ok (.aload_n 0, 1) := by decide +kernel
theorem dX2_customerNumber_43 : decode cX2_customerNumber 43 = .ok (.iload_n 1, 1) := by decide +kernel
theorem dX2_customerNumber_44 : decode cX2_customerNumber 44 = .ok (.invokevirtual 154, 3) := by decide +kernel
theorem dX2_customerNumber_47 : decode cX2_customerNumber 47 = .ok (.ireturn, 1) := by decide +kernel
theorem dX2_customerNumber_48 : decode cX2_customerNumber 48 = .ok (.aload_n 0, 1) := by decide +kernel
theorem dX2_customerNumber_49 : decode cX2_customerNumber 49 = .ok (.getfield 64, 3) := by decide +kernel
theorem dX2_customerNumber_52 : decode cX2_customerNumber 52 = .ok (.iload_n 1, 1) := by decide +kernel
theorem dX2_customerNumber_53 : decode cX2_customerNumber 53 = .ok (.iaload, 1) := by decide +kernel
theorem dX2_customerNumber_54 : decode cX2_customerNumber 54 = .ok (.ireturn, 1) := by decide +kernel
theorem dX2_customerNumber_55 : decode cX2_customerNumber 55 = .ok (.bipush (-3), 2) := by decide +kernel
theorem dX2_customerNumber_57 : decode cX2_customerNumber 57 = .ok (.ireturn, 1) := by decide +kernel
theorem dX2_buyNew_0 : decode cX2_buyNew 0 = .ok (.aload_n 0, 1) := by decide +kernel
theorem dX2_buyNew_1 : decode cX2_buyNew 1 = .ok (.iload_n 1, 1) := by decide +kernel
theorem dX2_buyNew_2 : decode cX2_buyNew 2 = .ok (.invokevirtual 90, 3) := by decide +kernel
theorem dX2_buyNew_5 : decode cX2_buyNew 5 = .ok (.ifCond .ne 6, 3) := by decide +kernel
theorem dX2_buyNew_8 : decode cX2_buyNew 8 = .ok (.bipush (-2), 2) := by decide +kernel
theorem dX2_buyNew_10 : decode cX2_buyNew 10 = .ok (.ireturn, 1) := by decide +kernel
theorem dX2_buyNew_11 : decode cX2_buyNew 11 = .ok (.iload_n 2, 1) := by decide +kernel
theorem dX2_buyNew_12 : decode cX2_buyNew 12 = .ok (.iconst 1, 1) := by decide +kernel
theorem dX2_buyNew_13 : decode cX2_buyNew 13 = .ok (.bipush 20, 2) := by decide +kernel
theorem dX2_buyNew_15 : decode cX2_buyNew 15 = .ok (.invokestatic 93, 3) := by decide +kernel
theorem dX2_buyNew_18 : decode cX2_buyNew 18 = .ok (.ifCond .ne 6, 3) := by decide +kernel
theorem dX2_buyNew_21 : decode cX2_buyNew 21 = .ok (.bipush (-3), 2) := by decide +kernel
theorem dX2_buyNew_23 : decode cX2_buyNew 23 = .ok (.ireturn, 1) := by decide +kernel
theorem dX2_buyNew_24 : decode cX2_buyNew 24 = .ok (.aload_n 0, 1) := by decide +kernel
theorem dX2_buyNew_25 : decode cX2_buyNew 25 = .ok (.getfield 21, 3) := by decide +kernel
theorem dX2_buyNew_28 : decode cX2_buyNew 28 = .ok (.iload_n 2, 1) := by decide +kernel
theorem dX2_buyNew_29 : decode cX2_buyNew 29 = .ok (.iadd, 1) := by decide +kernel
theorem dX2_buyNew_30 : decode cX2_buyNew 30 = .ok (.bipush 60, 2) := by decide +kernel
theorem dX2_buyNew_32 : decode cX2_buyNew 32 = .ok (.if_icmp .le 6, 3) := by decide +kernel
theorem dX2_buyNew_35 : decode cX2_buyNew 35 = .ok (.bipush (-5), 2) := by decide +kernel
theorem dX2_buyNew_37 : decode cX2_buyNew 37 = .ok (.ireturn, 1) := by decide +kernel
theorem dX2_buyNew_38 : decode cX2_buyNew 38 = .ok (.aload_n 0, 1) := by decide +kernel
theorem dX2_buyNew_39 : decode cX2_buyNew 39 = .ok (.getfield 21, 3) := by decide +kernel
theorem dX2_buyNew_42 : decode cX2_buyNew 42 = .ok (.istore_n 3, 1) := by decide +kernel
theorem dX2_buyNew_43 : decode cX2_buyNew 43 = .ok (.iconst 0, 1) := by decide +kernel
theorem dX2_buyNew_44 : decode cX2_buyNew 44 = .ok (.istore 4, 2) := by decide +kernel
theorem dX2_buyNew_46 : decode cX2_buyNew 46 = .ok (.iload 4, 2) := by decide +kernel
theorem dX2_buyNew_48 : decode cX2_buyNew 48 = .ok (.iload_n 2, 1) := by decide +kernel
theorem dX2_buyNew_49 : decode cX2_buyNew 49 = .ok (.if_icmp .ge 21, 3) := by decide +kernel
theorem dX2_buyNew_52 : decode cX2_buyNew 52 = .ok (.aload_n 0, 1) := by decide +kernel
theorem dX2_buyNew_53 : decode cX2_buyNew 53 = .ok (.iload_n 1, 1) := by decide +kernel
theorem dX2_buyNew_54 : decode cX2_buyNew 54 = .ok (.aload_n 0, 1) := by decide +kernel
theorem dX2_buyNew_55 : decode cX2_buyNew 55 = .ok (.getfield 31, 3) := by decide +kernel
theorem dX2_buyNew_58 : decode cX2_buyNew 58 = .ok (.iload_n 1, 1) := by decide +kernel
theorem dX2_buyNew_59 : decode cX2_buyNew 59 = .ok (.iaload, 1) := by decide +kernel
theorem dX2_buyNew_60 : decode cX2_buyNew 60 = .ok (.iconst 0, 1) := by decide +kernel
theorem dX2_buyNew_61 : decode cX2_buyNew 61 = .ok (.invokevirtual 157, 3) := by decide +kernel
theorem dX2_buyNew_64 : decode cX2_buyNew 64 = .ok (.iinc 4 1, 3) := by decide +kernel
theorem dX2_buyNew_67 : decode cX2_buyNew 67 = .ok (.goto (-21), 3) := by decide +kernel
theorem dX2_buyNew_70 : decode cX2_buyNew 70 = .ok (.aload_n 0, 1) := by decide +kernel
theorem dX2_buyNew_71 : decode cX2_buyNew 71 = .ok (.getfield 61, 3) := by decide +kernel
theorem dX2_buyNew_74 : decode cX2_buyNew 74 = .ok (.iconst 5, 1) := by decide +kernel
theorem dX2_buyNew_75 : decode cX2_buyNew 75 = .ok (.dup2, 1) := by decide +kernel
theorem dX2_buyNew_76 : decode cX2_buyNew 76 = .ok (.iaload, 1) := by decide +kernel
theorem dX2_buyNew_77 : decode cX2_buyNew 77 = .ok (.iload_n 2, 1) := by decide +kernel
theorem dX2_buyNew_78 : decode cX2_buyNew 78 = .ok (.aload_n 0, 1) := by decide +kernel
theorem dX2_buyNew_79 : decode cX2_buyNew 79 = .ok (.getfield 28, 3) := by decide +kernel
theorem dX2_buyNew_82 : decode cX2_buyNew 82 = .ok (.iload_n 1, 1) := by decide +kernel
theorem dX2_buyNew_83 : decode cX2_buyNew 83 = .ok (.iaload, 1) := by decide +kernel
theorem dX2_buyNew_84 : decode cX2_buyNew 84 = .ok (.imul, 1) := by decide +kernel
theorem dX2_buyNew_85 : decode cX2_buyNew 85 = .ok (.iadd, 1) := by decide +kernel
theorem dX2_buyNew_86 : decode cX2_buyNew 86 = .ok (.iastore, 1) := by decide +kernel
theorem dX2_buyNew_87 : decode cX2_buyNew 87 = .ok (.iload_n 3, 1) := by decide +kernel
theorem dX2_buyNew_88 : decode cX2_buyNew 88 = .ok (.ireturn, 1) := by decide +kernel
theorem dX2_offerFor_0 : decode cX2_offerFor 0 = .ok (.aload_n 0, 1) := by decide +kernel
theorem dX2_offerFor_1 : decode cX2_offerFor 1 = .ok (.iload_n 1, 1) := by decide +kernel
theorem dX2_offerFor_2 : decode cX2_offerFor 2 = .ok (.invokevirtual 90, 3) := by decide +kernel
theorem dX2_offerFor_5 : decode cX2_offerFor 5 = .ok (.ifCond .ne 6, 3) := by decide +kernel
theorem dX2_offerFor_8 : decode cX2_offerFor 8 = .ok (.bipush (-2), 2) := by decide +kernel
theorem dX2_offerFor_10 : decode cX2_offerFor 10 = .ok (.ireturn, 1) := by decide +kernel
theorem dX2_offerFor_11 : decode cX2_offerFor 11 = .ok (.iload_n 2, 1) := by decide +kernel
theorem dX2_offerFor_12 : decode cX2_offerFor 12 = .ok (.invokestatic 87, 3) := by decide +kernel
theorem dX2_offerFor_15 : decode cX2_offerFor 15 = .ok (.ifCond .eq 10, 3) := by decide +kernel
theorem dX2_offerFor_18 : decode cX2_offerFor 18 = .ok (.iload_n 3, 1) := by decide +kernel
theorem dX2_offerFor_19 : decode cX2_offerFor 19 = .ok (.invokestatic 161, 3) := by decide +kernel
theorem dX2_offerFor_22 : decode cX2_offerFor 22 = .ok (.ifCond .ne 6, 3) := by decide +kernel
theorem dX2_offerFor_25 : decode cX2_offerFor 25 = .ok (.bipush (-3), 2) := by decide +kernel
theorem dX2_offerFor_27 : decode cX2_offerFor 27 = .ok (.ireturn, 1) := by decide +kernel
theorem dX2_offerFor_28 : decode cX2_offerFor 28 = .ok (.aload_n 0, 1) := by decide +kernel
theorem dX2_offerFor_29 : decode cX2_offerFor 29 = .ok (.iload_n 1, 1) := by decide +kernel
theorem dX2_offerFor_30 : decode cX2_offerFor 30 = .ok (.iload_n 2, 1) := by decide +kernel
theorem dX2_offerFor_31 : decode cX2_offerFor 31 = .ok (.invokevirtual 140, 3) := by decide +kernel
theorem dX2_offerFor_34 : decode cX2_offerFor 34 = .ok (.ifCond .ne 5, 3) := by decide +kernel
theorem dX2_offerFor_37 : decode cX2_offerFor 37 = .ok (.iconst 0, 1) := by decide +kernel
theorem dX2_offerFor_38 : decode cX2_offerFor 38 = .ok (.ireturn, 1) := by decide +kernel
theorem dX2_offerFor_39 : decode cX2_offerFor 39 = .ok (.aload_n 0, 1) := by decide +kernel
theorem dX2_offerFor_40 : decode cX2_offerFor 40 = .ok (.iload_n 1, 1) := by decide +kernel
theorem dX2_offerFor_41 : decode cX2_offerFor 41 = .ok (.aload_n 0, 1) := by decide +kernel
theorem dX2_offerFor_42 : decode cX2_offerFor 42 = .ok (.getfield 31, 3) := by decide +kernel
theorem dX2_offerFor_45 : decode cX2_offerFor 45 = .ok (.iload_n 1, 1) := by decide +kernel
theorem dX2_offerFor_46 : decode cX2_offerFor 46 = .ok (.iaload, 1) := by decide +kernel
theorem dX2_offerFor_47 : decode cX2_offerFor 47 = .ok (.iload_n 2, 1) := by decide +kernel
theorem dX2_offerFor_48 : decode cX2_offerFor 48 = .ok (.iload_n 3, 1) := by decide +kernel
theorem dX2_offerFor_49 : decode cX2_offerFor 49 = .ok (.invokevirtual 164, 3) := by decide +kernel
theorem dX2_offerFor_52 : decode cX2_offerFor 52 = .ok (.bipush 40, 2) := by decide +kernel
theorem dX2_offerFor_54 : decode cX2_offerFor 54 = .ok (.imul, 1) := by decide +kernel
theorem dX2_offerFor_55 : decode cX2_offerFor 55 = .ok (.bipush 100, 2) := by decide +kernel
theorem dX2_offerFor_57 : decode cX2_offerFor 57 = .ok (.idiv, 1) := by decide +kernel
theorem dX2_offerFor_58 : decode cX2_offerFor 58 = .ok (.istore 4, 2) := by decide +kernel
theorem dX2_offerFor_60 : decode cX2_offerFor 60 = .ok (.aload_n 0, 1) := by decide +kernel
theorem dX2_offerFor_61 : decode cX2_offerFor 61 = .ok (.iload_n 1, 1) := by decide +kernel
theorem dX2_offerFor_62 : decode cX2_offerFor 62 = .ok (.invokevirtual 113, 3) := by decide +kernel
theorem dX2_offerFor_65 : decode cX2_offerFor 65 = .ok (.aload_n 0, 1) := by decide +kernel
theorem dX2_offerFor_66 : decode cX2_offerFor 66 = .ok (.iload_n 1, 1) := by decide +kernel
theorem dX2_offerFor_67 : decode cX2_offerFor 67 = .ok (.invokevirtual 110, 3) := by decide +kernel
theorem dX2_offerFor_70 : decode cX2_offerFor 70 = .ok (.if_icmp .lt 10, 3) := by decide +kernel
theorem dX2_offerFor_73 : decode cX2_offerFor 73 = .ok (.iload 4, 2) := by decide +kernel
theorem dX2_offerFor_75 : decode cX2_offerFor 75 = .ok (.iconst 2, 1) := by decide +kernel
theorem dX2_offerFor_76 : decode cX2_offerFor 76 = .ok (.idiv, 1) := by decide +kernel
theorem dX2_offerFor_77 : decode cX2_offerFor 77 = .ok (.goto 5, 3) := by decide +kernel
theorem dX2_offerFor_80 : decode cX2_offerFor 80 = .ok (.iload 4, 2) := by decide +kernel
theorem dX2_offerFor_82 : decode cX2_offerFor 82 = .ok (.ireturn, 1) := by decide +kernel
theorem dX2_buyUsed_0 : decode cX2_buyUsed 0 = .ok (.aload_n 0, 1) := by decide +kernel
theorem dX2_buyUsed_1 : decode cX2_buyUsed 1 = .ok (.iload_n 1, 1) := by decide +kernel
theorem dX2_buyUsed_2 : decode cX2_buyUsed 2 = .ok (.iload_n 2, 1) := by decide +kernel
theorem dX2_buyUsed_3 : decode cX2_buyUsed 3 = .ok (.iload_n 3, 1) := by decide +kernel
theorem dX2_buyUsed_4 : decode cX2_buyUsed 4 = .ok (.invokevirtual 168, 3) := by decide +kernel
theorem dX2_buyUsed_7 : decode cX2_buyUsed 7 = .ok (.istore 4, 2) := by decide +kernel
theorem dX2_buyUsed_9 : decode cX2_buyUsed 9 = .ok (.iload 4, 2) := by decide +kernel
theorem dX2_buyUsed_11 : decode cX2_buyUsed 11 = .ok (.ifCond .ge 6, 3) := by decide +kernel
theorem dX2_buyUsed_14 : decode cX2_buyUsed 14 = .ok (.iload 4, 2) := by decide +kernel
theorem dX2_buyUsed_16 : decode cX2_buyUsed 16 = .ok (.ireturn, 1) := by decide +kernel
theorem dX2_buyUsed_17 : decode cX2_buyUsed 17 = .ok (.iload 4, 2) := by decide +kernel
theorem dX2_buyUsed_19 : decode cX2_buyUsed 19 = .ok (.ifCond .ne 6, 3) := by decide +kernel
theorem dX2_buyUsed_22 : decode cX2_buyUsed 22 = .ok (.bipush (-4), 2) := by decide +kernel
theorem dX2_buyUsed_24 : decode cX2_buyUsed 24 = .ok (.ireturn, 1) := by decide +kernel
theorem dX2_buyUsed_25 : decode cX2_buyUsed 25 = .ok (.aload_n 0, 1) := by decide +kernel
theorem dX2_buyUsed_26 : decode cX2_buyUsed 26 = .ok (.getfield 21, 3) := by decide +kernel
theorem dX2_buyUsed_29 : decode cX2_buyUsed 29 = .ok (.bipush 60, 2) := by decide +kernel
theorem dX2_buyUsed_31 : decode cX2_buyUsed 31 = .ok (.if_icmp .lt 6, 3) := by decide +kernel
theorem dX2_buyUsed_34 : decode cX2_buyUsed 34 = .ok (.bipush (-5), 2) := by decide +kernel
theorem dX2_buyUsed_36 : decode cX2_buyUsed 36 = .ok (.ireturn, 1) := by decide +kernel
theorem dX2_buyUsed_37 : decode cX2_buyUsed 37 = .ok (.aload_n 0, 1) := by decide +kernel
theorem dX2_buyUsed_38 : decode cX2_buyUsed 38 = .ok (.iload_n 1, 1) := by decide +kernel
theorem dX2_buyUsed_39 : decode cX2_buyUsed 39 = .ok (.iload_n 2, 1) := by decide +kernel
theorem dX2_buyUsed_40 : decode cX2_buyUsed 40 = .ok (.iload_n 3, 1) := by decide +kernel
theorem dX2_buyUsed_41 : decode cX2_buyUsed 41 = .ok (.invokevirtual 157, 3) := by decide +kernel
theorem dX2_buyUsed_44 : decode cX2_buyUsed 44 = .ok (.aload_n 0, 1) := by decide +kernel
theorem dX2_buyUsed_45 : decode cX2_buyUsed 45 = .ok (.getfield 61, 3) := by decide +kernel
theorem dX2_buyUsed_48 : decode cX2_buyUsed 48 = .ok (.bipush 6, 2) := by decide +kernel
theorem dX2_buyUsed_50 : decode cX2_buyUsed 50 = .ok (.dup2, 1) := by decide +kernel
theorem dX2_buyUsed_51 : decode cX2_buyUsed 51 = .ok (.iaload, 1) := by decide +kernel
theorem dX2_buyUsed_52 : decode cX2_buyUsed 52 = .ok (.iload 4, 2) := by decide +kernel
theorem dX2_buyUsed_54 : decode cX2_buyUsed 54 = .ok (.iadd, 1) := by decide +kernel
theorem dX2_buyUsed_55 : decode cX2_buyUsed 55 = .ok (.iastore, 1) := by decide +kernel
theorem dX2_buyUsed_56 : decode cX2_buyUsed 56 = .ok (.aload_n 0, 1) := by decide +kernel
theorem dX2_buyUsed_57 : decode cX2_buyUsed 57 = .ok (.getfield 21, 3) := by decide +kernel
theorem dX2_buyUsed_60 : decode cX2_buyUsed 60 = .ok (.iconst 1, 1) := by decide +kernel
theorem dX2_buyUsed_61 : decode cX2_buyUsed 61 = .ok (.isub, 1) := by decide +kernel
theorem dX2_buyUsed_62 : decode cX2_buyUsed 62 = .ok (.ireturn, 1) := by decide +kernel
theorem dX2_sellCopy_0 : decode cX2_sellCopy 0 = .ok (.aload_n 0, 1) := by decide +kernel
theorem dX2_sellCopy_1 : decode cX2_sellCopy 1 = .ok (.iload_n 1, 1) := by decide +kernel
theorem dX2_sellCopy_2 : decode cX2_sellCopy 2 = .ok (.invokevirtual 128, 3) := by decide +kernel
theorem dX2_sellCopy_5 : decode cX2_sellCopy 5 = .ok (.ifCond .ne 6, 3) := by decide +kernel
theorem dX2_sellCopy_8 : decode cX2_sellCopy 8 = .ok (.bipush (-2), 2) := by decide +kernel
theorem dX2_sellCopy_10 : decode cX2_sellCopy 10 = .ok (.ireturn, 1) := by decide +kernel
theorem dX2_sellCopy_11 : decode cX2_sellCopy 11 = .ok (.aload_n 0, 1) := by decide +kernel
theorem dX2_sellCopy_12 : decode cX2_sellCopy 12 = .ok (.getfield 52, 3) := by decide +kernel
theorem dX2_sellCopy_15 : decode cX2_sellCopy 15 = .ok (.iload_n 1, 1) := by decide +kernel
theorem dX2_sellCopy_16 : decode cX2_sellCopy 16 = .ok (.iaload, 1) := by decide +kernel
theorem dX2_sellCopy_17 : decode cX2_sellCopy 17 = .ok (.ifCond .eq 6, 3) := by decide +kernel
theorem dX2_sellCopy_20 : decode cX2_sellCopy 20 = .ok (.bipush (-4), 2) := by decide +kernel
theorem dX2_sellCopy_22 : decode cX2_sellCopy 22 = .ok (.ireturn, 1) := by decide +kernel
theorem dX2_sellCopy_23 : decode cX2_sellCopy 23 = .ok (.aload_n 0, 1) := by decide +kernel
theorem dX2_sellCopy_24 : decode cX2_sellCopy 24 = .ok (.iload_n 1, 1) := by decide +kernel
theorem dX2_sellCopy_25 : decode cX2_sellCopy 25 = .ok (.invokevirtual 137, 3) := by decide +kernel
theorem dX2_sellCopy_28 : decode cX2_sellCopy 28 = .ok (.istore_n 2, 1) := by decide +kernel
theorem dX2_sellCopy_29 : decode cX2_sellCopy 29 = .ok (.aload_n 0, 1) := by decide +kernel
theorem dX2_sellCopy_30 : decode cX2_sellCopy 30 = .ok (.getfield 52, 3) := by decide +kernel
theorem dX2_sellCopy_33 : decode cX2_sellCopy 33 = .ok (.iload_n 1, 1) := by decide +kernel
theorem dX2_sellCopy_34 : decode cX2_sellCopy 34 = .ok (.iconst 2, 1) := by decide +kernel
theorem dX2_sellCopy_35 : decode cX2_sellCopy 35 = .ok (.iastore, 1) := by decide +kernel
theorem dX2_sellCopy_36 : decode cX2_sellCopy 36 = .ok (.aload_n 0, 1) := by decide +kernel
theorem dX2_sellCopy_37 : decode cX2_sellCopy 37 = .ok (.getfield 61, 3) := by decide +kernel
theorem dX2_sellCopy_40 : decode cX2_sellCopy 40 = .ok (.iconst 4, 1) := by decide +kernel
theorem dX2_sellCopy_41 : decode cX2_sellCopy 41 = .ok (.dup2, 1) := by decide +kernel
theorem dX2_sellCopy_42 : decode cX2_sellCopy 42 = .ok (.iaload, 1) := by decide +kernel
theorem dX2_sellCopy_43 : decode cX2_sellCopy 43 = .ok (.iload_n 2, 1) := by decide +kernel
theorem dX2_sellCopy_44 : decode cX2_sellCopy 44 = .ok (.iadd, 1) := by decide +kernel
theorem dX2_sellCopy_45 : decode cX2_sellCopy 45 = .ok (.iastore, 1) := by decide +kernel
theorem dX2_sellCopy_46 : decode cX2_sellCopy 46 = .ok (.iload_n 2, 1) := by decide +kernel
theorem dX2_sellCopy_47 : decode cX2_sellCopy 47 = .ok (.ireturn, 1) := by decide +kernel
theorem dX2_putCopy_0 : decode cX2_putCopy 0 = .ok (.aload_n 0, 1) := by decide +kernel
theorem dX2_putCopy_1 : decode cX2_putCopy 1 = .ok (.getfield 43, 3) := by decide +kernel
theorem dX2_putCopy_4 : decode cX2_putCopy 4 = .ok (.aload_n 0, 1) := by decide +kernel
theorem dX2_putCopy_5 : decode cX2_putCopy 5 = .ok (.getfield 21, 3) := by decide +kernel
theorem dX2_putCopy_8 : decode cX2_putCopy 8 = .ok (.iload_n 1, 1) := by decide +kernel
theorem dX2_putCopy_9 : decode cX2_putCopy 9 = .ok (.iastore, 1) := by decide +kernel
theorem dX2_putCopy_10 : decode cX2_putCopy 10 = .ok (.aload_n 0, 1) := by decide +kernel
theorem dX2_putCopy_11 : decode cX2_putCopy 11 = .ok (.getfield 46, 3) := by decide +kernel
theorem dX2_putCopy_14 : decode cX2_putCopy 14 = .ok (.aload_n 0, 1) := by decide +kernel
theorem dX2_putCopy_15 : decode cX2_putCopy 15 = .ok (.getfield 21, 3) := by decide +kernel
theorem dX2_putCopy_18 : decode cX2_putCopy 18 = .ok (.iload_n 2, 1) := by decide +kernel
theorem dX2_putCopy_19 : decode cX2_putCopy 19 = .ok (.iastore, 1) := by decide +kernel
theorem dX2_putCopy_20 : decode cX2_putCopy 20 = .ok (.aload_n 0, 1) := by decide +kernel
theorem dX2_putCopy_21 : decode cX2_putCopy 21 = .ok (.getfield 49, 3) := by decide +kernel
theorem dX2_putCopy_24 : decode cX2_putCopy 24 = .ok (.aload_n 0, 1) := by decide +kernel
theorem dX2_putCopy_25 : decode cX2_putCopy 25 = .ok (.getfield 21, 3) := by decide +kernel
theorem dX2_putCopy_28 : decode cX2_putCopy 28 = .ok (.iload_n 3, 1) := by decide +kernel
theorem dX2_putCopy_29 : decode cX2_putCopy 29 = .ok (.iastore, 1) := by decide +kernel
theorem dX2_putCopy_30 : decode cX2_putCopy 30 = .ok (.aload_n 0, 1) := by decide +kernel
theorem dX2_putCopy_31 : decode cX2_putCopy 31 = .ok (.getfield 52, 3) := by decide +kernel
theorem dX2_putCopy_34 : decode cX2_putCopy 34 = .ok (.aload_n 0, 1) := by decide +kernel
theorem dX2_putCopy_35 : decode cX2_putCopy 35 = .ok (.getfield 21, 3) := by decide +kernel
theorem dX2_putCopy_38 : decode cX2_putCopy 38 = .ok (.iconst 0, 1) := by decide +kernel
theorem dX2_putCopy_39 : decode cX2_putCopy 39 = .ok (.iastore, 1) := by decide +kernel
theorem dX2_putCopy_40 : decode cX2_putCopy 40 = .ok (.aload_n 0, 1) := by decide +kernel
theorem dX2_putCopy_41 : decode cX2_putCopy 41 = .ok (.dup, 1) := by decide +kernel
theorem dX2_putCopy_42 : decode cX2_putCopy 42 = .ok (.getfield 21, 3) := by decide +kernel
theorem dX2_putCopy_45 : decode cX2_putCopy 45 = .ok (.iconst 1, 1) := by decide +kernel
theorem dX2_putCopy_46 : decode cX2_putCopy 46 = .ok (.iadd, 1) := by decide +kernel
theorem dX2_putCopy_47 : decode cX2_putCopy 47 = .ok (.putfield 21, 3) := by decide +kernel
theorem dX2_putCopy_50 : decode cX2_putCopy 50 = .ok (.return_, 1) := by decide +kernel
theorem dX2_rentCopy_0 : decode cX2_rentCopy 0 = .ok (.iload_n 1, 1) := by decide +kernel
theorem dX2_rentCopy_1 : decode cX2_rentCopy 1 = .ok (.invokestatic 148, 3) := by decide +kernel
theorem dX2_rentCopy_4 : decode cX2_rentCopy 4 = .ok (.ifCond .eq 11, 3) := by decide +kernel
theorem dX2_rentCopy_7 : decode cX2_rentCopy 7 = .ok (.aload_n 0, 1) := by decide +kernel
theorem dX2_rentCopy_8 : decode cX2_rentCopy 8 = .ok (.iload_n 2, 1) := by decide +kernel
theorem dX2_rentCopy_9 : decode cX2_rentCopy 9 = .ok (.invokevirtual 97, 3) := by decide +kernel
theorem dX2_rentCopy_12 : decode cX2_rentCopy 12 = .ok (.ifCond .ne 6, 3) := by decide +kernel
theorem dX2_rentCopy_15 : decode cX2_rentCopy 15 = .ok (.bipush (-2), 2) := by decide +kernel
theorem dX2_rentCopy_17 : decode cX2_rentCopy 17 = .ok (.ireturn, 1) := by decide +kernel
theorem dX2_rentCopy_18 : decode cX2_rentCopy 18 = .ok (.aload_n 0, 1) := by decide +kernel
theorem dX2_rentCopy_19 : decode cX2_rentCopy 19 = .ok (.iload_n 2, 1) := by decide +kernel
theorem dX2_rentCopy_20 : decode cX2_rentCopy 20 = .ok (.invokevirtual 172, 3) := by decide +kernel
theorem dX2_rentCopy_23 : decode cX2_rentCopy 23 = .ok (.istore_n 3, 1) := by decide +kernel
theorem dX2_rentCopy_24 : decode cX2_rentCopy 24 = .ok (.iload_n 3, 1) := by decide +kernel
theorem dX2_rentCopy_25 : decode cX2_rentCopy 25 = .ok (.iconst (-1), 1) := by decide +kernel
theorem dX2_rentCopy_26 : decode cX2_rentCopy 26 = .ok (.if_icmp .eq 17, 3) := by decide +kernel
theorem dX2_rentCopy_29 : decode cX2_rentCopy 29 = .ok (.aload_n 0, 1) := by decide +kernel
theorem dX2_rentCopy_30 : decode cX2_rentCopy 30 = .ok (.iload_n 1, 1) := by decide +kernel
theorem dX2_rentCopy_31 : decode cX2_rentCopy 31 = .ok (.aload_n 0, 1) := by decide +kernel
theorem dX2_rentCopy_32 : decode cX2_rentCopy 32 = .ok (.getfield 34, 3) := by decide +kernel
theorem dX2_rentCopy_35 : decode cX2_rentCopy 35 = .ok (.iload_n 2, 1) := by decide +kernel
theorem dX2_rentCopy_36 : decode cX2_rentCopy 36 = .ok (.iaload, 1) := by decide +kernel
theorem dX2_rentCopy_37 : decode cX2_rentCopy 37 = .ok (.invokevirtual 175, 3) := by decide +kernel
theorem dX2_rentCopy_40 : decode cX2_rentCopy 40 = .ok (.ifCond .ne 6, 3) := by decide +kernel
theorem dX2_rentCopy_43 : decode cX2_rentCopy 43 = .ok (.bipush (-4), 2) := by decide +kernel
theorem dX2_rentCopy_45 : decode cX2_rentCopy 45 = .ok (.ireturn, 1) := by decide +kernel
theorem dX2_rentCopy_46 : decode cX2_rentCopy 46 = .ok (.aload_n 0, 1) := by decide +kernel
theorem dX2_rentCopy_47 : decode cX2_rentCopy 47 = .ok (.iload_n 3, 1) := by decide +kernel
theorem dX2_rentCopy_48 : decode cX2_rentCopy 48 = .ok (.invokevirtual 134, 3) := by decide +kernel
theorem dX2_rentCopy_51 : decode cX2_rentCopy 51 = .ok (.istore 4, 2) := by decide +kernel
theorem dX2_rentCopy_53 : decode cX2_rentCopy 53 = .ok (.aload_n 0, 1) := by decide +kernel
theorem dX2_rentCopy_54 : decode cX2_rentCopy 54 = .ok (.getfield 52, 3) := by decide +kernel
theorem dX2_rentCopy_57 : decode cX2_rentCopy 57 = .ok (.iload_n 3, 1) := by decide +kernel
theorem dX2_rentCopy_58 : decode cX2_rentCopy 58 = .ok (.iconst 1, 1) := by decide +kernel
theorem dX2_rentCopy_59 : decode cX2_rentCopy 59 = .ok (.iastore, 1) := by decide +kernel
theorem dX2_rentCopy_60 : decode cX2_rentCopy 60 = .ok (.aload_n 0, 1) := by decide +kernel
theorem dX2_rentCopy_61 : decode cX2_rentCopy 61 = .ok (.getfield 55, 3) := by decide +kernel
theorem dX2_rentCopy_64 : decode cX2_rentCopy 64 = .ok (.iload_n 3, 1) := by decide +kernel
theorem dX2_rentCopy_65 : decode cX2_rentCopy 65 = .ok (.iload_n 1, 1) := by decide +kernel
theorem dX2_rentCopy_66 : decode cX2_rentCopy 66 = .ok (.iastore, 1) := by decide +kernel
theorem dX2_rentCopy_67 : decode cX2_rentCopy 67 = .ok (.aload_n 0, 1) := by decide +kernel
theorem dX2_rentCopy_68 : decode cX2_rentCopy 68 = .ok (.getfield 58, 3) := by decide +kernel
theorem dX2_rentCopy_71 : decode cX2_rentCopy 71 = .ok (.iload_n 3, 1) := by decide +kernel
theorem dX2_rentCopy_72 : decode cX2_rentCopy 72 = .ok (.aload_n 0, 1) := by decide +kernel
theorem dX2_rentCopy_73 : decode cX2_rentCopy 73 = .ok (.getfield 9, 3) := by decide +kernel
theorem dX2_rentCopy_76 : decode cX2_rentCopy 76 = .ok (.aload_n 0, 1) := by decide +kernel
theorem dX2_rentCopy_77 : decode cX2_rentCopy 77 = .ok (.getfield 24, 3) := by decide +kernel
theorem dX2_rentCopy_80 : decode cX2_rentCopy 80 = .ok (.iconst 0, 1) := by decide +kernel
theorem dX2_rentCopy_81 : decode cX2_rentCopy 81 = .ok (.iaload, 1) := by decide +kernel
theorem dX2_rentCopy_82 : decode cX2_rentCopy 82 = .ok (.iadd, 1) := by decide +kernel
theorem dX2_rentCopy_83 : decode cX2_rentCopy 83 = .ok (.iastore, 1) := by decide +kernel
theorem dX2_rentCopy_84 : decode cX2_rentCopy 84 = .ok (.aload_n 0, 1) := by decide +kernel
theorem dX2_rentCopy_85 : decode cX2_rentCopy 85 = .ok (.getfield 61, 3) := by decide +kernel
theorem dX2_rentCopy_88 : decode cX2_rentCopy 88 = .ok (.iconst 0, 1) := by decide +kernel
theorem dX2_rentCopy_89 : decode cX2_rentCopy 89 = .ok (.dup2, 1) := by decide +kernel
theorem dX2_rentCopy_90 : decode cX2_rentCopy 90 = .ok (.iaload, 1) := by decide +kernel
theorem dX2_rentCopy_91 : decode cX2_rentCopy 91 = .ok (.iload 4, 2) := by decide +kernel
theorem dX2_rentCopy_93 : decode cX2_rentCopy 93 = .ok (.iadd, 1) := by decide +kernel
theorem dX2_rentCopy_94 : decode cX2_rentCopy 94 = .ok (.iastore, 1) := by decide +kernel
theorem dX2_rentCopy_95 : decode cX2_rentCopy 95 = .ok (.aload_n 0, 1) := by decide +kernel
theorem dX2_rentCopy_96 : decode cX2_rentCopy 96 = .ok (.getfield 64, 3) := by decide +kernel
theorem dX2_rentCopy_99 : decode cX2_rentCopy 99 = .ok (.iload_n 1, 1) := by decide +kernel
theorem dX2_rentCopy_100 : decode cX2_rentCopy 100 = .ok (.dup2, 1) := by decide +kernel
theorem dX2_rentCopy_101 : decode cX2_rentCopy 101 = .ok (.iaload, 1) := by decide +kernel
theorem dX2_rentCopy_102 : decode cX2_rentCopy 102 = .ok (.iload 4, 2) := by decide +kernel
theorem dX2_rentCopy_104 : decode cX2_rentCopy 104 = .ok (.iadd, 1) := by decide +kernel
theorem dX2_rentCopy_105 : decode cX2_rentCopy 105 = .ok (.iastore, 1) := by decide +kernel
theorem dX2_rentCopy_106 : decode cX2_rentCopy 106 = .ok (.iload_n 3, 1) := by decide +kernel
theorem dX2_rentCopy_107 : decode cX2_rentCopy 107 = .ok (.ireturn, 1) := by decide +kernel
theorem dX2_nextCopy_0 : decode cX2_nextCopy 0 = .ok (.aload_n 0, 1) := by decide +kernel
theorem dX2_nextCopy_1 : decode cX2_nextCopy 1 = .ok (.iload_n 1, 1) := by decide +kernel
theorem dX2_nextCopy_2 : decode cX2_nextCopy 2 = .ok (.invokevirtual 97, 3) := by decide +kernel
theorem dX2_nextCopy_5 : decode cX2_nextCopy 5 = .ok (.ifCond .eq 11, 3) := by decide +kernel
theorem dX2_nextCopy_8 : decode cX2_nextCopy 8 = .ok (.aload_n 0, 1) := by decide +kernel
theorem dX2_nextCopy_9 : decode cX2_nextCopy 9 = .ok (.iload_n 1, 1) := by decide +kernel
theorem dX2_nextCopy_10 : decode cX2_nextCopy 10 = .ok (.invokevirtual 172, 3) := by decide +kernel
theorem dX2_nextCopy_13 : decode cX2_nextCopy 13 = .ok (.goto 5, 3) := by decide +kernel
theorem dX2_nextCopy_16 : decode cX2_nextCopy 16 = .ok (.bipush (-2), 2) := by decide +kernel
theorem dX2_nextCopy_18 : decode cX2_nextCopy 18 = .ok (.ireturn, 1) := by decide +kernel
theorem dX2_chargeFor_0 : decode cX2_chargeFor 0 = .ok (.aload_n 0, 1) := by decide +kernel
theorem dX2_chargeFor_1 : decode cX2_chargeFor 1 = .ok (.iload_n 1, 1) := by decide +kernel
theorem dX2_chargeFor_2 : decode cX2_chargeFor 2 = .ok (.invokevirtual 128, 3) := by decide +kernel
theorem dX2_chargeFor_5 : decode cX2_chargeFor 5 = .ok (.ifCond .ne 6, 3) := by decide +kernel
theorem dX2_chargeFor_8 : decode cX2_chargeFor 8 = .ok (.bipush (-2), 2) := by decide +kernel
theorem dX2_chargeFor_10 : decode cX2_chargeFor 10 = .ok (.ireturn, 1) := by decide +kernel
theorem dX2_chargeFor_11 : decode cX2_chargeFor 11 = .ok (.iload_n 2, 1) := by decide +kernel
theorem dX2_chargeFor_12 : decode cX2_chargeFor 12 = .ok (.invokestatic 161, 3) := by decide +kernel
theorem dX2_chargeFor_15 : decode cX2_chargeFor 15 = .ok (.ifCond .eq 12, 3) := by decide +kernel
theorem dX2_chargeFor_18 : decode cX2_chargeFor 18 = .ok (.iload_n 3, 1) := by decide +kernel
theorem dX2_chargeFor_19 : decode cX2_chargeFor 19 = .ok (.iconst 0, 1) := by decide +kernel
theorem dX2_chargeFor_20 : decode cX2_chargeFor 20 = .ok (.iconst 2, 1) := by decide +kernel
theorem dX2_chargeFor_21 : decode cX2_chargeFor 21 = .ok (.invokestatic 93, 3) := by decide +kernel
theorem dX2_chargeFor_24 : decode cX2_chargeFor 24 = .ok (.ifCond .ne 6, 3) := by decide +kernel
theorem dX2_chargeFor_27 : decode cX2_chargeFor 27 = .ok (.bipush (-3), 2) := by decide +kernel
theorem dX2_chargeFor_29 : decode cX2_chargeFor 29 = .ok (.ireturn, 1) := by decide +kernel
theorem dX2_chargeFor_30 : decode cX2_chargeFor 30 = .ok (.aload_n 0, 1) := by decide +kernel
theorem dX2_chargeFor_31 : decode cX2_chargeFor 31 = .ok (.getfield 52, 3) := by decide +kernel
theorem dX2_chargeFor_34 : decode cX2_chargeFor 34 = .ok (.iload_n 1, 1) := by decide +kernel
theorem dX2_chargeFor_35 : decode cX2_chargeFor 35 = .ok (.iaload, 1) := by decide +kernel
theorem dX2_chargeFor_36 : decode cX2_chargeFor 36 = .ok (.iconst 1, 1) := by decide +kernel
theorem dX2_chargeFor_37 : decode cX2_chargeFor 37 = .ok (.if_icmp .eq 6, 3) := by decide +kernel
theorem dX2_chargeFor_40 : decode cX2_chargeFor 40 = .ok (.bipush (-4), 2) := by decide +kernel
theorem dX2_chargeFor_42 : decode cX2_chargeFor 42 = .ok (.ireturn, 1) := by decide +kernel
theorem dX2_chargeFor_43 : decode cX2_chargeFor 43 = .ok (.iload_n 3, 1) := by decide +kernel
theorem dX2_chargeFor_44 : decode cX2_chargeFor 44 = .ok (.iconst 1, 1) := by decide +kernel
theorem dX2_chargeFor_45 : decode cX2_chargeFor 45 = .ok (.if_icmp .ne 7, 3) := by decide +kernel
theorem dX2_chargeFor_48 : decode cX2_chargeFor 48 = .ok (.iconst 0, 1) := by decide +kernel
theorem dX2_chargeFor_49 : decode cX2_chargeFor 49 = .ok (.goto 8, 3) := by decide +kernel
theorem dX2_chargeFor_52 : decode cX2_chargeFor 52 = .ok (.aload_n 0, 1) := by decide +kernel
theorem dX2_chargeFor_53 : decode cX2_chargeFor 53 = .ok (.iload_n 1, 1) := by decide +kernel
theorem dX2_chargeFor_54 : decode cX2_chargeFor 54 = .ok (.invokevirtual 178, 3) := by decide +kernel
theorem dX2_chargeFor_57 : decode cX2_chargeFor 57 = .ok (.istore 4, 2) := by decide +kernel
theorem dX2_chargeFor_59 : decode cX2_chargeFor 59 = .ok (.iload_n 3, 1) := by decide +kernel
theorem dX2_chargeFor_60 : decode cX2_chargeFor 60 = .ok (.ifCond .ne 7, 3) := by decide +kernel
theorem dX2_chargeFor_63 : decode cX2_chargeFor 63 = .ok (.iconst 0, 1) := by decide +kernel
theorem dX2_chargeFor_64 : decode cX2_chargeFor 64 = .ok (.goto 9, 3) := by decide +kernel
theorem dX2_chargeFor_67 : decode cX2_chargeFor 67 = .ok (.aload_n 0, 1) := by decide +kernel
theorem dX2_chargeFor_68 : decode cX2_chargeFor 68 = .ok (.iload_n 1, 1) := by decide +kernel
theorem dX2_chargeFor_69 : decode cX2_chargeFor 69 = .ok (.iload_n 2, 1) := by decide +kernel
theorem dX2_chargeFor_70 : decode cX2_chargeFor 70 = .ok (.invokevirtual 181, 3) := by decide +kernel
theorem dX2_chargeFor_73 : decode cX2_chargeFor 73 = .ok (.istore 5, 2) := by decide +kernel
theorem dX2_chargeFor_75 : decode cX2_chargeFor 75 = .ok (.iload 4, 2) := by decide +kernel
theorem dX2_chargeFor_77 : decode cX2_chargeFor 77 = .ok (.iload 5, 2) := by decide +kernel
theorem dX2_chargeFor_79 : decode cX2_chargeFor 79 = .ok (.iadd, 1) := by decide +kernel
theorem dX2_chargeFor_80 : decode cX2_chargeFor 80 = .ok (.ireturn, 1) := by decide +kernel
theorem dX2_takeBack_0 : decode cX2_takeBack 0 = .ok (.aload_n 0, 1) := by decide +kernel
theorem dX2_takeBack_1 : decode cX2_takeBack 1 = .ok (.iload_n 1, 1) := by decide +kernel
theorem dX2_takeBack_2 : decode cX2_takeBack 2 = .ok (.invokevirtual 128, 3) := by decide +kernel
theorem dX2_takeBack_5 : decode cX2_takeBack 5 = .ok (.ifCond .ne 6, 3) := by decide +kernel
theorem dX2_takeBack_8 : decode cX2_takeBack 8 = .ok (.bipush (-2), 2) := by decide +kernel
theorem dX2_takeBack_10 : decode cX2_takeBack 10 = .ok (.ireturn, 1) := by decide +kernel
theorem dX2_takeBack_11 : decode cX2_takeBack 11 = .ok (.iload_n 2, 1) := by decide +kernel
theorem dX2_takeBack_12 : decode cX2_takeBack 12 = .ok (.invokestatic 161, 3) := by decide +kernel
theorem dX2_takeBack_15 : decode cX2_takeBack 15 = .ok (.ifCond .ne 6, 3) := by decide +kernel
theorem dX2_takeBack_18 : decode cX2_takeBack 18 = .ok (.bipush (-3), 2) := by decide +kernel
theorem dX2_takeBack_20 : decode cX2_takeBack 20 = .ok (.ireturn, 1) := by decide +kernel
theorem dX2_takeBack_21 : decode cX2_takeBack 21 = .ok (.aload_n 0, 1) := by decide +kernel
theorem dX2_takeBack_22 : decode cX2_takeBack 22 = .ok (.getfield 52, 3) := by decide +kernel
theorem dX2_takeBack_25 : decode cX2_takeBack 25 = .ok (.iload_n 1, 1) := by decide +kernel
theorem dX2_takeBack_26 : decode cX2_takeBack 26 = .ok (.iaload, 1) := by decide +kernel
theorem dX2_takeBack_27 : decode cX2_takeBack 27 = .ok (.iconst 1, 1) := by decide +kernel
theorem dX2_takeBack_28 : decode cX2_takeBack 28 = .ok (.if_icmp .eq 6, 3) := by decide +kernel
theorem dX2_takeBack_31 : decode cX2_takeBack 31 = .ok (.bipush (-4), 2) := by decide +kernel
theorem dX2_takeBack_33 : decode cX2_takeBack 33 = .ok (.ireturn, 1) := by decide +kernel
theorem dX2_takeBack_34 : decode cX2_takeBack 34 = .ok (.aload_n 0, 1) := by decide +kernel
theorem dX2_takeBack_35 : decode cX2_takeBack 35 = .ok (.iload_n 1, 1) := by decide +kernel
theorem dX2_takeBack_36 : decode cX2_takeBack 36 = .ok (.invokevirtual 178, 3) := by decide +kernel
theorem dX2_takeBack_39 : decode cX2_takeBack 39 = .ok (.istore_n 3, 1) := by decide +kernel
theorem dX2_takeBack_40 : decode cX2_takeBack 40 = .ok (.aload_n 0, 1) := by decide +kernel
theorem dX2_takeBack_41 : decode cX2_takeBack 41 = .ok (.iload_n 1, 1) := by decide +kernel
theorem dX2_takeBack_42 : decode cX2_takeBack 42 = .ok (.iload_n 2, 1) := by decide +kernel
theorem dX2_takeBack_43 : decode cX2_takeBack 43 = .ok (.invokevirtual 181, 3) := by decide +kernel
theorem dX2_takeBack_46 : decode cX2_takeBack 46 = .ok (.istore 4, 2) := by decide +kernel
theorem dX2_takeBack_48 : decode cX2_takeBack 48 = .ok (.aload_n 0, 1) := by decide +kernel
theorem dX2_takeBack_49 : decode cX2_takeBack 49 = .ok (.iload_n 1, 1) := by decide +kernel
theorem dX2_takeBack_50 : decode cX2_takeBack 50 = .ok (.iload_n 2, 1) := by decide +kernel
theorem dX2_takeBack_51 : decode cX2_takeBack 51 = .ok (.invokevirtual 184, 3) := by decide +kernel
theorem dX2_takeBack_54 : decode cX2_takeBack 54 = .ok (.ifCond .eq 24, 3) := by decide +kernel
theorem dX2_takeBack_57 : decode cX2_takeBack 57 = .ok (.aload_n 0, 1) := by decide +kernel
theorem dX2_takeBack_58 : decode cX2_takeBack 58 = .ok (.getfield 52, 3) := by decide +kernel
theorem dX2_takeBack_61 : decode cX2_takeBack 61 = .ok (.iload_n 1, 1) := by decide +kernel
theorem dX2_takeBack_62 : decode cX2_takeBack 62 = .ok (.iconst 3, 1) := by decide +kernel
theorem dX2_takeBack_63 : decode cX2_takeBack 63 = .ok (.iastore, 1) := by decide +kernel
theorem dX2_takeBack_64 : decode cX2_takeBack 64 = .ok (.aload_n 0, 1) := by decide +kernel
theorem dX2_takeBack_65 : decode cX2_takeBack 65 = .ok (.getfield 61, 3) := by decide +kernel
theorem dX2_takeBack_68 : decode cX2_takeBack 68 = .ok (.iconst 3, 1) := by decide +kernel
theorem dX2_takeBack_69 : decode cX2_takeBack 69 = .ok (.dup2, 1) := by decide +kernel
theorem dX2_takeBack_70 : decode cX2_takeBack 70 = .ok (.iaload, 1) := by decide +kernel
theorem dX2_takeBack_71 : decode cX2_takeBack 71 = .ok (.iload 4, 2) := by decide +kernel
theorem dX2_takeBack_73 : decode cX2_takeBack 73 = .ok (.iadd, 1) := by decide +kernel
theorem dX2_takeBack_74 : decode cX2_takeBack 74 = .ok (.iastore, 1) := by decide +kernel
theorem dX2_takeBack_75 : decode cX2_takeBack 75 = .ok (.goto 31, 3) := by decide +kernel
theorem dX2_takeBack_78 : decode cX2_takeBack 78 = .ok (.aload_n 0, 1) := by decide +kernel
theorem dX2_takeBack_79 : decode cX2_takeBack 79 = .ok (.getfield 52, 3) := by decide +kernel
theorem dX2_takeBack_82 : decode cX2_takeBack 82 = .ok (.iload_n 1, 1) := by decide +kernel
theorem dX2_takeBack_83 : decode cX2_takeBack 83 = .ok (.iconst 0, 1) := by decide +kernel
theorem dX2_takeBack_84 : decode cX2_takeBack 84 = .ok (.iastore, 1) := by decide +kernel
theorem dX2_takeBack_85 : decode cX2_takeBack 85 = .ok (.aload_n 0, 1) := by decide +kernel
theorem dX2_takeBack_86 : decode cX2_takeBack 86 = .ok (.getfield 49, 3) := by decide +kernel
theorem dX2_takeBack_89 : decode cX2_takeBack 89 = .ok (.iload_n 1, 1) := by decide +kernel
theorem dX2_takeBack_90 : decode cX2_takeBack 90 = .ok (.dup2, 1) := by decide +kernel
theorem dX2_takeBack_91 : decode cX2_takeBack 91 = .ok (.iaload, 1) := by decide +kernel
theorem dX2_takeBack_92 : decode cX2_takeBack 92 = .ok (.iload_n 2, 1) := by decide +kernel
theorem dX2_takeBack_93 : decode cX2_takeBack 93 = .ok (.iadd, 1) := by decide +kernel
theorem dX2_takeBack_94 : decode cX2_takeBack 94 = .ok (.iastore, 1) := by decide +kernel
theorem dX2_takeBack_95 : decode cX2_takeBack 95 = .ok (.aload_n 0, 1) := by decide +kernel
theorem dX2_takeBack_96 : decode cX2_takeBack 96 = .ok (.getfield 61, 3) := by decide +kernel
theorem dX2_takeBack_99 : decode cX2_takeBack 99 = .ok (.iconst 2, 1) := by decide +kernel
theorem dX2_takeBack_100 : decode cX2_takeBack 100 = .ok (.dup2, 1) := by decide +kernel
theorem dX2_takeBack_101 : decode cX2_takeBack 101 = .ok (.iaload, 1) := by decide +kernel
theorem dX2_takeBack_102 : decode cX2_takeBack 102 = .ok (.iload 4, 2) := by decide +kernel
theorem dX2_takeBack_104 : decode cX2_takeBack 104 = .ok (.iadd, 1) := by decide +kernel
theorem dX2_takeBack_105 : decode cX2_takeBack 105 = .ok (.iastore, 1) := by decide +kernel
theorem dX2_takeBack_106 : decode cX2_takeBack 106 = .ok (.aload_n 0, 1) := by decide +kernel
theorem dX2_takeBack_107 : decode cX2_takeBack 107 = .ok (.getfield 61, 3) := by decide +kernel
theorem dX2_takeBack_110 : decode cX2_takeBack 110 = .ok (.iconst 1, 1) := by decide +kernel
theorem dX2_takeBack_111 : decode cX2_takeBack 111 = .ok (.dup2, 1) := by decide +kernel
theorem dX2_takeBack_112 : decode cX2_takeBack 112 = .ok (.iaload, 1) := by decide +kernel
theorem dX2_takeBack_113 : decode cX2_takeBack 113 = .ok (.iload_n 3, 1) := by decide +kernel
theorem dX2_takeBack_114 : decode cX2_takeBack 114 = .ok (.iadd, 1) := by decide +kernel
theorem dX2_takeBack_115 : decode cX2_takeBack 115 = .ok (.iastore, 1) := by decide +kernel
theorem dX2_takeBack_116 : decode cX2_takeBack 116 = .ok (.aload_n 0, 1) := by decide +kernel
theorem dX2_takeBack_117 : decode cX2_takeBack 117 = .ok (.getfield 64, 3) := by decide +kernel
theorem dX2_takeBack_120 : decode cX2_takeBack 120 = .ok (.aload_n 0, 1) := by decide +kernel
theorem dX2_takeBack_121 : decode cX2_takeBack 121 = .ok (.getfield 55, 3) := by decide +kernel
theorem dX2_takeBack_124 : decode cX2_takeBack 124 = .ok (.iload_n 1, 1) := by decide +kernel
theorem dX2_takeBack_125 : decode cX2_takeBack 125 = .ok (.iaload, 1) := by decide +kernel
theorem dX2_takeBack_126 : decode cX2_takeBack 126 = .ok (.dup2, 1) := by decide +kernel
theorem dX2_takeBack_127 : decode cX2_takeBack 127 = .ok (.iaload, 1) := by decide +kernel
theorem dX2_takeBack_128 : decode cX2_takeBack 128 = .ok (.iload_n 3, 1) := by decide +kernel
theorem dX2_takeBack_129 : decode cX2_takeBack 129 = .ok (.iload 4, 2) := by decide +kernel
theorem dX2_takeBack_131 : decode cX2_takeBack 131 = .ok (.iadd, 1) := by decide +kernel
theorem dX2_takeBack_132 : decode cX2_takeBack 132 = .ok (.iadd, 1) := by decide +kernel
theorem dX2_takeBack_133 : decode cX2_takeBack 133 = .ok (.iastore, 1) := by decide +kernel
theorem dX2_takeBack_134 : decode cX2_takeBack 134 = .ok (.iload_n 3, 1) := by decide +kernel
theorem dX2_takeBack_135 : decode cX2_takeBack 135 = .ok (.iload 4, 2) := by decide +kernel
theorem dX2_takeBack_137 : decode cX2_takeBack 137 = .ok (.iadd, 1) := by decide +kernel
theorem dX2_takeBack_138 : decode cX2_takeBack 138 = .ok (.ireturn, 1) := by decide +kernel
theorem dX2_passDays_0 : decode cX2_passDays 0 = .ok (.iload_n 1, 1) := by decide +kernel
theorem dX2_passDays_1 : decode cX2_passDays 1 = .ok (.iconst 1, 1) := by decide +kernel
theorem dX2_passDays_2 : decode cX2_passDays 2 = .ok (.sipush 400, 3) := by decide +kernel
theorem dX2_passDays_5 : decode cX2_passDays 5 = .ok (.invokestatic 93, 3) := by decide +kernel
theorem dX2_passDays_8 : decode cX2_passDays 8 = .ok (.ifCond .ne 6, 3) := by decide +kernel
theorem dX2_passDays_11 : decode cX2_passDays 11 = .ok (.bipush (-3), 2) := by decide +kernel
theorem dX2_passDays_13 : decode cX2_passDays 13 = .ok (.ireturn, 1) := by decide +kernel
theorem dX2_passDays_14 : decode cX2_passDays 14 = .ok (.aload_n 0, 1) := by decide +kernel
theorem dX2_passDays_15 : decode cX2_passDays 15 = .ok (.getfield 9, 3) := by decide +kernel
theorem dX2_passDays_18 : decode cX2_passDays 18 = .ok (.iload_n 1, 1) := by decide +kernel
theorem dX2_passDays_19 : decode cX2_passDays 19 = .ok (.iadd, 1) := by decide +kernel
theorem dX2_passDays_20 : decode cX2_passDays 20 = .ok (.ldc 187, 2) := by decide +kernel
theorem dX2_passDays_22 : decode cX2_passDays 22 = .ok (.if_icmp .le 6, 3) := by decide +kernel
theorem dX2_passDays_25 : decode cX2_passDays 25 = .ok (.bipush (-5), 2) := by decide +kernel
theorem dX2_passDays_27 : decode cX2_passDays 27 = .ok (.ireturn, 1) := by decide +kernel
theorem dX2_passDays_28 : decode cX2_passDays 28 = .ok (.aload_n 0, 1) := by decide +kernel
theorem dX2_passDays_29 : decode cX2_passDays 29 = .ok (.dup, 1) := by decide +kernel
theorem dX2_passDays_30 : decode cX2_passDays 30 = .ok (.getfield 9, 3) := by decide +kernel
theorem dX2_passDays_33 : decode cX2_passDays 33 = .ok (.iload_n 1, 1) := by decide +kernel
theorem dX2_passDays_34 : decode cX2_passDays 34 = .ok (.iadd, 1) := by decide +kernel
theorem dX2_passDays_35 : decode cX2_passDays 35 = .ok (.putfield 9, 3) := by decide +kernel
theorem dX2_passDays_38 : decode cX2_passDays 38 = .ok (.iconst 0, 1) := by decide +kernel
theorem dX2_passDays_39 : decode cX2_passDays 39 = .ok (.istore_n 2, 1) := by decide +kernel
theorem dX2_passDays_40 : decode cX2_passDays 40 = .ok (.iconst 0, 1) := by decide +kernel
theorem dX2_passDays_41 : decode cX2_passDays 41 = .ok (.istore_n 3, 1) := by decide +kernel
theorem dX2_passDays_42 : decode cX2_passDays 42 = .ok (.iload_n 3, 1) := by decide +kernel
theorem dX2_passDays_43 : decode cX2_passDays 43 = .ok (.aload_n 0, 1) := by decide +kernel
theorem dX2_passDays_44 : decode cX2_passDays 44 = .ok (.getfield 21, 3) := by decide +kernel
theorem dX2_passDays_47 : decode cX2_passDays 47 = .ok (.if_icmp .ge 65, 3) := by decide +kernel
theorem dX2_passDays_50 : decode cX2_passDays 50 = .ok (.aload_n 0, 1) := by decide +kernel
theorem dX2_passDays_51 : decode cX2_passDays 51 = .ok (.iload_n 3, 1) := by decide +kernel
theorem dX2_passDays_52 : decode cX2_passDays 52 = .ok (.aload_n 0, 1) := by decide +kernel
theorem dX2_passDays_53 : decode cX2_passDays 53 = .ok (.getfield 9, 3) := by decide +kernel
theorem dX2_passDays_56 : decode cX2_passDays 56 = .ok (.invokevirtual 188, 3) := by decide +kernel
theorem dX2_passDays_59 : decode cX2_passDays 59 = .ok (.ifCond .eq 47, 3) := by decide +kernel
theorem dX2_passDays_62 : decode cX2_passDays 62 = .ok (.aload_n 0, 1) := by decide +kernel
theorem dX2_passDays_63 : decode cX2_passDays 63 = .ok (.iload_n 3, 1) := by decide +kernel
theorem dX2_passDays_64 : decode cX2_passDays 64 = .ok (.invokevirtual 131, 3) := by decide +kernel
theorem dX2_passDays_67 : decode cX2_passDays 67 = .ok (.istore 4, 2) := by decide +kernel
theorem dX2_passDays_69 : decode cX2_passDays 69 = .ok (.aload_n 0, 1) := by decide +kernel
theorem dX2_passDays_70 : decode cX2_passDays 70 = .ok (.getfield 52, 3) := by decide +kernel
theorem dX2_passDays_73 : decode cX2_passDays 73 = .ok (.iload_n 3, 1) := by decide +kernel
theorem dX2_passDays_74 : decode cX2_passDays 74 = .ok (.iconst 3, 1) := by decide +kernel
theorem dX2_passDays_75 : decode cX2_passDays 75 = .ok (.iastore, 1) := by decide +kernel
theorem dX2_passDays_76 : decode cX2_passDays 76 = .ok (.aload_n 0, 1) := by decide +kernel
theorem dX2_passDays_77 : decode cX2_passDays 77 = .ok (.getfield 61, 3) := by decide +kernel
theorem dX2_passDays_80 : decode cX2_passDays 80 = .ok (.iconst 3, 1) := by decide +kernel
theorem dX2_passDays_81 : decode cX2_passDays 81 = .ok (.dup2, 1) := by decide +kernel
theorem dX2_passDays_82 : decode cX2_passDays 82 = .ok (.iaload, 1) := by decide +kernel
theorem dX2_passDays_83 : decode cX2_passDays 83 = .ok (.iload 4, 2) := by decide +kernel
theorem dX2_passDays_85 : decode cX2_passDays 85 = .ok (.iadd, 1) := by decide +kernel
theorem dX2_passDays_86 : decode cX2_passDays 86 = .ok (.iastore, 1) := by decide +kernel
theorem dX2_passDays_87 : decode cX2_passDays 87 = .ok (.aload_n 0, 1) := by decide +kernel
theorem dX2_passDays_88 : decode cX2_passDays 88 = .ok (.getfield 64, 3) := by decide +kernel
theorem dX2_passDays_91 : decode cX2_passDays 91 = .ok (.aload_n 0, 1) := by decide +kernel
theorem dX2_passDays_92 : decode cX2_passDays 92 = .ok (.getfield 55, 3) := by decide +kernel
theorem dX2_passDays_95 : decode cX2_passDays 95 = .ok (.iload_n 3, 1) := by decide +kernel
theorem dX2_passDays_96 : decode cX2_passDays 96 = .ok (.iaload, 1) := by decide +kernel
theorem dX2_passDays_97 : decode cX2_passDays 97 = .ok (.dup2, 1) := by decide +kernel
theorem dX2_passDays_98 : decode cX2_passDays 98 = .ok (.iaload, 1) := by decide +kernel
theorem dX2_passDays_99 : decode cX2_passDays 99 = .ok (.iload 4, 2) := by decide +kernel
theorem dX2_passDays_101 : decode cX2_passDays 101 = .ok (.iadd, 1) := by decide +kernel
theorem dX2_passDays_102 : decode cX2_passDays 102 = .ok (.iastore, 1) := by decide +kernel
theorem dX2_passDays_103 : decode cX2_passDays 103 = .ok (.iinc 2 1, 3) := by decide +kernel
theorem dX2_passDays_106 : decode cX2_passDays 106 = .ok (.iinc 3 1, 3) := by decide +kernel
theorem dX2_passDays_109 : decode cX2_passDays 109 = .ok (.goto (-67), 3) := by decide +kernel
theorem dX2_passDays_112 : decode cX2_passDays 112 = .ok (.iload_n 2, 1) := by decide +kernel
theorem dX2_passDays_113 : decode cX2_passDays 113 = .ok (.ireturn, 1) := by decide +kernel
theorem dX2_bestFor_0 : decode cX2_bestFor 0 = .ok (.iconst (-1), 1) := by decide +kernel
theorem dX2_bestFor_1 : decode cX2_bestFor 1 = .ok (.istore_n 2, 1) := by decide +kernel
theorem dX2_bestFor_2 : decode cX2_bestFor 2 = .ok (.iconst 0, 1) := by decide +kernel
theorem dX2_bestFor_3 : decode cX2_bestFor 3 = .ok (.istore_n 3, 1) := by decide +kernel
theorem dX2_bestFor_4 : decode cX2_bestFor 4 = .ok (.iload_n 3, 1) := by decide +kernel
theorem dX2_bestFor_5 : decode cX2_bestFor 5 = .ok (.aload_n 0, 1) := by decide +kernel
theorem dX2_bestFor_6 : decode cX2_bestFor 6 = .ok (.getfield 21, 3) := by decide +kernel
theorem dX2_bestFor_9 : decode cX2_bestFor 9 = .ok (.if_icmp .ge 43, 3) := by decide +kernel
theorem dX2_bestFor_12 : decode cX2_bestFor 12 = .ok (.aload_n 0, 1) := by decide +kernel
theorem dX2_bestFor_13 : decode cX2_bestFor 13 = .ok (.getfield 52, 3) := by decide +kernel
theorem dX2_bestFor_16 : decode cX2_bestFor 16 = .ok (.iload_n 3, 1) := by decide +kernel
theorem dX2_bestFor_17 : decode cX2_bestFor 17 = .ok (.iaload, 1) := by decide +kernel
theorem dX2_bestFor_18 : decode cX2_bestFor 18 = .ok (.ifCond .ne 28, 3) := by decide +kernel
theorem dX2_bestFor_21 : decode cX2_bestFor 21 = .ok (.aload_n 0, 1) := by decide +kernel
theorem dX2_bestFor_22 : decode cX2_bestFor 22 = .ok (.iload_n 3, 1) := by decide +kernel
theorem dX2_bestFor_23 : decode cX2_bestFor 23 = .ok (.iload_n 1, 1) := by decide +kernel
theorem dX2_bestFor_24 : decode cX2_bestFor 24 = .ok (.invokevirtual 191, 3) := by decide +kernel
theorem dX2_bestFor_27 : decode cX2_bestFor 27 = .ok (.ifCond .eq 19, 3) := by decide +kernel
theorem dX2_bestFor_30 : decode cX2_bestFor 30 = .ok (.iload_n 2, 1) := by decide +kernel
theorem dX2_bestFor_31 : decode cX2_bestFor 31 = .ok (.iconst (-1), 1) := by decide +kernel
theorem dX2_bestFor_32 : decode cX2_bestFor 32 = .ok (.if_icmp .eq 12, 3) := by decide +kernel
theorem dX2_bestFor_35 : decode cX2_bestFor 35 = .ok (.aload_n 0, 1) := by decide +kernel
theorem dX2_bestFor_36 : decode cX2_bestFor 36 = .ok (.iload_n 3, 1) := by decide +kernel
theorem dX2_bestFor_37 : decode cX2_bestFor 37 = .ok (.iload_n 2, 1) := by decide +kernel
theorem dX2_bestFor_38 : decode cX2_bestFor 38 = .ok (.invokevirtual 194, 3) := by decide +kernel
theorem dX2_bestFor_41 : decode cX2_bestFor 41 = .ok (.ifCond .eq 5, 3) := by decide +kernel
theorem dX2_bestFor_44 : decode cX2_bestFor 44 = .ok (.iload_n 3, 1) := by decide +kernel
theorem dX2_bestFor_45 : decode cX2_bestFor 45 = .ok (.istore_n 2, 1) := by decide +kernel
theorem dX2_bestFor_46 : decode cX2_bestFor 46 = .ok (.iinc 3 1, 3) := by decide +kernel
theorem dX2_bestFor_49 : decode cX2_bestFor 49 = .ok (.goto (-45), 3) := by decide +kernel
theorem dX2_bestFor_52 : decode cX2_bestFor 52 = .ok (.iload_n 2, 1) := by decide +kernel
theorem dX2_bestFor_53 : decode cX2_bestFor 53 = .ok (.ireturn, 1) := by decide +kernel
theorem dX2_goesAhead_0 : decode cX2_goesAhead 0 = .ok (.aload_n 0, 1) := by decide +kernel
theorem dX2_goesAhead_1 : decode cX2_goesAhead 1 = .ok (.getfield 49, 3) := by decide +kernel
theorem dX2_goesAhead_4 : decode cX2_goesAhead 4 = .ok (.iload_n 1, 1) := by decide +kernel
theorem dX2_goesAhead_5 : decode cX2_goesAhead 5 = .ok (.iaload, 1) := by decide +kernel
theorem dX2_goesAhead_6 : decode cX2_goesAhead 6 = .ok (.aload_n 0, 1) := by decide +kernel
theorem dX2_goesAhead_7 : decode cX2_goesAhead 7 = .ok (.getfield 49, 3) := by decide +kernel
theorem dX2_goesAhead_10 : decode cX2_goesAhead 10 = .ok (.iload_n 2, 1) := by decide +kernel
theorem dX2_goesAhead_11 : decode cX2_goesAhead 11 = .ok (.iaload, 1) := by decide +kernel
theorem dX2_goesAhead_12 : decode cX2_goesAhead 12 = .ok (.if_icmp .eq 24, 3) := by decide +kernel
theorem dX2_goesAhead_15 : decode cX2_goesAhead 15 = .ok (.aload_n 0, 1) := by decide +kernel
theorem dX2_goesAhead_16 : decode cX2_goesAhead 16 = .ok (.getfield 49, 3) := by decide +kernel
theorem dX2_goesAhead_19 : decode cX2_goesAhead 19 = .ok (.iload_n 1, 1) := by decide +kernel
theorem dX2_goesAhead_20 : decode cX2_goesAhead 20 = .ok (.iaload, 1) := by decide +kernel
theorem dX2_goesAhead_21 : decode cX2_goesAhead 21 = .ok (.aload_n 0, 1) := by decide +kernel
theorem dX2_goesAhead_22 : decode cX2_goesAhead 22 = .ok (.getfield 49, 3) := by decide +kernel
theorem dX2_goesAhead_25 : decode cX2_goesAhead 25 = .ok (.iload_n 2, 1) := by decide +kernel
theorem dX2_goesAhead_26 : decode cX2_goesAhead 26 = .ok (.iaload, 1) := by decide +kernel
theorem dX2_goesAhead_27 : decode cX2_goesAhead 27 = .ok (.if_icmp .le 7, 3) := by decide +kernel
theorem dX2_goesAhead_30 : decode cX2_goesAhead 30 = .ok (.iconst 1, 1) := by decide +kernel
theorem dX2_goesAhead_31 : decode cX2_goesAhead 31 = .ok (.goto 4, 3) := by decide +kernel
theorem dX2_goesAhead_34 : decode cX2_goesAhead 34 = .ok (.iconst 0, 1) := by decide +kernel
theorem dX2_goesAhead_35 : decode cX2_goesAhead 35 = .ok (.ireturn, 1) := by decide +kernel
theorem dX2_goesAhead_36 : decode cX2_goesAhead 36 = .ok (.aload_n 0, 1) := by decide +kernel
theorem dX2_goesAhead_37 : decode cX2_goesAhead 37 = .ok (.getfield 46, 3) := by decide +kernel
theorem dX2_goesAhead_40 : decode cX2_goesAhead 40 = .ok (.iload_n 1, 1) := by decide +kernel
theorem dX2_goesAhead_41 : decode cX2_goesAhead 41 = .ok (.iaload, 1) := by decide +kernel
theorem dX2_goesAhead_42 : decode cX2_goesAhead 42 = .ok (.aload_n 0, 1) := by decide +kernel
theorem dX2_goesAhead_43 : decode cX2_goesAhead 43 = .ok (.getfield 46, 3) := by decide +kernel
theorem dX2_goesAhead_46 : decode cX2_goesAhead 46 = .ok (.iload_n 2, 1) := by decide +kernel
theorem dX2_goesAhead_47 : decode cX2_goesAhead 47 = .ok (.iaload, 1) := by decide +kernel
theorem dX2_goesAhead_48 : decode cX2_goesAhead 48 = .ok (.if_icmp .ge 7, 3) := by decide +kernel
theorem dX2_goesAhead_51 : decode cX2_goesAhead 51 = .ok (.iconst 1, 1) := by decide +kernel
theorem dX2_goesAhead_52 : decode cX2_goesAhead 52 = .ok (.goto 4, 3) := by decide +kernel
theorem dX2_goesAhead_55 : decode cX2_goesAhead 55 = .ok (.iconst 0, 1) := by decide +kernel
theorem dX2_goesAhead_56 : decode cX2_goesAhead 56 = .ok (.ireturn, 1) := by decide +kernel
theorem dX2_canRent_0 : decode cX2_canRent 0 = .ok (.iconst 0, 1) := by decide +kernel
theorem dX2_canRent_1 : decode cX2_canRent 1 = .ok (.istore_n 3, 1) := by decide +kernel
theorem dX2_canRent_2 : decode cX2_canRent 2 = .ok (.iload_n 3, 1) := by decide +kernel
theorem dX2_canRent_3 : decode cX2_canRent 3 = .ok (.aload_n 0, 1) := by decide +kernel
theorem dX2_canRent_4 : decode cX2_canRent 4 = .ok (.getfield 21, 3) := by decide +kernel
theorem dX2_canRent_7 : decode cX2_canRent 7 = .ok (.if_icmp .ge 30, 3) := by decide +kernel
theorem dX2_canRent_10 : decode cX2_canRent 10 = .ok (.aload_n 0, 1) := by decide +kernel
theorem dX2_canRent_11 : decode cX2_canRent 11 = .ok (.iload_n 3, 1) := by decide +kernel
theorem dX2_canRent_12 : decode cX2_canRent 12 = .ok (.iload_n 1, 1) := by decide +kernel
theorem dX2_canRent_13 : decode cX2_canRent 13 = .ok (.invokevirtual 197, 3) := by decide +kernel
theorem dX2_canRent_16 : decode cX2_canRent 16 = .ok (.ifCond .eq 15, 3) := by decide +kernel
theorem dX2_canRent_19 : decode cX2_canRent 19 = .ok (.aload_n 0, 1) := by decide +kernel
theorem dX2_canRent_20 : decode cX2_canRent 20 = .ok (.getfield 43, 3) := by decide +kernel
theorem dX2_canRent_23 : decode cX2_canRent 23 = .ok (.iload_n 3, 1) := by decide +kernel
theorem dX2_canRent_24 : decode cX2_canRent 24 = .ok (.iaload, 1) := by decide +kernel
theorem dX2_canRent_25 : decode cX2_canRent 25 = .ok (.iload_n 2, 1) := by decide +kernel
theorem dX2_canRent_26 : decode cX2_canRent 26 = .ok (.if_icmp .ne 5, 3) := by decide +kernel
theorem dX2_canRent_29 : decode cX2_canRent 29 = .ok (.iconst 0, 1) := by decide +kernel
theorem dX2_canRent_30 : decode cX2_canRent 30 = .ok (.ireturn, 1) := by decide +kernel
theorem dX2_canRent_31 : decode cX2_canRent 31 = .ok (.iinc 3 1, 3) := by decide +kernel
theorem dX2_canRent_34 : decode cX2_canRent 34 = .ok (.goto (-32), 3) := by decide +kernel
theorem dX2_canRent_37 : decode cX2_canRent 37 = .ok (.aload_n 0, 1) := by decide +kernel
theorem dX2_canRent_38 : decode cX2_canRent 38 = .ok (.iload_n 1, 1) := by decide +kernel
theorem dX2_canRent_39 : decode cX2_canRent 39 = .ok (.invokevirtual 151, 3) := by decide +kernel
theorem dX2_canRent_42 : decode cX2_canRent 42 = .ok (.iconst 4, 1) := by decide +kernel
theorem dX2_canRent_43 : decode cX2_canRent 43 = .ok (.if_icmp .ge 7, 3) := by decide +kernel
theorem dX2_canRent_46 : decode cX2_canRent 46 = .ok (.iconst 1, 1) := by decide +kernel
theorem dX2_canRent_47 : decode cX2_canRent 47 = .ok (.goto 4, 3) := by decide +kernel
theorem dX2_canRent_50 : decode cX2_canRent 50 = .ok (.iconst 0, 1) := by decide +kernel
theorem dX2_canRent_51 : decode cX2_canRent 51 = .ok (.ireturn, 1) := by decide +kernel
theorem dX2_lateCharge_0 : decode cX2_lateCharge 0 = .ok (.aload_n 0, 1) := by decide +kernel
theorem dX2_lateCharge_1 : decode cX2_lateCharge 1 = .ok (.iload_n 1, 1) := by decide +kernel
theorem dX2_lateCharge_2 : decode cX2_lateCharge 2 = .ok (.invokevirtual 144, 3) := by decide +kernel
theorem dX2_lateCharge_5 : decode cX2_lateCharge 5 = .ok (.aload_n 0, 1) := by decide +kernel
theorem dX2_lateCharge_6 : decode cX2_lateCharge 6 = .ok (.getfield 24, 3) := by decide +kernel
theorem dX2_lateCharge_9 : decode cX2_lateCharge 9 = .ok (.iconst 1, 1) := by decide +kernel
theorem dX2_lateCharge_10 : decode cX2_lateCharge 10 = .ok (.iaload, 1) := by decide +kernel
theorem dX2_lateCharge_11 : decode cX2_lateCharge 11 = .ok (.imul, 1) := by decide +kernel
theorem dX2_lateCharge_12 : decode cX2_lateCharge 12 = .ok (.aload_n 0, 1) := by decide +kernel
theorem dX2_lateCharge_13 : decode cX2_lateCharge 13 = .ok (.iload_n 1, 1) := by decide +kernel
theorem dX2_lateCharge_14 : decode cX2_lateCharge 14 = .ok (.invokevirtual 131, 3) := by decide +kernel
theorem dX2_lateCharge_17 : decode cX2_lateCharge 17 = .ok (.invokestatic 71, 3) := by decide +kernel
theorem dX2_lateCharge_20 : decode cX2_lateCharge 20 = .ok (.ireturn, 1) := by decide +kernel
theorem dX2_damageCharge_0 : decode cX2_damageCharge 0 = .ok (.aload_n 0, 1) := by decide +kernel
theorem dX2_damageCharge_1 : decode cX2_damageCharge 1 = .ok (.iload_n 1, 1) := by decide +kernel
theorem dX2_damageCharge_2 : decode cX2_damageCharge 2 = .ok (.iload_n 2, 1) := by decide +kernel
theorem dX2_damageCharge_3 : decode cX2_damageCharge 3 = .ok (.invokevirtual 184, 3) := by decide +kernel
theorem dX2_damageCharge_6 : decode cX2_damageCharge 6 = .ok (.ifCond .eq 9, 3) := by decide +kernel
theorem dX2_damageCharge_9 : decode cX2_damageCharge 9 = .ok (.aload_n 0, 1) := by decide +kernel
theorem dX2_damageCharge_10 : decode cX2_damageCharge 10 = .ok (.iload_n 1, 1) := by decide +kernel
theorem dX2_damageCharge_11 : decode cX2_damageCharge 11 = .ok (.invokevirtual 131, 3) := by decide +kernel
theorem dX2_damageCharge_14 : decode cX2_damageCharge 14 = .ok (.ireturn, 1) := by decide +kernel
theorem dX2_damageCharge_15 : decode cX2_damageCharge 15 = .ok (.iload_n 2, 1) := by decide +kernel
theorem dX2_damageCharge_16 : decode cX2_damageCharge 16 = .ok (.iconst 2, 1) := by decide +kernel
theorem dX2_damageCharge_17 : decode cX2_damageCharge 17 = .ok (.if_icmp .ge 5, 3) := by decide +kernel
theorem dX2_damageCharge_20 : decode cX2_damageCharge 20 = .ok (.iconst 0, 1) := by decide +kernel
theorem dX2_damageCharge_21 : decode cX2_damageCharge 21 = .ok (.ireturn, 1) := by decide +kernel
theorem dX2_damageCharge_22 : decode cX2_damageCharge 22 = .ok (.aload_n 0, 1) := by decide +kernel
theorem dX2_damageCharge_23 : decode cX2_damageCharge 23 = .ok (.iload_n 1, 1) := by decide +kernel
theorem dX2_damageCharge_24 : decode cX2_damageCharge 24 = .ok (.aload_n 0, 1) := by decide +kernel
theorem dX2_damageCharge_25 : decode cX2_damageCharge 25 = .ok (.getfield 49, 3) := by decide +kernel
theorem dX2_damageCharge_28 : decode cX2_damageCharge 28 = .ok (.iload_n 1, 1) := by decide +kernel
theorem dX2_damageCharge_29 : decode cX2_damageCharge 29 = .ok (.iaload, 1) := by decide +kernel
theorem dX2_damageCharge_30 : decode cX2_damageCharge 30 = .ok (.iconst 1, 1) := by decide +kernel
theorem dX2_damageCharge_31 : decode cX2_damageCharge 31 = .ok (.iadd, 1) := by decide +kernel
theorem dX2_damageCharge_32 : decode cX2_damageCharge 32 = .ok (.invokevirtual 200, 3) := by decide +kernel
theorem dX2_damageCharge_35 : decode cX2_damageCharge 35 = .ok (.aload_n 0, 1) := by decide +kernel
theorem dX2_damageCharge_36 : decode cX2_damageCharge 36 = .ok (.iload_n 1, 1) := by decide +kernel
theorem dX2_damageCharge_37 : decode cX2_damageCharge 37 = .ok (.aload_n 0, 1) := by decide +kernel
theorem dX2_damageCharge_38 : decode cX2_damageCharge 38 = .ok (.getfield 49, 3) := by decide +kernel
theorem dX2_damageCharge_41 : decode cX2_damageCharge 41 = .ok (.iload_n 1, 1) := by decide +kernel
theorem dX2_damageCharge_42 : decode cX2_damageCharge 42 = .ok (.iaload, 1) := by decide +kernel
theorem dX2_damageCharge_43 : decode cX2_damageCharge 43 = .ok (.iload_n 2, 1) := by decide +kernel
theorem dX2_damageCharge_44 : decode cX2_damageCharge 44 = .ok (.iadd, 1) := by decide +kernel
theorem dX2_damageCharge_45 : decode cX2_damageCharge 45 = .ok (.invokevirtual 200, 3) := by decide +kernel
theorem dX2_damageCharge_48 : decode cX2_damageCharge 48 = .ok (.isub, 1) := by decide +kernel
theorem dX2_damageCharge_49 : decode cX2_damageCharge 49 = .ok (.ireturn, 1) := by decide +kernel
theorem dX2_isRuinedBy_0 : decode cX2_isRuinedBy 0 = .ok (.aload_n 0, 1) := by decide +kernel
theorem dX2_isRuinedBy_1 : decode cX2_isRuinedBy 1 = .ok (.getfield 49, 3) := by decide +kernel
theorem dX2_isRuinedBy_4 : decode cX2_isRuinedBy 4 = .ok (.iload_n 1, 1) := by decide +kernel
theorem dX2_isRuinedBy_5 : decode cX2_isRuinedBy 5 = .ok (.iaload, 1) := by decide +kernel
theorem dX2_isRuinedBy_6 : decode cX2_isRuinedBy 6 = .ok (.iload_n 2, 1) := by decide +kernel
theorem dX2_isRuinedBy_7 : decode cX2_isRuinedBy 7 = .ok (.iadd, 1) := by decide +kernel
theorem dX2_isRuinedBy_8 : decode cX2_isRuinedBy 8 = .ok (.iconst 4, 1) := by decide +kernel
theorem dX2_isRuinedBy_9 : decode cX2_isRuinedBy 9 = .ok (.if_icmp .le 7, 3) := by decide +kernel
theorem dX2_isRuinedBy_12 : decode cX2_isRuinedBy 12 = .ok (.iconst 1, 1) := by decide +kernel
theorem dX2_isRuinedBy_13 : decode cX2_isRuinedBy 13 = .ok (.goto 4, 3) := by decide +kernel
theorem dX2_isRuinedBy_16 : decode cX2_isRuinedBy 16 = .ok (.iconst 0, 1) := by decide +kernel
theorem dX2_isRuinedBy_17 : decode cX2_isRuinedBy 17 = .ok (.ireturn, 1) := by decide +kernel
theorem dX2_isLostOn_0 : decode cX2_isLostOn 0 = .ok (.aload_n 0, 1) := by decide +kernel
theorem dX2_isLostOn_1 : decode cX2_isLostOn 1 = .ok (.getfield 52, 3) := by decide +kernel
theorem dX2_isLostOn_4 : decode cX2_isLostOn 4 = .ok (.iload_n 1, 1) := by decide +kernel
theorem dX2_isLostOn_5 : decode cX2_isLostOn 5 = .ok (.iaload, 1) := by decide +kernel
theorem dX2_isLostOn_6 : decode cX2_isLostOn 6 = .ok (.iconst 1, 1) := by decide +kernel
theorem dX2_isLostOn_7 : decode cX2_isLostOn 7 = .ok (.if_icmp .ne 24, 3) := by decide +kernel
theorem dX2_isLostOn_10 : decode cX2_isLostOn 10 = .ok (.iload_n 2, 1) := by decide +kernel
theorem dX2_isLostOn_11 : decode cX2_isLostOn 11 = .ok (.aload_n 0, 1) := by decide +kernel
theorem dX2_isLostOn_12 : decode cX2_isLostOn 12 = .ok (.getfield 58, 3) := by decide +kernel
theorem dX2_isLostOn_15 : decode cX2_isLostOn 15 = .ok (.iload_n 1, 1) := by decide +kernel
theorem dX2_isLostOn_16 : decode cX2_isLostOn 16 = .ok (.iaload, 1) := by decide +kernel
theorem dX2_isLostOn_17 : decode cX2_isLostOn 17 = .ok (.isub, 1) := by decide +kernel
theorem dX2_isLostOn_18 : decode cX2_isLostOn 18 = .ok (.aload_n 0, 1) := by decide +kernel
theorem dX2_isLostOn_19 : decode cX2_isLostOn 19 = .ok (.getfield 24, 3) := by decide +kernel
theorem dX2_isLostOn_22 : decode cX2_isLostOn 22 = .ok (.iconst 2, 1) := by decide +kernel
theorem dX2_isLostOn_23 : decode cX2_isLostOn 23 = .ok (.iaload, 1) := by decide +kernel
theorem dX2_isLostOn_24 : decode cX2_isLostOn 24 = .ok (.if_icmp .le 7, 3) := by decide +kernel
theorem dX2_isLostOn_27 : decode cX2_isLostOn 27 = .ok (.iconst 1, 1) := by decide +kernel
theorem dX2_isLostOn_28 : decode cX2_isLostOn 28 = .ok (.goto 4, 3) := by decide +kernel
theorem dX2_isLostOn_31 : decode cX2_isLostOn 31 = .ok (.iconst 0, 1) := by decide +kernel
theorem dX2_isLostOn_32 : decode cX2_isLostOn 32 = .ok (.ireturn, 1) := by decide +kernel
theorem dX2_daysLate_0 : decode cX2_daysLate 0 = .ok (.iconst 0, 1) := by decide +kernel
theorem dX2_daysLate_1 : decode cX2_daysLate 1 = .ok (.aload_n 0, 1) := by decide +kernel
theorem dX2_daysLate_2 : decode cX2_daysLate 2 = .ok (.getfield 9, 3) := by decide +kernel
theorem dX2_daysLate_5 : decode cX2_daysLate 5 = .ok (.aload_n 0, 1) := by decide +kernel
theorem dX2_daysLate_6 : decode cX2_daysLate 6 = .ok (.getfield 58, 3) := by decide +kernel
theorem dX2_daysLate_9 : decode cX2_daysLate 9 = .ok (.iload_n 1, 1) := by decide +kernel
theorem dX2_daysLate_10 : decode cX2_daysLate 10 = .ok (.iaload, 1) := by decide +kernel
theorem dX2_daysLate_11 : decode cX2_daysLate 11 = .ok (.isub, 1) := by decide +kernel
theorem dX2_daysLate_12 : decode cX2_daysLate 12 = .ok (.invokestatic 116, 3) := by decide +kernel
theorem dX2_daysLate_15 : decode cX2_daysLate 15 = .ok (.ireturn, 1) := by decide +kernel
theorem dX2_isRentedBy_0 : decode cX2_isRentedBy 0 = .ok (.aload_n 0, 1) := by decide +kernel
theorem dX2_isRentedBy_1 : decode cX2_isRentedBy 1 = .ok (.getfield 52, 3) := by decide +kernel
theorem dX2_isRentedBy_4 : decode cX2_isRentedBy 4 = .ok (.iload_n 1, 1) := by decide +kernel
theorem dX2_isRentedBy_5 : decode cX2_isRentedBy 5 = .ok (.iaload, 1) := by decide +kernel
theorem dX2_isRentedBy_6 : decode cX2_isRentedBy 6 = .ok (.iconst 1, 1) := by decide +kernel
theorem dX2_isRentedBy_7 : decode cX2_isRentedBy 7 = .ok (.if_icmp .ne 17, 3) := by decide +kernel
theorem dX2_isRentedBy_10 : decode cX2_isRentedBy 10 = .ok (.aload_n 0, 1) := by decide +kernel
theorem dX2_isRentedBy_11 : decode cX2_isRentedBy 11 = .ok (.getfield 55, 3) := by decide +kernel
theorem dX2_isRentedBy_14 : decode cX2_isRentedBy 14 = .ok (.iload_n 1, 1) := by decide +kernel
theorem dX2_isRentedBy_15 : decode cX2_isRentedBy 15 = .ok (.iaload, 1) := by decide +kernel
theorem dX2_isRentedBy_16 : decode cX2_isRentedBy 16 = .ok (.iload_n 2, 1) := by decide +kernel
theorem dX2_isRentedBy_17 : decode cX2_isRentedBy 17 = .ok (.if_icmp .ne 7, 3) := by decide +kernel
theorem dX2_isRentedBy_20 : decode cX2_isRentedBy 20 = .ok (.iconst 1, 1) := by decide +kernel
theorem dX2_isRentedBy_21 : decode cX2_isRentedBy 21 = .ok (.goto 4, 3) := by decide +kernel
theorem dX2_isRentedBy_24 : decode cX2_isRentedBy 24 = .ok (.iconst 0, 1) := by decide +kernel
theorem dX2_isRentedBy_25 : decode cX2_isRentedBy 25 = .ok (.ireturn, 1) := by decide +kernel
theorem dX2_rentedBy_0 : decode cX2_rentedBy 0 = .ok (.iconst 0, 1) := by decide +kernel
theorem dX2_rentedBy_1 : decode cX2_rentedBy 1 = .ok (.istore_n 2, 1) := by decide +kernel
theorem dX2_rentedBy_2 : decode cX2_rentedBy 2 = .ok (.iconst 0, 1) := by decide +kernel
theorem dX2_rentedBy_3 : decode cX2_rentedBy 3 = .ok (.istore_n 3, 1) := by decide +kernel
theorem dX2_rentedBy_4 : decode cX2_rentedBy 4 = .ok (.iload_n 3, 1) := by decide +kernel
theorem dX2_rentedBy_5 : decode cX2_rentedBy 5 = .ok (.aload_n 0, 1) := by decide +kernel
theorem dX2_rentedBy_6 : decode cX2_rentedBy 6 = .ok (.getfield 21, 3) := by decide +kernel
theorem dX2_rentedBy_9 : decode cX2_rentedBy 9 = .ok (.if_icmp .ge 21, 3) := by decide +kernel
theorem dX2_rentedBy_12 : decode cX2_rentedBy 12 = .ok (.aload_n 0, 1) := by decide +kernel
theorem dX2_rentedBy_13 : decode cX2_rentedBy 13 = .ok (.iload_n 3, 1) := by decide +kernel
theorem dX2_rentedBy_14 : decode cX2_rentedBy 14 = .ok (.iload_n 1, 1) := by decide +kernel
theorem dX2_rentedBy_15 : decode cX2_rentedBy 15 = .ok (.invokevirtual 197, 3) := by decide +kernel
theorem dX2_rentedBy_18 : decode cX2_rentedBy 18 = .ok (.ifCond .eq 6, 3) := by decide +kernel
theorem dX2_rentedBy_21 : decode cX2_rentedBy 21 = .ok (.iinc 2 1, 3) := by decide +kernel
theorem dX2_rentedBy_24 : decode cX2_rentedBy 24 = .ok (.iinc 3 1, 3) := by decide +kernel
theorem dX2_rentedBy_27 : decode cX2_rentedBy 27 = .ok (.goto (-23), 3) := by decide +kernel
theorem dX2_rentedBy_30 : decode cX2_rentedBy 30 = .ok (.iload_n 2, 1) := by decide +kernel
theorem dX2_rentedBy_31 : decode cX2_rentedBy 31 = .ok (.ireturn, 1) := by decide +kernel
theorem dX2_lateBy_0 : decode cX2_lateBy 0 = .ok (.iconst 0, 1) := by decide +kernel
theorem dX2_lateBy_1 : decode cX2_lateBy 1 = .ok (.istore_n 2, 1) := by decide +kernel
theorem dX2_lateBy_2 : decode cX2_lateBy 2 = .ok (.iconst 0, 1) := by decide +kernel
theorem dX2_lateBy_3 : decode cX2_lateBy 3 = .ok (.istore_n 3, 1) := by decide +kernel
theorem dX2_lateBy_4 : decode cX2_lateBy 4 = .ok (.iload_n 3, 1) := by decide +kernel
theorem dX2_lateBy_5 : decode cX2_lateBy 5 = .ok (.aload_n 0, 1) := by decide +kernel
theorem dX2_lateBy_6 : decode cX2_lateBy 6 = .ok (.getfield 21, 3) := by decide +kernel
theorem dX2_lateBy_9 : decode cX2_lateBy 9 = .ok (.if_icmp .ge 29, 3) := by decide +kernel
theorem dX2_lateBy_12 : decode cX2_lateBy 12 = .ok (.aload_n 0, 1) := by decide +kernel
theorem dX2_lateBy_13 : decode cX2_lateBy 13 = .ok (.iload_n 3, 1) := by decide +kernel
theorem dX2_lateBy_14 : decode cX2_lateBy 14 = .ok (.iload_n 1, 1) := by decide +kernel
theorem dX2_lateBy_15 : decode cX2_lateBy 15 = .ok (.invokevirtual 197, 3) := by decide +kernel
theorem dX2_lateBy_18 : decode cX2_lateBy 18 = .ok (.ifCond .eq 14, 3) := by decide +kernel
theorem dX2_lateBy_21 : decode cX2_lateBy 21 = .ok (.aload_n 0, 1) := by decide +kernel
theorem dX2_lateBy_22 : decode cX2_lateBy 22 = .ok (.iload_n 3, 1) := by decide +kernel
theorem dX2_lateBy_23 : decode cX2_lateBy 23 = .ok (.invokevirtual 144, 3) := by decide +kernel
theorem dX2_lateBy_26 : decode cX2_lateBy 26 = .ok (.ifCond .le 6, 3) := by decide +kernel
theorem dX2_lateBy_29 : decode cX2_lateBy 29 = .ok (.iinc 2 1, 3) := by decide +kernel
theorem dX2_lateBy_32 : decode cX2_lateBy 32 = .ok (.iinc 3 1, 3) := by decide +kernel
theorem dX2_lateBy_35 : decode cX2_lateBy 35 = .ok (.goto (-31), 3) := by decide +kernel
theorem dX2_lateBy_38 : decode cX2_lateBy 38 = .ok (.iload_n 2, 1) := by decide +kernel
theorem dX2_lateBy_39 : decode cX2_lateBy 39 = .ok (.ireturn, 1) := by decide +kernel
theorem dX2_countShelf_0 : decode cX2_countShelf 0 = .ok (.aload_n 0, 1) := by decide +kernel
theorem dX2_countShelf_1 : decode cX2_countShelf 1 = .ok (.iload_n 1, 1) := by decide +kernel
theorem dX2_countShelf_2 : decode cX2_countShelf 2 = .ok (.invokevirtual 90, 3) := by decide +kernel
theorem dX2_countShelf_5 : decode cX2_countShelf 5 = .ok (.ifCond .ne 6, 3) := by decide +kernel
theorem dX2_countShelf_8 : decode cX2_countShelf 8 = .ok (.bipush (-2), 2) := by decide +kernel
theorem dX2_countShelf_10 : decode cX2_countShelf 10 = .ok (.ireturn, 1) := by decide +kernel
theorem dX2_countShelf_11 : decode cX2_countShelf 11 = .ok (.iload_n 2, 1) := by decide +kernel
theorem dX2_countShelf_12 : decode cX2_countShelf 12 = .ok (.iconst 0, 1) := by decide +kernel
theorem dX2_countShelf_13 : decode cX2_countShelf 13 = .ok (.bipush 60, 2) := by decide +kernel
theorem dX2_countShelf_15 : decode cX2_countShelf 15 = .ok (.invokestatic 93, 3) := by decide +kernel
theorem dX2_countShelf_18 : decode cX2_countShelf 18 = .ok (.ifCond .ne 6, 3) := by decide +kernel
theorem dX2_countShelf_21 : decode cX2_countShelf 21 = .ok (.bipush (-3), 2) := by decide +kernel
theorem dX2_countShelf_23 : decode cX2_countShelf 23 = .ok (.ireturn, 1) := by decide +kernel
theorem dX2_countShelf_24 : decode cX2_countShelf 24 = .ok (.aload_n 0, 1) := by decide +kernel
theorem dX2_countShelf_25 : decode cX2_countShelf 25 = .ok (.iload_n 1, 1) := by decide +kernel
theorem dX2_countShelf_26 : decode cX2_countShelf 26 = .ok (.iconst 0, 1) := by decide +kernel
theorem dX2_countShelf_27 : decode cX2_countShelf 27 = .ok (.invokevirtual 122, 3) := by decide +kernel
theorem dX2_countShelf_30 : decode cX2_countShelf 30 = .ok (.istore_n 3, 1) := by decide +kernel
theorem dX2_countShelf_31 : decode cX2_countShelf 31 = .ok (.aload_n 0, 1) := by decide +kernel
theorem dX2_countShelf_32 : decode cX2_countShelf 32 = .ok (.iload_n 1, 1) := by decide +kernel
theorem dX2_countShelf_33 : decode cX2_countShelf 33 = .ok (.iconst 4, 1) := by decide +kernel
theorem dX2_countShelf_34 : decode cX2_countShelf 34 = .ok (.invokevirtual 122, 3) := by decide +kernel
theorem dX2_countShelf_37 : decode cX2_countShelf 37 = .ok (.istore 4, 2) := by decide +kernel
theorem dX2_countShelf_39 : decode cX2_countShelf 39 = .ok (.iload_n 2, 1) := by decide +kernel
theorem dX2_countShelf_40 : decode cX2_countShelf 40 = .ok (.iload_n 3, 1) := by decide +kernel
theorem dX2_countShelf_41 : decode cX2_countShelf 41 = .ok (.iload 4, 2) := by decide +kernel
theorem dX2_countShelf_43 : decode cX2_countShelf 43 = .ok (.iadd, 1) := by decide +kernel
theorem dX2_countShelf_44 : decode cX2_countShelf 44 = .ok (.if_icmp .le 6, 3) := by decide +kernel
theorem dX2_countShelf_47 : decode cX2_countShelf 47 = .ok (.bipush (-4), 2) := by decide +kernel
theorem dX2_countShelf_49 : decode cX2_countShelf 49 = .ok (.ireturn, 1) := by decide +kernel
theorem dX2_countShelf_50 : decode cX2_countShelf 50 = .ok (.aload_n 0, 1) := by decide +kernel
theorem dX2_countShelf_51 : decode cX2_countShelf 51 = .ok (.iload_n 1, 1) := by decide +kernel
theorem dX2_countShelf_52 : decode cX2_countShelf 52 = .ok (.iload_n 3, 1) := by decide +kernel
theorem dX2_countShelf_53 : decode cX2_countShelf 53 = .ok (.iload_n 2, 1) := by decide +kernel
theorem dX2_countShelf_54 : decode cX2_countShelf 54 = .ok (.isub, 1) := by decide +kernel
theorem dX2_countShelf_55 : decode cX2_countShelf 55 = .ok (.invokevirtual 203, 3) := by decide +kernel
theorem dX2_countShelf_58 : decode cX2_countShelf 58 = .ok (.aload_n 0, 1) := by decide +kernel
theorem dX2_countShelf_59 : decode cX2_countShelf 59 = .ok (.iload_n 1, 1) := by decide +kernel
theorem dX2_countShelf_60 : decode cX2_countShelf 60 = .ok (.iload_n 2, 1) := by decide +kernel
theorem dX2_countShelf_61 : decode cX2_countShelf 61 = .ok (.iload_n 3, 1) := by decide +kernel
theorem dX2_countShelf_62 : decode cX2_countShelf 62 = .ok (.isub, 1) := by decide +kernel
theorem dX2_countShelf_63 : decode cX2_countShelf 63 = .ok (.invokevirtual 207, 3) := by decide +kernel
theorem dX2_countShelf_66 : decode cX2_countShelf 66 = .ok (.iload_n 3, 1) := by decide +kernel
theorem dX2_countShelf_67 : decode cX2_countShelf 67 = .ok (.iload 4, 2) := by decide +kernel
theorem dX2_countShelf_69 : decode cX2_countShelf 69 = .ok (.iadd, 1) := by decide +kernel
theorem dX2_countShelf_70 : decode cX2_countShelf 70 = .ok (.iload_n 2, 1) := by decide +kernel
theorem dX2_countShelf_71 : decode cX2_countShelf 71 = .ok (.isub, 1) := by decide +kernel
theorem dX2_countShelf_72 : decode cX2_countShelf 72 = .ok (.ireturn, 1) := by decide +kernel
theorem dX2_loseSight_0 : decode cX2_loseSight 0 = .ok (.iload_n 2, 1) := by decide +kernel
theorem dX2_loseSight_1 : decode cX2_loseSight 1 = .ok (.istore_n 3, 1) := by decide +kernel
theorem dX2_loseSight_2 : decode cX2_loseSight 2 = .ok (.aload_n 0, 1) := by decide +kernel
theorem dX2_loseSight_3 : decode cX2_loseSight 3 = .ok (.getfield 21, 3) := by decide +kernel
theorem dX2_loseSight_6 : decode cX2_loseSight 6 = .ok (.iconst 1, 1) := by decide +kernel
theorem dX2_loseSight_7 : decode cX2_loseSight 7 = .ok (.isub, 1) := by decide +kernel
theorem dX2_loseSight_8 : decode cX2_loseSight 8 = .ok (.istore 4, 2) := by decide +kernel
theorem dX2_loseSight_10 : decode cX2_loseSight 10 = .ok (.iload 4, 2) := by decide +kernel
theorem dX2_loseSight_12 : decode cX2_loseSight 12 = .ok (.ifCond .lt 45, 3) := by decide +kernel
theorem dX2_loseSight_15 : decode cX2_loseSight 15 = .ok (.iload_n 3, 1) := by decide +kernel
theorem dX2_loseSight_16 : decode cX2_loseSight 16 = .ok (.ifCond .le 41, 3) := by decide +kernel
theorem dX2_loseSight_19 : decode cX2_loseSight 19 = .ok (.aload_n 0, 1) := by decide +kernel
theorem dX2_loseSight_20 : decode cX2_loseSight 20 = .ok (.getfield 43, 3) := by decide +kernel
theorem dX2_loseSight_23 : decode cX2_loseSight 23 = .ok (.iload 4, 2) := by decide +kernel
theorem dX2_loseSight_25 : decode cX2_loseSight 25 = .ok (.iaload, 1) := by decide +kernel
theorem dX2_loseSight_26 : decode cX2_loseSight 26 = .ok (.iload_n 1, 1) := by decide +kernel
theorem dX2_loseSight_27 : decode cX2_loseSight 27 = .ok (.if_icmp .ne 24, 3) := by decide +kernel
theorem dX2_loseSight_30 : decode cX2_loseSight 30 = .ok (.aload_n 0, 1) := by decide +kernel
theorem dX2_loseSight_31 : decode cX2_loseSight 31 = .ok (.getfield 52, 3) := by decide +kernel
theorem dX2_loseSight_34 : decode cX2_loseSight 34 = .ok (.iload 4, 2) := by decide +kernel
theorem dX2_loseSight_36 : decode cX2_loseSight 36 = .ok (.iaload, 1) := by decide +kernel
theorem dX2_loseSight_37 : decode cX2_loseSight 37 = .ok (.ifCond .ne 14, 3) := by decide +kernel
theorem dX2_loseSight_40 : decode cX2_loseSight 40 = .ok (.aload_n 0, 1) := by decide +kernel
theorem dX2_loseSight_41 : decode cX2_loseSight 41 = .ok (.getfield 52, 3) := by decide +kernel
theorem dX2_loseSight_44 : decode cX2_loseSight 44 = .ok (.iload 4, 2) := by decide +kernel
theorem dX2_loseSight_46 : decode cX2_loseSight 46 = .ok (.iconst 4, 1) := by decide +kernel
theorem dX2_loseSight_47 : decode cX2_loseSight 47 = .ok (.iastore, 1) := by decide +kernel
theorem dX2_loseSight_48 : decode cX2_loseSight 48 = .ok (.iinc 3 (-1), 3) := by decide +kernel
theorem dX2_loseSight_51 : decode cX2_loseSight 51 = .ok (.iinc 4 (-1), 3) := by decide +kernel
theorem dX2_loseSight_54 : decode cX2_loseSight 54 = .ok (.goto (-44), 3) := by decide +kernel
theorem dX2_loseSight_57 : decode cX2_loseSight 57 = .ok (.return_, 1) := by decide +kernel
theorem dX2_findAgain_0 : decode cX2_findAgain 0 = .ok (.iload_n 2, 1) := by decide +kernel
theorem dX2_findAgain_1 : decode cX2_findAgain 1 = .ok (.istore_n 3, 1) := by decide +kernel
theorem dX2_findAgain_2 : decode cX2_findAgain 2 = .ok (.iconst 0, 1) := by decide +kernel
theorem dX2_findAgain_3 : decode cX2_findAgain 3 = .ok (.istore 4, 2) := by decide +kernel
theorem dX2_findAgain_5 : decode cX2_findAgain 5 = .ok (.iload 4, 2) := by decide +kernel
theorem dX2_findAgain_7 : decode cX2_findAgain 7 = .ok (.aload_n 0, 1) := by decide +kernel
theorem dX2_findAgain_8 : decode cX2_findAgain 8 = .ok (.getfield 21, 3) := by decide +kernel
theorem dX2_findAgain_11 : decode cX2_findAgain 11 = .ok (.if_icmp .ge 46, 3) := by decide +kernel
theorem dX2_findAgain_14 : decode cX2_findAgain 14 = .ok (.iload_n 3, 1) := by decide +kernel
theorem dX2_findAgain_15 : decode cX2_findAgain 15 = .ok (.ifCond .le 42, 3) := by decide +kernel
theorem dX2_findAgain_18 : decode cX2_findAgain 18 = .ok (.aload_n 0, 1) := by decide +kernel
theorem dX2_findAgain_19 : decode cX2_findAgain 19 = .ok (.getfield 43, 3) := by decide +kernel
theorem dX2_findAgain_22 : decode cX2_findAgain 22 = .ok (.iload 4, 2) := by decide +kernel
theorem dX2_findAgain_24 : decode cX2_findAgain 24 = .ok (.iaload, 1) := by decide +kernel
theorem dX2_findAgain_25 : decode cX2_findAgain 25 = .ok (.iload_n 1, 1) := by decide +kernel
theorem dX2_findAgain_26 : decode cX2_findAgain 26 = .ok (.if_icmp .ne 25, 3) := by decide +kernel
theorem dX2_findAgain_29 : decode cX2_findAgain 29 = .ok (.aload_n 0, 1) := by decide +kernel
theorem dX2_findAgain_30 : decode cX2_findAgain 30 = .ok (.getfield 52, 3) := by decide +kernel
theorem dX2_findAgain_33 : decode cX2_findAgain 33 = .ok (.iload 4, 2) := by decide +kernel
theorem dX2_findAgain_35 : decode cX2_findAgain 35 = .ok (.iaload, 1) := by decide +kernel
theorem dX2_findAgain_36 : decode cX2_findAgain 36 = .ok (.iconst 4, 1) := by decide +kernel
theorem dX2_findAgain_37 : decode cX2_findAgain 37 = .ok (.if_icmp .ne 14, 3) := by decide +kernel
theorem dX2_findAgain_40 : decode cX2_findAgain 40 = .ok (.aload_n 0, 1) := by decide +kernel
theorem dX2_findAgain_41 : decode cX2_findAgain 41 = .ok (.getfield 52, 3) := by decide +kernel
theorem dX2_findAgain_44 : decode cX2_findAgain 44 = .ok (.iload 4, 2) := by decide +kernel
theorem dX2_findAgain_46 : decode cX2_findAgain 46 = .ok (.iconst 0, 1) := by decide +kernel
theorem dX2_findAgain_47 : decode cX2_findAgain 47 = .ok (.iastore, 1) := by decide +kernel
theorem dX2_findAgain_48 : decode cX2_findAgain 48 = .ok (.iinc 3 (-1), 3) := by decide +kernel
theorem dX2_findAgain_51 : decode cX2_findAgain 51 = .ok (.iinc 4 1, 3) := by decide +kernel
theorem dX2_findAgain_54 : decode cX2_findAgain 54 = .ok (.goto (-49), 3) := by decide +kernel
theorem dX2_findAgain_57 : decode cX2_findAgain 57 = .ok (.return_, 1) := by decide +kernel
theorem dX2_lostAfter_0 : decode cX2_lostAfter 0 = .ok (.iload_n 1, 1) := by decide +kernel
theorem dX2_lostAfter_1 : decode cX2_lostAfter 1 = .ok (.iconst 1, 1) := by decide +kernel
theorem dX2_lostAfter_2 : decode cX2_lostAfter 2 = .ok (.sipush 400, 3) := by decide +kernel
theorem dX2_lostAfter_5 : decode cX2_lostAfter 5 = .ok (.invokestatic 93, 3) := by decide +kernel
theorem dX2_lostAfter_8 : decode cX2_lostAfter 8 = .ok (.ifCond .ne 6, 3) := by decide +kernel
theorem dX2_lostAfter_11 : decode cX2_lostAfter 11 = .ok (.bipush (-3), 2) := by decide +kernel
theorem dX2_lostAfter_13 : decode cX2_lostAfter 13 = .ok (.ireturn, 1) := by decide +kernel
theorem dX2_lostAfter_14 : decode cX2_lostAfter 14 = .ok (.iconst 0, 1) := by decide +kernel
theorem dX2_lostAfter_15 : decode cX2_lostAfter 15 = .ok (.istore_n 2, 1) := by decide +kernel
theorem dX2_lostAfter_16 : decode cX2_lostAfter 16 = .ok (.iconst 0, 1) := by decide +kernel
theorem dX2_lostAfter_17 : decode cX2_lostAfter 17 = .ok (.istore_n 3, 1) := by decide +kernel
theorem dX2_lostAfter_18 : decode cX2_lostAfter 18 = .ok (.iload_n 3, 1) := by decide +kernel
theorem dX2_lostAfter_19 : decode cX2_lostAfter 19 = .ok (.aload_n 0, 1) := by decide +kernel
theorem dX2_lostAfter_20 : decode cX2_lostAfter 20 = .ok (.getfield 21, 3) := by decide +kernel
theorem dX2_lostAfter_23 : decode cX2_lostAfter 23 = .ok (.if_icmp .ge 26, 3) := by decide +kernel
theorem dX2_lostAfter_26 : decode cX2_lostAfter 26 = .ok (.aload_n 0, 1) := by decide +kernel
theorem dX2_lostAfter_27 : decode cX2_lostAfter 27 = .ok (.iload_n 3, 1) := by decide +kernel
theorem dX2_lostAfter_28 : decode cX2_lostAfter 28 = .ok (.aload_n 0, 1) := by decide +kernel
theorem dX2_lostAfter_29 : decode cX2_lostAfter 29 = .ok (.getfield 9, 3) := by decide +kernel
theorem dX2_lostAfter_32 : decode cX2_lostAfter 32 = .ok (.iload_n 1, 1) := by decide +kernel
theorem dX2_lostAfter_33 : decode cX2_lostAfter 33 = .ok (.iadd, 1) := by decide +kernel
theorem dX2_lostAfter_34 : decode cX2_lostAfter 34 = .ok (.invokevirtual 188, 3) := by decide +kernel
theorem dX2_lostAfter_37 : decode cX2_lostAfter 37 = .ok (.ifCond .eq 6, 3) := by decide +kernel
theorem dX2_lostAfter_40 : decode cX2_lostAfter 40 = .ok (.iinc 2 1, 3) := by decide +kernel
theorem dX2_lostAfter_43 : decode cX2_lostAfter 43 = .ok (.iinc 3 1, 3) := by decide +kernel
theorem dX2_lostAfter_46 : decode cX2_lostAfter 46 = .ok (.goto (-28), 3) := by decide +kernel
theorem dX2_lostAfter_49 : decode cX2_lostAfter 49 = .ok (.iload_n 2, 1) := by decide +kernel
theorem dX2_lostAfter_50 : decode cX2_lostAfter 50 = .ok (.ireturn, 1) := by decide +kernel
theorem dX2_agingBy_0 : decode cX2_agingBy 0 = .ok (.aload_n 0, 1) := by decide +kernel
theorem dX2_agingBy_1 : decode cX2_agingBy 1 = .ok (.iload_n 1, 1) := by decide +kernel
theorem dX2_agingBy_2 : decode cX2_agingBy 2 = .ok (.invokevirtual 90, 3) := by decide +kernel
theorem dX2_agingBy_5 : decode cX2_agingBy 5 = .ok (.ifCond .ne 6, 3) := by decide +kernel
theorem dX2_agingBy_8 : decode cX2_agingBy 8 = .ok (.bipush (-2), 2) := by decide +kernel
theorem dX2_agingBy_10 : decode cX2_agingBy 10 = .ok (.ireturn, 1) := by decide +kernel
theorem dX2_agingBy_11 : decode cX2_agingBy 11 = .ok (.aload_n 0, 1) := by decide +kernel
theorem dX2_agingBy_12 : decode cX2_agingBy 12 = .ok (.getfield 31, 3) := by decide +kernel
theorem dX2_agingBy_15 : decode cX2_agingBy 15 = .ok (.iload_n 1, 1) := by decide +kernel
theorem dX2_agingBy_16 : decode cX2_agingBy 16 = .ok (.iaload, 1) := by decide +kernel
theorem dX2_agingBy_17 : decode cX2_agingBy 17 = .ok (.istore_n 2, 1) := by decide +kernel
theorem dX2_agingBy_18 : decode cX2_agingBy 18 = .ok (.iload_n 2, 1) := by decide +kernel
theorem dX2_agingBy_19 : decode cX2_agingBy 19 = .ok (.bipush 30, 2) := by decide +kernel
theorem dX2_agingBy_21 : decode cX2_agingBy 21 = .ok (.if_icmp .lt 6, 3) := by decide +kernel
theorem dX2_agingBy_24 : decode cX2_agingBy 24 = .ok (.bipush (-5), 2) := by decide +kernel
theorem dX2_agingBy_26 : decode cX2_agingBy 26 = .ok (.ireturn, 1) := by decide +kernel
theorem dX2_agingBy_27 : decode cX2_agingBy 27 = .ok (.iconst 0, 1) := by decide +kernel
theorem dX2_agingBy_28 : decode cX2_agingBy 28 = .ok (.istore_n 3, 1) := by decide +kernel
theorem dX2_agingBy_29 : decode cX2_agingBy 29 = .ok (.iconst 0, 1) := by decide +kernel
theorem dX2_agingBy_30 : decode cX2_agingBy 30 = .ok (.istore 4, 2) := by decide +kernel
theorem dX2_agingBy_32 : decode cX2_agingBy 32 = .ok (.iload 4, 2) := by decide +kernel
theorem dX2_agingBy_34 : decode cX2_agingBy 34 = .ok (.aload_n 0, 1) := by decide +kernel
theorem dX2_agingBy_35 : decode cX2_agingBy 35 = .ok (.getfield 21, 3) := by decide +kernel
theorem dX2_agingBy_38 : decode cX2_agingBy 38 = .ok (.if_icmp .ge 65, 3) := by decide +kernel
theorem dX2_agingBy_41 : decode cX2_agingBy 41 = .ok (.aload_n 0, 1) := by decide +kernel
theorem dX2_agingBy_42 : decode cX2_agingBy 42 = .ok (.getfield 43, 3) := by decide +kernel
theorem dX2_agingBy_45 : decode cX2_agingBy 45 = .ok (.iload 4, 2) := by decide +kernel
theorem dX2_agingBy_47 : decode cX2_agingBy 47 = .ok (.iaload, 1) := by decide +kernel
theorem dX2_agingBy_48 : decode cX2_agingBy 48 = .ok (.iload_n 1, 1) := by decide +kernel
theorem dX2_agingBy_49 : decode cX2_agingBy 49 = .ok (.if_icmp .ne 48, 3) := by decide +kernel
theorem dX2_agingBy_52 : decode cX2_agingBy 52 = .ok (.aload_n 0, 1) := by decide +kernel
theorem dX2_agingBy_53 : decode cX2_agingBy 53 = .ok (.iload 4, 2) := by decide +kernel
theorem dX2_agingBy_55 : decode cX2_agingBy 55 = .ok (.invokevirtual 210, 3) := by decide +kernel
theorem dX2_agingBy_58 : decode cX2_agingBy 58 = .ok (.ifCond .eq 39, 3) := by decide +kernel
theorem dX2_agingBy_61 : decode cX2_agingBy 61 = .ok (.aload_n 0, 1) := by decide +kernel
theorem dX2_agingBy_62 : decode cX2_agingBy 62 = .ok (.iload_n 1, 1) := by decide +kernel
theorem dX2_agingBy_63 : decode cX2_agingBy 63 = .ok (.iload_n 2, 1) := by decide +kernel
theorem dX2_agingBy_64 : decode cX2_agingBy 64 = .ok (.iconst 1, 1) := by decide +kernel
theorem dX2_agingBy_65 : decode cX2_agingBy 65 = .ok (.iadd, 1) := by decide +kernel
theorem dX2_agingBy_66 : decode cX2_agingBy 66 = .ok (.aload_n 0, 1) := by decide +kernel
theorem dX2_agingBy_67 : decode cX2_agingBy 67 = .ok (.getfield 46, 3) := by decide +kernel
theorem dX2_agingBy_70 : decode cX2_agingBy 70 = .ok (.iload 4, 2) := by decide +kernel
theorem dX2_agingBy_72 : decode cX2_agingBy 72 = .ok (.iaload, 1) := by decide +kernel
theorem dX2_agingBy_73 : decode cX2_agingBy 73 = .ok (.aload_n 0, 1) := by decide +kernel
theorem dX2_agingBy_74 : decode cX2_agingBy 74 = .ok (.getfield 49, 3) := by decide +kernel
theorem dX2_agingBy_77 : decode cX2_agingBy 77 = .ok (.iload 4, 2) := by decide +kernel
theorem dX2_agingBy_79 : decode cX2_agingBy 79 = .ok (.iaload, 1) := by decide +kernel
theorem dX2_agingBy_80 : decode cX2_agingBy 80 = .ok (.invokevirtual 164, 3) := by decide +kernel
theorem dX2_agingBy_83 : decode cX2_agingBy 83 = .ok (.istore 5, 2) := by decide +kernel
theorem dX2_agingBy_85 : decode cX2_agingBy 85 = .ok (.iload_n 3, 1) := by decide +kernel
theorem dX2_agingBy_86 : decode cX2_agingBy 86 = .ok (.aload_n 0, 1) := by decide +kernel
theorem dX2_agingBy_87 : decode cX2_agingBy 87 = .ok (.iload 4, 2) := by decide +kernel
theorem dX2_agingBy_89 : decode cX2_agingBy 89 = .ok (.invokevirtual 131, 3) := by decide +kernel
theorem dX2_agingBy_92 : decode cX2_agingBy 92 = .ok (.iload 5, 2) := by decide +kernel
theorem dX2_agingBy_94 : decode cX2_agingBy 94 = .ok (.isub, 1) := by decide +kernel
theorem dX2_agingBy_95 : decode cX2_agingBy 95 = .ok (.iadd, 1) := by decide +kernel
theorem dX2_agingBy_96 : decode cX2_agingBy 96 = .ok (.istore_n 3, 1) := by decide +kernel
theorem dX2_agingBy_97 : decode cX2_agingBy 97 = .ok (.iinc 4 1, 3) := by decide +kernel
theorem dX2_agingBy_100 : decode cX2_agingBy 100 = .ok (.goto (-68), 3) := by decide +kernel
theorem dX2_agingBy_103 : decode cX2_agingBy 103 = .ok (.iload_n 3, 1) := by decide +kernel
theorem dX2_agingBy_104 : decode cX2_agingBy 104 = .ok (.ireturn, 1) := by decide +kernel
theorem dX2_servedStudents_0 : decode cX2_servedStudents 0 = .ok (.iconst 0, 1) := by decide +kernel
theorem dX2_servedStudents_1 : decode cX2_servedStudents 1 = .ok (.istore_n 1, 1) := by decide +kernel
theorem dX2_servedStudents_2 : decode cX2_servedStudents 2 = .ok (.iconst 0, 1) := by decide +kernel
theorem dX2_servedStudents_3 : decode cX2_servedStudents 3 = .ok (.istore_n 2, 1) := by decide +kernel
theorem dX2_servedStudents_4 : decode cX2_servedStudents 4 = .ok (.iload_n 2, 1) := by decide +kernel
theorem dX2_servedStudents_5 : decode cX2_servedStudents 5 = .ok (.aload_n 0, 1) := by decide +kernel
theorem dX2_servedStudents_6 : decode cX2_servedStudents 6 = .ok (.getfield 15, 3) := by decide +kernel
theorem dX2_servedStudents_9 : decode cX2_servedStudents 9 = .ok (.if_icmp .ge 17, 3) := by decide +kernel
theorem dX2_servedStudents_12 : decode cX2_servedStudents 12 = .ok (.iload_n 1, 1) := by decide +kernel
theorem dX2_servedStudents_13 : decode cX2_servedStudents 13 = .ok (.aload_n 0, 1) := by decide +kernel
theorem dX2_servedStudents_14 : decode cX2_servedStudents 14 = .ok (.iload_n 2, 1) := by decide +kernel
theorem dX2_servedStudents_15 : decode cX2_servedStudents 15 = .ok (.invokevirtual 213, 3) := by decide +kernel
theorem dX2_servedStudents_18 : decode cX2_servedStudents 18 = .ok (.iadd, 1) := by decide +kernel
theorem dX2_servedStudents_19 : decode cX2_servedStudents 19 = .ok (.istore_n 1, 1) := by decide +kernel
theorem dX2_servedStudents_20 : decode cX2_servedStudents 20 = .ok (.iinc 2 1, 3) := by decide +kernel
theorem dX2_servedStudents_23 : decode cX2_servedStudents 23 = .ok (.goto (-19), 3) := by decide +kernel
theorem dX2_servedStudents_26 : decode cX2_servedStudents 26 = .ok (.iload_n 1, 1) := by decide +kernel
theorem dX2_servedStudents_27 : decode cX2_servedStudents 27 = .ok (.ireturn, 1) := by decide +kernel
theorem dX2_servedWith_0 : decode cX2_servedWith 0 = .ok (.iconst 0, 1) := by decide +kernel
theorem dX2_servedWith_1 : decode cX2_servedWith 1 = .ok (.istore_n 2, 1) := by decide +kernel
theorem dX2_servedWith_2 : decode cX2_servedWith 2 = .ok (.iconst 0, 1) := by decide +kernel
theorem dX2_servedWith_3 : decode cX2_servedWith 3 = .ok (.istore_n 3, 1) := by decide +kernel
theorem dX2_servedWith_4 : decode cX2_servedWith 4 = .ok (.bipush 30, 2) := by decide +kernel
theorem dX2_servedWith_6 : decode cX2_servedWith 6 = .ok (.istore 4, 2) := by decide +kernel
theorem dX2_servedWith_8 : decode cX2_servedWith 8 = .ok (.iload 4, 2) := by decide +kernel
theorem dX2_servedWith_10 : decode cX2_servedWith 10 = .ok (.iconst 1, 1) := by decide +kernel
theorem dX2_servedWith_11 : decode cX2_servedWith 11 = .ok (.if_icmp .lt 42, 3) := by decide +kernel
theorem dX2_servedWith_14 : decode cX2_servedWith 14 = .ok (.iload_n 3, 1) := by decide +kernel
theorem dX2_servedWith_15 : decode cX2_servedWith 15 = .ok (.aload_n 0, 1) := by decide +kernel
theorem dX2_servedWith_16 : decode cX2_servedWith 16 = .ok (.iload_n 1, 1) := by decide +kernel
theorem dX2_servedWith_17 : decode cX2_servedWith 17 = .ok (.iload 4, 2) := by decide +kernel
theorem dX2_servedWith_19 : decode cX2_servedWith 19 = .ok (.invokevirtual 216, 3) := by decide +kernel
theorem dX2_servedWith_22 : decode cX2_servedWith 22 = .ok (.iadd, 1) := by decide +kernel
theorem dX2_servedWith_23 : decode cX2_servedWith 23 = .ok (.istore_n 3, 1) := by decide +kernel
theorem dX2_servedWith_24 : decode cX2_servedWith 24 = .ok (.iload_n 3, 1) := by decide +kernel
theorem dX2_servedWith_25 : decode cX2_servedWith 25 = .ok (.aload_n 0, 1) := by decide +kernel
theorem dX2_servedWith_26 : decode cX2_servedWith 26 = .ok (.iload_n 1, 1) := by decide +kernel
theorem dX2_servedWith_27 : decode cX2_servedWith 27 = .ok (.iload 4, 2) := by decide +kernel
theorem dX2_servedWith_29 : decode cX2_servedWith 29 = .ok (.invokevirtual 219, 3) := by decide +kernel
theorem dX2_servedWith_32 : decode cX2_servedWith 32 = .ok (.invokestatic 71, 3) := by decide +kernel
theorem dX2_servedWith_35 : decode cX2_servedWith 35 = .ok (.istore 5, 2) := by decide +kernel
theorem dX2_servedWith_37 : decode cX2_servedWith 37 = .ok (.iload_n 3, 1) := by decide +kernel
theorem dX2_servedWith_38 : decode cX2_servedWith 38 = .ok (.iload 5, 2) := by decide +kernel
theorem dX2_servedWith_40 : decode cX2_servedWith 40 = .ok (.isub, 1) := by decide +kernel
theorem dX2_servedWith_41 : decode cX2_servedWith 41 = .ok (.istore_n 3, 1) := by decide +kernel
theorem dX2_servedWith_42 : decode cX2_servedWith 42 = .ok (.iload_n 2, 1) := by decide +kernel
theorem dX2_servedWith_43 : decode cX2_servedWith 43 = .ok (.iload 5, 2) := by decide +kernel
theorem dX2_servedWith_45 : decode cX2_servedWith 45 = .ok (.iadd, 1) := by decide +kernel
theorem dX2_servedWith_46 : decode cX2_servedWith 46 = .ok (.istore_n 2, 1) := by decide +kernel
theorem dX2_servedWith_47 : decode cX2_servedWith 47 = .ok (.iinc 4 (-1), 3) := by decide +kernel
theorem dX2_servedWith_50 : decode cX2_servedWith 50 = .ok (.goto (-42), 3) := by decide +kernel
theorem dX2_servedWith_53 : decode cX2_servedWith 53 = .ok (.iload_n 2, 1) := by decide +kernel
theorem dX2_servedWith_54 : decode cX2_servedWith 54 = .ok (.ireturn, 1) := by decide +kernel
theorem dX2_stockOfEdition_0 : decode cX2_stockOfEdition 0 = .ok (.iconst 0, 1) := by decide +kernel
theorem dX2_stockOfEdition_1 : decode cX2_stockOfEdition 1 = .ok (.istore_n 3, 1) := by decide +kernel
theorem dX2_stockOfEdition_2 : decode cX2_stockOfEdition 2 = .ok (.iconst 0, 1) := by decide +kernel
theorem dX2_stockOfEdition_3 : decode cX2_stockOfEdition 3 = .ok (.istore 4, 2) := by decide +kernel
theorem dX2_stockOfEdition_5 : decode cX2_stockOfEdition 5 = .ok (.iload 4, 2) := by decide +kernel
theorem dX2_stockOfEdition_7 : decode cX2_stockOfEdition 7 = .ok (.aload_n 0, 1) := by decide +kernel
theorem dX2_stockOfEdition_8 : decode cX2_stockOfEdition 8 = .ok (.getfield 21, 3) := by decide +kernel
theorem dX2_stockOfEdition_11 : decode cX2_stockOfEdition 11 = .ok (.if_icmp .ge 44, 3) := by decide +kernel
theorem dX2_stockOfEdition_14 : decode cX2_stockOfEdition 14 = .ok (.aload_n 0, 1) := by decide +kernel
theorem dX2_stockOfEdition_15 : decode cX2_stockOfEdition 15 = .ok (.getfield 43, 3) := by decide +kernel
theorem dX2_stockOfEdition_18 : decode cX2_stockOfEdition 18 = .ok (.iload 4, 2) := by decide +kernel
theorem dX2_stockOfEdition_20 : decode cX2_stockOfEdition 20 = .ok (.iaload, 1) := by decide +kernel
theorem dX2_stockOfEdition_21 : decode cX2_stockOfEdition 21 = .ok (.iload_n 1, 1) := by decide +kernel
theorem dX2_stockOfEdition_22 : decode cX2_stockOfEdition 22 = .ok (.if_icmp .ne 27, 3) := by decide +kernel
theorem dX2_stockOfEdition_25 : decode cX2_stockOfEdition 25 = .ok (.aload_n 0, 1) := by decide +kernel
theorem dX2_stockOfEdition_26 : decode cX2_stockOfEdition 26 = .ok (.getfield 46, 3) := by decide +kernel
theorem dX2_stockOfEdition_29 : decode cX2_stockOfEdition 29 = .ok (.iload 4, 2) := by decide +kernel
theorem dX2_stockOfEdition_31 : decode cX2_stockOfEdition 31 = .ok (.iaload, 1) := by decide +kernel
theorem dX2_stockOfEdition_32 : decode cX2_stockOfEdition 32 = .ok (.iload_n 2, 1) := by decide +kernel
theorem dX2_stockOfEdition_33 : decode cX2_stockOfEdition 33 = .ok (.if_icmp .ne 16, 3) := by decide +kernel
theorem dX2_stockOfEdition_36 : decode cX2_stockOfEdition 36 = .ok (.aload_n 0, 1) := by decide +kernel
theorem dX2_stockOfEdition_37 : decode cX2_stockOfEdition 37 = .ok (.getfield 52, 3) := by decide +kernel
theorem dX2_stockOfEdition_40 : decode cX2_stockOfEdition 40 = .ok (.iload 4, 2) := by decide +kernel
theorem dX2_stockOfEdition_42 : decode cX2_stockOfEdition 42 = .ok (.iaload, 1) := by decide +kernel
theorem dX2_stockOfEdition_43 : decode cX2_stockOfEdition 43 = .ok (.ifCond .ne 6, 3) := by decide +kernel
theorem dX2_stockOfEdition_46 : decode cX2_stockOfEdition 46 = .ok (.iinc 3 1, 3) := by decide +kernel
theorem dX2_stockOfEdition_49 : decode cX2_stockOfEdition 49 = .ok (.iinc 4 1, 3) := by decide +kernel
theorem dX2_stockOfEdition_52 : decode cX2_stockOfEdition 52 = .ok (.goto (-47), 3) := by decide +kernel
theorem dX2_stockOfEdition_55 : decode cX2_stockOfEdition 55 = .ok (.iload_n 3, 1) := by decide +kernel
theorem dX2_stockOfEdition_56 : decode cX2_stockOfEdition 56 = .ok (.ireturn, 1) := by decide +kernel
theorem dX2_studentsFrom_0 : decode cX2_studentsFrom 0 = .ok (.iconst 0, 1) := by decide +kernel
theorem dX2_studentsFrom_1 : decode cX2_studentsFrom 1 = .ok (.istore_n 3, 1) := by decide +kernel
theorem dX2_studentsFrom_2 : decode cX2_studentsFrom 2 = .ok (.iconst 0, 1) := by decide +kernel
theorem dX2_studentsFrom_3 : decode cX2_studentsFrom 3 = .ok (.istore 4, 2) := by decide +kernel
theorem dX2_studentsFrom_5 : decode cX2_studentsFrom 5 = .ok (.iload 4, 2) := by decide +kernel
theorem dX2_studentsFrom_7 : decode cX2_studentsFrom 7 = .ok (.aload_n 0, 1) := by decide +kernel
theorem dX2_studentsFrom_8 : decode cX2_studentsFrom 8 = .ok (.getfield 18, 3) := by decide +kernel
theorem dX2_studentsFrom_11 : decode cX2_studentsFrom 11 = .ok (.if_icmp .ge 41, 3) := by decide +kernel
theorem dX2_studentsFrom_14 : decode cX2_studentsFrom 14 = .ok (.aload_n 0, 1) := by decide +kernel
theorem dX2_studentsFrom_15 : decode cX2_studentsFrom 15 = .ok (.getfield 34, 3) := by decide +kernel
theorem dX2_studentsFrom_18 : decode cX2_studentsFrom 18 = .ok (.iload 4, 2) := by decide +kernel
theorem dX2_studentsFrom_20 : decode cX2_studentsFrom 20 = .ok (.iaload, 1) := by decide +kernel
theorem dX2_studentsFrom_21 : decode cX2_studentsFrom 21 = .ok (.iload_n 1, 1) := by decide +kernel
theorem dX2_studentsFrom_22 : decode cX2_studentsFrom 22 = .ok (.if_icmp .ne 24, 3) := by decide +kernel
theorem dX2_studentsFrom_25 : decode cX2_studentsFrom 25 = .ok (.aload_n 0, 1) := by decide +kernel
theorem dX2_studentsFrom_26 : decode cX2_studentsFrom 26 = .ok (.getfield 37, 3) := by decide +kernel
theorem dX2_studentsFrom_29 : decode cX2_studentsFrom 29 = .ok (.iload 4, 2) := by decide +kernel
theorem dX2_studentsFrom_31 : decode cX2_studentsFrom 31 = .ok (.iaload, 1) := by decide +kernel
theorem dX2_studentsFrom_32 : decode cX2_studentsFrom 32 = .ok (.iload_n 2, 1) := by decide +kernel
theorem dX2_studentsFrom_33 : decode cX2_studentsFrom 33 = .ok (.if_icmp .ne 13, 3) := by decide +kernel
theorem dX2_studentsFrom_36 : decode cX2_studentsFrom 36 = .ok (.iload_n 3, 1) := by decide +kernel
theorem dX2_studentsFrom_37 : decode cX2_studentsFrom 37 = .ok (.aload_n 0, 1) := by decide +kernel
theorem dX2_studentsFrom_38 : decode cX2_studentsFrom 38 = .ok (.getfield 40, 3) := by decide +kernel
theorem dX2_studentsFrom_41 : decode cX2_studentsFrom 41 = .ok (.iload 4, 2) := by decide +kernel
theorem dX2_studentsFrom_43 : decode cX2_studentsFrom 43 = .ok (.iaload, 1) := by decide +kernel
theorem dX2_studentsFrom_44 : decode cX2_studentsFrom 44 = .ok (.iadd, 1) := by decide +kernel
theorem dX2_studentsFrom_45 : decode cX2_studentsFrom 45 = .ok (.istore_n 3, 1) := by decide +kernel
theorem dX2_studentsFrom_46 : decode cX2_studentsFrom 46 = .ok (.iinc 4 1, 3) := by decide +kernel
theorem dX2_studentsFrom_49 : decode cX2_studentsFrom 49 = .ok (.goto (-44), 3) := by decide +kernel
theorem dX2_studentsFrom_52 : decode cX2_studentsFrom 52 = .ok (.iload_n 3, 1) := by decide +kernel
theorem dX2_studentsFrom_53 : decode cX2_studentsFrom 53 = .ok (.ireturn, 1) := by decide +kernel
theorem dX2_worthOf_0 : decode cX2_worthOf 0 = .ok (.aload_n 0, 1) := by decide +kernel
theorem dX2_worthOf_1 : decode cX2_worthOf 1 = .ok (.getfield 43, 3) := by decide +kernel
theorem dX2_worthOf_4 : decode cX2_worthOf 4 = .ok (.iload_n 1, 1) := by decide +kernel
theorem dX2_worthOf_5 : decode cX2_worthOf 5 = .ok (.iaload, 1) := by decide +kernel
theorem dX2_worthOf_6 : decode cX2_worthOf 6 = .ok (.istore_n 2, 1) := by decide +kernel
theorem dX2_worthOf_7 : decode cX2_worthOf 7 = .ok (.aload_n 0, 1) := by decide +kernel
theorem dX2_worthOf_8 : decode cX2_worthOf 8 = .ok (.iload_n 2, 1) := by decide +kernel
theorem dX2_worthOf_9 : decode cX2_worthOf 9 = .ok (.aload_n 0, 1) := by decide +kernel
theorem dX2_worthOf_10 : decode cX2_worthOf 10 = .ok (.getfield 31, 3) := by decide +kernel
theorem dX2_worthOf_13 : decode cX2_worthOf 13 = .ok (.iload_n 2, 1) := by decide +kernel
theorem dX2_worthOf_14 : decode cX2_worthOf 14 = .ok (.iaload, 1) := by decide +kernel
theorem dX2_worthOf_15 : decode cX2_worthOf 15 = .ok (.aload_n 0, 1) := by decide +kernel
theorem dX2_worthOf_16 : decode cX2_worthOf 16 = .ok (.getfield 46, 3) := by decide +kernel
theorem dX2_worthOf_19 : decode cX2_worthOf 19 = .ok (.iload_n 1, 1) := by decide +kernel
theorem dX2_worthOf_20 : decode cX2_worthOf 20 = .ok (.iaload, 1) := by decide +kernel
theorem dX2_worthOf_21 : decode cX2_worthOf 21 = .ok (.aload_n 0, 1) := by decide +kernel
theorem dX2_worthOf_22 : decode cX2_worthOf 22 = .ok (.getfield 49, 3) := by decide +kernel
theorem dX2_worthOf_25 : decode cX2_worthOf 25 = .ok (.iload_n 1, 1) := by decide +kernel
theorem dX2_worthOf_26 : decode cX2_worthOf 26 = .ok (.iaload, 1) := by decide +kernel
theorem dX2_worthOf_27 : decode cX2_worthOf 27 = .ok (.invokevirtual 164, 3) := by decide +kernel
theorem dX2_worthOf_30 : decode cX2_worthOf 30 = .ok (.ireturn, 1) := by decide +kernel
theorem dX2_worthWithGrade_0 : decode cX2_worthWithGrade 0 = .ok (.aload_n 0, 1) := by decide +kernel
theorem dX2_worthWithGrade_1 : decode cX2_worthWithGrade 1 = .ok (.getfield 43, 3) := by decide +kernel
theorem dX2_worthWithGrade_4 : decode cX2_worthWithGrade 4 = .ok (.iload_n 1, 1) := by decide +kernel
theorem dX2_worthWithGrade_5 : decode cX2_worthWithGrade 5 = .ok (.iaload, 1) := by decide +kernel
theorem dX2_worthWithGrade_6 : decode cX2_worthWithGrade 6 = .ok (.istore_n 3, 1) := by decide +kernel
theorem dX2_worthWithGrade_7 : decode cX2_worthWithGrade 7 = .ok (.aload_n 0, 1) := by decide +kernel
theorem dX2_worthWithGrade_8 : decode cX2_worthWithGrade 8 = .ok (.iload_n 3, 1) := by decide +kernel
theorem dX2_worthWithGrade_9 : decode cX2_worthWithGrade 9 = .ok (.aload_n 0, 1) := by decide +kernel
theorem dX2_worthWithGrade_10 : decode cX2_worthWithGrade 10 = .ok (.getfield 31, 3) := by decide +kernel
theorem dX2_worthWithGrade_13 : decode cX2_worthWithGrade 13 = .ok (.iload_n 3, 1) := by decide +kernel
theorem dX2_worthWithGrade_14 : decode cX2_worthWithGrade 14 = .ok (.iaload, 1) := by decide +kernel
theorem dX2_worthWithGrade_15 : decode cX2_worthWithGrade 15 = .ok (.aload_n 0, 1) := by decide +kernel
theorem dX2_worthWithGrade_16 : decode cX2_worthWithGrade 16 = .ok (.getfield 46, 3) := by decide +kernel
theorem dX2_worthWithGrade_19 : decode cX2_worthWithGrade 19 = .ok (.iload_n 1, 1) := by decide +kernel
theorem dX2_worthWithGrade_20 : decode cX2_worthWithGrade 20 = .ok (.iaload, 1) := by decide +kernel
theorem dX2_worthWithGrade_21 : decode cX2_worthWithGrade 21 = .ok (.iload_n 2, 1) := by decide +kernel
theorem dX2_worthWithGrade_22 : decode cX2_worthWithGrade 22 = .ok (.invokevirtual 164, 3) := by decide +kernel
theorem dX2_worthWithGrade_25 : decode cX2_worthWithGrade 25 = .ok (.ireturn, 1) := by decide +kernel
theorem dX2_worthBy_0 : decode cX2_worthBy 0 = .ok (.aload_n 0, 1) := by decide +kernel
theorem dX2_worthBy_1 : decode cX2_worthBy 1 = .ok (.getfield 28, 3) := by decide +kernel
theorem dX2_worthBy_4 : decode cX2_worthBy 4 = .ok (.iload_n 1, 1) := by decide +kernel
theorem dX2_worthBy_5 : decode cX2_worthBy 5 = .ok (.iaload, 1) := by decide +kernel
theorem dX2_worthBy_6 : decode cX2_worthBy 6 = .ok (.bipush 100, 2) := by decide +kernel
theorem dX2_worthBy_8 : decode cX2_worthBy 8 = .ok (.bipush 20, 2) := by decide +kernel
theorem dX2_worthBy_10 : decode cX2_worthBy 10 = .ok (.iload 4, 2) := by decide +kernel
theorem dX2_worthBy_12 : decode cX2_worthBy 12 = .ok (.imul, 1) := by decide +kernel
theorem dX2_worthBy_13 : decode cX2_worthBy 13 = .ok (.isub, 1) := by decide +kernel
theorem dX2_worthBy_14 : decode cX2_worthBy 14 = .ok (.imul, 1) := by decide +kernel
theorem dX2_worthBy_15 : decode cX2_worthBy 15 = .ok (.bipush 100, 2) := by decide +kernel
theorem dX2_worthBy_17 : decode cX2_worthBy 17 = .ok (.idiv, 1) := by decide +kernel
theorem dX2_worthBy_18 : decode cX2_worthBy 18 = .ok (.istore 5, 2) := by decide +kernel
theorem dX2_worthBy_20 : decode cX2_worthBy 20 = .ok (.iconst 0, 1) := by decide +kernel
theorem dX2_worthBy_21 : decode cX2_worthBy 21 = .ok (.iload_n 2, 1) := by decide +kernel
theorem dX2_worthBy_22 : decode cX2_worthBy 22 = .ok (.iload_n 3, 1) := by decide +kernel
theorem dX2_worthBy_23 : decode cX2_worthBy 23 = .ok (.isub, 1) := by decide +kernel
theorem dX2_worthBy_24 : decode cX2_worthBy 24 = .ok (.invokestatic 116, 3) := by decide +kernel
theorem dX2_worthBy_27 : decode cX2_worthBy 27 = .ok (.istore 6, 2) := by decide +kernel
theorem dX2_worthBy_29 : decode cX2_worthBy 29 = .ok (.bipush 100, 2) := by decide +kernel
theorem dX2_worthBy_31 : decode cX2_worthBy 31 = .ok (.aload_n 0, 1) := by decide +kernel
theorem dX2_worthBy_32 : decode cX2_worthBy 32 = .ok (.getfield 24, 3) := by decide +kernel
theorem dX2_worthBy_35 : decode cX2_worthBy 35 = .ok (.iconst 3, 1) := by decide +kernel
theorem dX2_worthBy_36 : decode cX2_worthBy 36 = .ok (.iaload, 1) := by decide +kernel
theorem dX2_worthBy_37 : decode cX2_worthBy 37 = .ok (.iload 6, 2) := by decide +kernel
theorem dX2_worthBy_39 : decode cX2_worthBy 39 = .ok (.imul, 1) := by decide +kernel
theorem dX2_worthBy_40 : decode cX2_worthBy 40 = .ok (.invokestatic 71, 3) := by decide +kernel
theorem dX2_worthBy_43 : decode cX2_worthBy 43 = .ok (.istore 7, 2) := by decide +kernel
theorem dX2_worthBy_45 : decode cX2_worthBy 45 = .ok (.iload 5, 2) := by decide +kernel
theorem dX2_worthBy_47 : decode cX2_worthBy 47 = .ok (.iload 5, 2) := by decide +kernel
theorem dX2_worthBy_49 : decode cX2_worthBy 49 = .ok (.iload 7, 2) := by decide +kernel
theorem dX2_worthBy_51 : decode cX2_worthBy 51 = .ok (.imul, 1) := by decide +kernel
theorem dX2_worthBy_52 : decode cX2_worthBy 52 = .ok (.bipush 100, 2) := by decide +kernel
theorem dX2_worthBy_54 : decode cX2_worthBy 54 = .ok (.idiv, 1) := by decide +kernel
theorem dX2_worthBy_55 : decode cX2_worthBy 55 = .ok (.isub, 1) := by decide +kernel
theorem dX2_worthBy_56 : decode cX2_worthBy 56 = .ok (.ireturn, 1) := by decide +kernel
theorem dX2_rentCost_0 : decode cX2_rentCost 0 = .ok (.aload_n 0, 1) := by decide +kernel
theorem dX2_rentCost_1 : decode cX2_rentCost 1 = .ok (.iload_n 1, 1) := by decide +kernel
theorem dX2_rentCost_2 : decode cX2_rentCost 2 = .ok (.invokevirtual 131, 3) := by decide +kernel
theorem dX2_rentCost_5 : decode cX2_rentCost 5 = .ok (.bipush 30, 2) := by decide +kernel
theorem dX2_rentCost_7 : decode cX2_rentCost 7 = .ok (.imul, 1) := by decide +kernel
theorem dX2_rentCost_8 : decode cX2_rentCost 8 = .ok (.bipush 100, 2) := by decide +kernel
theorem dX2_rentCost_10 : decode cX2_rentCost 10 = .ok (.idiv, 1) := by decide +kernel
theorem dX2_rentCost_11 : decode cX2_rentCost 11 = .ok (.ireturn, 1) := by decide +kernel
theorem dX2_saleCost_0 : decode cX2_saleCost 0 = .ok (.aload_n 0, 1) := by decide +kernel
theorem dX2_saleCost_1 : decode cX2_saleCost 1 = .ok (.iload_n 1, 1) := by decide +kernel
theorem dX2_saleCost_2 : decode cX2_saleCost 2 = .ok (.invokevirtual 131, 3) := by decide +kernel
theorem dX2_saleCost_5 : decode cX2_saleCost 5 = .ok (.bipush 75, 2) := by decide +kernel
theorem dX2_saleCost_7 : decode cX2_saleCost 7 = .ok (.imul, 1) := by decide +kernel
theorem dX2_saleCost_8 : decode cX2_saleCost 8 = .ok (.bipush 100, 2) := by decide +kernel
theorem dX2_saleCost_10 : decode cX2_saleCost 10 = .ok (.idiv, 1) := by decide +kernel
theorem dX2_saleCost_11 : decode cX2_saleCost 11 = .ok (.ireturn, 1) := by decide +kernel
theorem dX2_demandOf_0 : decode cX2_demandOf 0 = .ok (.iconst 0, 1) := by decide +kernel
theorem dX2_demandOf_1 : decode cX2_demandOf 1 = .ok (.istore_n 2, 1) := by decide +kernel
theorem dX2_demandOf_2 : decode cX2_demandOf 2 = .ok (.iconst 0, 1) := by decide +kernel
theorem dX2_demandOf_3 : decode cX2_demandOf 3 = .ok (.istore_n 3, 1) := by decide +kernel
theorem dX2_demandOf_4 : decode cX2_demandOf 4 = .ok (.iload_n 3, 1) := by decide +kernel
theorem dX2_demandOf_5 : decode cX2_demandOf 5 = .ok (.aload_n 0, 1) := by decide +kernel
theorem dX2_demandOf_6 : decode cX2_demandOf 6 = .ok (.getfield 18, 3) := by decide +kernel
theorem dX2_demandOf_9 : decode cX2_demandOf 9 = .ok (.if_icmp .ge 28, 3) := by decide +kernel
theorem dX2_demandOf_12 : decode cX2_demandOf 12 = .ok (.aload_n 0, 1) := by decide +kernel
theorem dX2_demandOf_13 : decode cX2_demandOf 13 = .ok (.getfield 34, 3) := by decide +kernel
theorem dX2_demandOf_16 : decode cX2_demandOf 16 = .ok (.iload_n 3, 1) := by decide +kernel
theorem dX2_demandOf_17 : decode cX2_demandOf 17 = .ok (.iaload, 1) := by decide +kernel
theorem dX2_demandOf_18 : decode cX2_demandOf 18 = .ok (.iload_n 1, 1) := by decide +kernel
theorem dX2_demandOf_19 : decode cX2_demandOf 19 = .ok (.if_icmp .ne 12, 3) := by decide +kernel
theorem dX2_demandOf_22 : decode cX2_demandOf 22 = .ok (.iload_n 2, 1) := by decide +kernel
theorem dX2_demandOf_23 : decode cX2_demandOf 23 = .ok (.aload_n 0, 1) := by decide +kernel
theorem dX2_demandOf_24 : decode cX2_demandOf 24 = .ok (.getfield 40, 3) := by decide +kernel
theorem dX2_demandOf_27 : decode cX2_demandOf 27 = .ok (.iload_n 3, 1) := by decide +kernel
theorem dX2_demandOf_28 : decode cX2_demandOf 28 = .ok (.iaload, 1) := by decide +kernel
theorem dX2_demandOf_29 : decode cX2_demandOf 29 = .ok (.iadd, 1) := by decide +kernel
theorem dX2_demandOf_30 : decode cX2_demandOf 30 = .ok (.istore_n 2, 1) := by decide +kernel
theorem dX2_demandOf_31 : decode cX2_demandOf 31 = .ok (.iinc 3 1, 3) := by decide +kernel
theorem dX2_demandOf_34 : decode cX2_demandOf 34 = .ok (.goto (-30), 3) := by decide +kernel
theorem dX2_demandOf_37 : decode cX2_demandOf 37 = .ok (.iload_n 2, 1) := by decide +kernel
theorem dX2_demandOf_38 : decode cX2_demandOf 38 = .ok (.ireturn, 1) := by decide +kernel
theorem dX2_supplyOf_0 : decode cX2_supplyOf 0 = .ok (.iconst 0, 1) := by decide +kernel
theorem dX2_supplyOf_1 : decode cX2_supplyOf 1 = .ok (.istore_n 2, 1) := by decide +kernel
theorem dX2_supplyOf_2 : decode cX2_supplyOf 2 = .ok (.iconst 0, 1) := by decide +kernel
theorem dX2_supplyOf_3 : decode cX2_supplyOf 3 = .ok (.istore_n 3, 1) := by decide +kernel
theorem dX2_supplyOf_4 : decode cX2_supplyOf 4 = .ok (.iload_n 3, 1) := by decide +kernel
theorem dX2_supplyOf_5 : decode cX2_supplyOf 5 = .ok (.aload_n 0, 1) := by decide +kernel
theorem dX2_supplyOf_6 : decode cX2_supplyOf 6 = .ok (.getfield 21, 3) := by decide +kernel
theorem dX2_supplyOf_9 : decode cX2_supplyOf 9 = .ok (.if_icmp .ge 67, 3) := by decide +kernel
theorem dX2_supplyOf_12 : decode cX2_supplyOf 12 = .ok (.aload_n 0, 1) := by decide +kernel
theorem dX2_supplyOf_13 : decode cX2_supplyOf 13 = .ok (.getfield 52, 3) := by decide +kernel
theorem dX2_supplyOf_16 : decode cX2_supplyOf 16 = .ok (.iload_n 3, 1) := by decide +kernel
theorem dX2_supplyOf_17 : decode cX2_supplyOf 17 = .ok (.iaload, 1) := by decide +kernel
theorem dX2_supplyOf_18 : decode cX2_supplyOf 18 = .ok (.ifCond .eq 13, 3) := by decide +kernel
theorem dX2_supplyOf_21 : decode cX2_supplyOf 21 = .ok (.aload_n 0, 1) := by decide +kernel
theorem dX2_supplyOf_22 : decode cX2_supplyOf 22 = .ok (.getfield 52, 3) := by decide +kernel
theorem dX2_supplyOf_25 : decode cX2_supplyOf 25 = .ok (.iload_n 3, 1) := by decide +kernel
theorem dX2_supplyOf_26 : decode cX2_supplyOf 26 = .ok (.iaload, 1) := by decide +kernel
theorem dX2_supplyOf_27 : decode cX2_supplyOf 27 = .ok (.iconst 1, 1) := by decide +kernel
theorem dX2_supplyOf_28 : decode cX2_supplyOf 28 = .ok (.if_icmp .ne 7, 3) := by decide +kernel
theorem dX2_supplyOf_31 : decode cX2_supplyOf 31 = .ok (.iconst 1, 1) := by decide +kernel
theorem dX2_supplyOf_32 : decode cX2_supplyOf 32 = .ok (.goto 4, 3) := by decide +kernel
theorem dX2_supplyOf_35 : decode cX2_supplyOf 35 = .ok (.iconst 0, 1) := by decide +kernel
theorem dX2_supplyOf_36 : decode cX2_supplyOf 36 = .ok (.istore 4, 2) := by decide +kernel
theorem dX2_supplyOf_38 : decode cX2_supplyOf 38 = .ok (.aload_n 0, 1) := by decide +kernel
theorem dX2_supplyOf_39 : decode cX2_supplyOf 39 = .ok (.getfield 43, 3) := by decide +kernel
theorem dX2_supplyOf_42 : decode cX2_supplyOf 42 = .ok (.iload_n 3, 1) := by decide +kernel
theorem dX2_supplyOf_43 : decode cX2_supplyOf 43 = .ok (.iaload, 1) := by decide +kernel
theorem dX2_supplyOf_44 : decode cX2_supplyOf 44 = .ok (.iload_n 1, 1) := by decide +kernel
theorem dX2_supplyOf_45 : decode cX2_supplyOf 45 = .ok (.if_icmp .ne 25, 3) := by decide +kernel
theorem dX2_supplyOf_48 : decode cX2_supplyOf 48 = .ok (.iload 4, 2) := by decide +kernel
theorem dX2_supplyOf_50 : decode cX2_supplyOf 50 = .ok (.ifCond .eq 20, 3) := by decide +kernel
theorem dX2_supplyOf_53 : decode cX2_supplyOf 53 = .ok (.aload_n 0, 1) := by decide +kernel
theorem dX2_supplyOf_54 : decode cX2_supplyOf 54 = .ok (.iload_n 1, 1) := by decide +kernel
theorem dX2_supplyOf_55 : decode cX2_supplyOf 55 = .ok (.aload_n 0, 1) := by decide +kernel
theorem dX2_supplyOf_56 : decode cX2_supplyOf 56 = .ok (.getfield 46, 3) := by decide +kernel
theorem dX2_supplyOf_59 : decode cX2_supplyOf 59 = .ok (.iload_n 3, 1) := by decide +kernel
theorem dX2_supplyOf_60 : decode cX2_supplyOf 60 = .ok (.iaload, 1) := by decide +kernel
theorem dX2_supplyOf_61 : decode cX2_supplyOf 61 = .ok (.invokevirtual 140, 3) := by decide +kernel
theorem dX2_supplyOf_64 : decode cX2_supplyOf 64 = .ok (.ifCond .eq 6, 3) := by decide +kernel
theorem dX2_supplyOf_67 : decode cX2_supplyOf 67 = .ok (.iinc 2 1, 3) := by decide +kernel
theorem dX2_supplyOf_70 : decode cX2_supplyOf 70 = .ok (.iinc 3 1, 3) := by decide +kernel
theorem dX2_supplyOf_73 : decode cX2_supplyOf 73 = .ok (.goto (-69), 3) := by decide +kernel
theorem dX2_supplyOf_76 : decode cX2_supplyOf 76 = .ok (.iload_n 2, 1) := by decide +kernel
theorem dX2_supplyOf_77 : decode cX2_supplyOf 77 = .ok (.ireturn, 1) := by decide +kernel
theorem dX2_isOfUse_0 : decode cX2_isOfUse 0 = .ok (.iconst 0, 1) := by decide +kernel
theorem dX2_isOfUse_1 : decode cX2_isOfUse 1 = .ok (.istore_n 3, 1) := by decide +kernel
theorem dX2_isOfUse_2 : decode cX2_isOfUse 2 = .ok (.iload_n 3, 1) := by decide +kernel
theorem dX2_isOfUse_3 : decode cX2_isOfUse 3 = .ok (.aload_n 0, 1) := by decide +kernel
theorem dX2_isOfUse_4 : decode cX2_isOfUse 4 = .ok (.getfield 18, 3) := by decide +kernel
theorem dX2_isOfUse_7 : decode cX2_isOfUse 7 = .ok (.if_icmp .ge 21, 3) := by decide +kernel
theorem dX2_isOfUse_10 : decode cX2_isOfUse 10 = .ok (.aload_n 0, 1) := by decide +kernel
theorem dX2_isOfUse_11 : decode cX2_isOfUse 11 = .ok (.iload_n 3, 1) := by decide +kernel
theorem dX2_isOfUse_12 : decode cX2_isOfUse 12 = .ok (.iload_n 1, 1) := by decide +kernel
theorem dX2_isOfUse_13 : decode cX2_isOfUse 13 = .ok (.iload_n 2, 1) := by decide +kernel
theorem dX2_isOfUse_14 : decode cX2_isOfUse 14 = .ok (.invokevirtual 222, 3) := by decide +kernel
theorem dX2_isOfUse_17 : decode cX2_isOfUse 17 = .ok (.ifCond .eq 5, 3) := by decide +kernel
theorem dX2_isOfUse_20 : decode cX2_isOfUse 20 = .ok (.iconst 1, 1) := by decide +kernel
theorem dX2_isOfUse_21 : decode cX2_isOfUse 21 = .ok (.ireturn, 1) := by decide +kernel
theorem dX2_isOfUse_22 : decode cX2_isOfUse 22 = .ok (.iinc 3 1, 3) := by decide +kernel
theorem dX2_isOfUse_25 : decode cX2_isOfUse 25 = .ok (.goto (-23), 3) := by decide +kernel
theorem dX2_isOfUse_28 : decode cX2_isOfUse 28 = .ok (.iconst 0, 1) := by decide +kernel
theorem dX2_isOfUse_29 : decode cX2_isOfUse 29 = .ok (.ireturn, 1) := by decide +kernel
theorem dX2_takes_0 : decode cX2_takes 0 = .ok (.aload_n 0, 1) := by decide +kernel
theorem dX2_takes_1 : decode cX2_takes 1 = .ok (.getfield 34, 3) := by decide +kernel
theorem dX2_takes_4 : decode cX2_takes 4 = .ok (.iload_n 1, 1) := by decide +kernel
theorem dX2_takes_5 : decode cX2_takes 5 = .ok (.iaload, 1) := by decide +kernel
theorem dX2_takes_6 : decode cX2_takes 6 = .ok (.iload_n 2, 1) := by decide +kernel
theorem dX2_takes_7 : decode cX2_takes 7 = .ok (.if_icmp .ne 17, 3) := by decide +kernel
theorem dX2_takes_10 : decode cX2_takes 10 = .ok (.iload_n 3, 1) := by decide +kernel
theorem dX2_takes_11 : decode cX2_takes 11 = .ok (.aload_n 0, 1) := by decide +kernel
theorem dX2_takes_12 : decode cX2_takes 12 = .ok (.getfield 37, 3) := by decide +kernel
theorem dX2_takes_15 : decode cX2_takes 15 = .ok (.iload_n 1, 1) := by decide +kernel
theorem dX2_takes_16 : decode cX2_takes 16 = .ok (.iaload, 1) := by decide +kernel
theorem dX2_takes_17 : decode cX2_takes 17 = .ok (.if_icmp .lt 7, 3) := by decide +kernel
theorem dX2_takes_20 : decode cX2_takes 20 = .ok (.iconst 1, 1) := by decide +kernel
theorem dX2_takes_21 : decode cX2_takes 21 = .ok (.goto 4, 3) := by decide +kernel
theorem dX2_takes_24 : decode cX2_takes 24 = .ok (.iconst 0, 1) := by decide +kernel
theorem dX2_takes_25 : decode cX2_takes 25 = .ok (.ireturn, 1) := by decide +kernel
theorem dX2_suits_0 : decode cX2_suits 0 = .ok (.aload_n 0, 1) := by decide +kernel
theorem dX2_suits_1 : decode cX2_suits 1 = .ok (.iload_n 2, 1) := by decide +kernel
theorem dX2_suits_2 : decode cX2_suits 2 = .ok (.aload_n 0, 1) := by decide +kernel
theorem dX2_suits_3 : decode cX2_suits 3 = .ok (.getfield 43, 3) := by decide +kernel
theorem dX2_suits_6 : decode cX2_suits 6 = .ok (.iload_n 1, 1) := by decide +kernel
theorem dX2_suits_7 : decode cX2_suits 7 = .ok (.iaload, 1) := by decide +kernel
theorem dX2_suits_8 : decode cX2_suits 8 = .ok (.aload_n 0, 1) := by decide +kernel
theorem dX2_suits_9 : decode cX2_suits 9 = .ok (.getfield 46, 3) := by decide +kernel
theorem dX2_suits_12 : decode cX2_suits 12 = .ok (.iload_n 1, 1) := by decide +kernel
theorem dX2_suits_13 : decode cX2_suits 13 = .ok (.iaload, 1) := by decide +kernel
theorem dX2_suits_14 : decode cX2_suits 14 = .ok (.invokevirtual 222, 3) := by decide +kernel
theorem dX2_suits_17 : decode cX2_suits 17 = .ok (.ireturn, 1) := by decide +kernel
theorem dX2_stockFor_0 : decode cX2_stockFor 0 = .ok (.iconst 0, 1) := by decide +kernel
theorem dX2_stockFor_1 : decode cX2_stockFor 1 = .ok (.istore_n 2, 1) := by decide +kernel
theorem dX2_stockFor_2 : decode cX2_stockFor 2 = .ok (.iconst 0, 1) := by decide +kernel
theorem dX2_stockFor_3 : decode cX2_stockFor 3 = .ok (.istore_n 3, 1) := by decide +kernel
theorem dX2_stockFor_4 : decode cX2_stockFor 4 = .ok (.iload_n 3, 1) := by decide +kernel
theorem dX2_stockFor_5 : decode cX2_stockFor 5 = .ok (.aload_n 0, 1) := by decide +kernel
theorem dX2_stockFor_6 : decode cX2_stockFor 6 = .ok (.getfield 21, 3) := by decide +kernel
theorem dX2_stockFor_9 : decode cX2_stockFor 9 = .ok (.if_icmp .ge 30, 3) := by decide +kernel
theorem dX2_stockFor_12 : decode cX2_stockFor 12 = .ok (.aload_n 0, 1) := by decide +kernel
theorem dX2_stockFor_13 : decode cX2_stockFor 13 = .ok (.getfield 52, 3) := by decide +kernel
theorem dX2_stockFor_16 : decode cX2_stockFor 16 = .ok (.iload_n 3, 1) := by decide +kernel
theorem dX2_stockFor_17 : decode cX2_stockFor 17 = .ok (.iaload, 1) := by decide +kernel
theorem dX2_stockFor_18 : decode cX2_stockFor 18 = .ok (.ifCond .ne 15, 3) := by decide +kernel
theorem dX2_stockFor_21 : decode cX2_stockFor 21 = .ok (.aload_n 0, 1) := by decide +kernel
theorem dX2_stockFor_22 : decode cX2_stockFor 22 = .ok (.iload_n 3, 1) := by decide +kernel
theorem dX2_stockFor_23 : decode cX2_stockFor 23 = .ok (.iload_n 1, 1) := by decide +kernel
theorem dX2_stockFor_24 : decode cX2_stockFor 24 = .ok (.invokevirtual 191, 3) := by decide +kernel
theorem dX2_stockFor_27 : decode cX2_stockFor 27 = .ok (.ifCond .eq 6, 3) := by decide +kernel
theorem dX2_stockFor_30 : decode cX2_stockFor 30 = .ok (.iinc 2 1, 3) := by decide +kernel
theorem dX2_stockFor_33 : decode cX2_stockFor 33 = .ok (.iinc 3 1, 3) := by decide +kernel
theorem dX2_stockFor_36 : decode cX2_stockFor 36 = .ok (.goto (-32), 3) := by decide +kernel
theorem dX2_stockFor_39 : decode cX2_stockFor 39 = .ok (.iload_n 2, 1) := by decide +kernel
theorem dX2_stockFor_40 : decode cX2_stockFor 40 = .ok (.ireturn, 1) := by decide +kernel
theorem dX2_copiesIn_0 : decode cX2_copiesIn 0 = .ok (.iconst 0, 1) := by decide +kernel
theorem dX2_copiesIn_1 : decode cX2_copiesIn 1 = .ok (.istore_n 2, 1) := by decide +kernel
theorem dX2_copiesIn_2 : decode cX2_copiesIn 2 = .ok (.iconst 0, 1) := by decide +kernel
theorem dX2_copiesIn_3 : decode cX2_copiesIn 3 = .ok (.istore_n 3, 1) := by decide +kernel
theorem dX2_copiesIn_4 : decode cX2_copiesIn 4 = .ok (.iload_n 3, 1) := by decide +kernel
theorem dX2_copiesIn_5 : decode cX2_copiesIn 5 = .ok (.aload_n 0, 1) := by decide +kernel
theorem dX2_copiesIn_6 : decode cX2_copiesIn 6 = .ok (.getfield 21, 3) := by decide +kernel
theorem dX2_copiesIn_9 : decode cX2_copiesIn 9 = .ok (.if_icmp .ge 22, 3) := by decide +kernel
theorem dX2_copiesIn_12 : decode cX2_copiesIn 12 = .ok (.aload_n 0, 1) := by decide +kernel
theorem dX2_copiesIn_13 : decode cX2_copiesIn 13 = .ok (.getfield 52, 3) := by decide +kernel
theorem dX2_copiesIn_16 : decode cX2_copiesIn 16 = .ok (.iload_n 3, 1) := by decide +kernel
theorem dX2_copiesIn_17 : decode cX2_copiesIn 17 = .ok (.iaload, 1) := by decide +kernel
theorem dX2_copiesIn_18 : decode cX2_copiesIn 18 = .ok (.iload_n 1, 1) := by decide +kernel
theorem dX2_copiesIn_19 : decode cX2_copiesIn 19 = .ok (.if_icmp .ne 6, 3) := by decide +kernel
theorem dX2_copiesIn_22 : decode cX2_copiesIn 22 = .ok (.iinc 2 1, 3) := by decide +kernel
theorem dX2_copiesIn_25 : decode cX2_copiesIn 25 = .ok (.iinc 3 1, 3) := by decide +kernel
theorem dX2_copiesIn_28 : decode cX2_copiesIn 28 = .ok (.goto (-24), 3) := by decide +kernel
theorem dX2_copiesIn_31 : decode cX2_copiesIn 31 = .ok (.iload_n 2, 1) := by decide +kernel
theorem dX2_copiesIn_32 : decode cX2_copiesIn 32 = .ok (.ireturn, 1) := by decide +kernel
theorem dX2_copiesOf_0 : decode cX2_copiesOf 0 = .ok (.iconst 0, 1) := by decide +kernel
theorem dX2_copiesOf_1 : decode cX2_copiesOf 1 = .ok (.istore_n 2, 1) := by decide +kernel
theorem dX2_copiesOf_2 : decode cX2_copiesOf 2 = .ok (.iconst 0, 1) := by decide +kernel
theorem dX2_copiesOf_3 : decode cX2_copiesOf 3 = .ok (.istore_n 3, 1) := by decide +kernel
theorem dX2_copiesOf_4 : decode cX2_copiesOf 4 = .ok (.iload_n 3, 1) := by decide +kernel
theorem dX2_copiesOf_5 : decode cX2_copiesOf 5 = .ok (.aload_n 0, 1) := by decide +kernel
theorem dX2_copiesOf_6 : decode cX2_copiesOf 6 = .ok (.getfield 21, 3) := by decide +kernel
theorem dX2_copiesOf_9 : decode cX2_copiesOf 9 = .ok (.if_icmp .ge 22, 3) := by decide +kernel
theorem dX2_copiesOf_12 : decode cX2_copiesOf 12 = .ok (.aload_n 0, 1) := by decide +kernel
theorem dX2_copiesOf_13 : decode cX2_copiesOf 13 = .ok (.getfield 43, 3) := by decide +kernel
theorem dX2_copiesOf_16 : decode cX2_copiesOf 16 = .ok (.iload_n 3, 1) := by decide +kernel
theorem dX2_copiesOf_17 : decode cX2_copiesOf 17 = .ok (.iaload, 1) := by decide +kernel
theorem dX2_copiesOf_18 : decode cX2_copiesOf 18 = .ok (.iload_n 1, 1) := by decide +kernel
theorem dX2_copiesOf_19 : decode cX2_copiesOf 19 = .ok (.if_icmp .ne 6, 3) := by decide +kernel
theorem dX2_copiesOf_22 : decode cX2_copiesOf 22 = .ok (.iinc 2 1, 3) := by decide +kernel
theorem dX2_copiesOf_25 : decode cX2_copiesOf 25 = .ok (.iinc 3 1, 3) := by decide +kernel
theorem dX2_copiesOf_28 : decode cX2_copiesOf 28 = .ok (.goto (-24), 3) := by decide +kernel
theorem dX2_copiesOf_31 : decode cX2_copiesOf 31 = .ok (.iload_n 2, 1) := by decide +kernel
theorem dX2_copiesOf_32 : decode cX2_copiesOf 32 = .ok (.ireturn, 1) := by decide +kernel
theorem dX2_copiesOfIn_0 : decode cX2_copiesOfIn 0 = .ok (.iconst 0, 1) := by decide +kernel
theorem dX2_copiesOfIn_1 : decode cX2_copiesOfIn 1 = .ok (.istore_n 3, 1) := by decide +kernel
theorem dX2_copiesOfIn_2 : decode cX2_copiesOfIn 2 = .ok (.iconst 0, 1) := by decide +kernel
theorem dX2_copiesOfIn_3 : decode cX2_copiesOfIn 3 = .ok (.istore 4, 2) := by decide +kernel
theorem dX2_copiesOfIn_5 : decode cX2_copiesOfIn 5 = .ok (.iload 4, 2) := by decide +kernel
theorem dX2_copiesOfIn_7 : decode cX2_copiesOfIn 7 = .ok (.aload_n 0, 1) := by decide +kernel
theorem dX2_copiesOfIn_8 : decode cX2_copiesOfIn 8 = .ok (.getfield 21, 3) := by decide +kernel
theorem dX2_copiesOfIn_11 : decode cX2_copiesOfIn 11 = .ok (.if_icmp .ge 34, 3) := by decide +kernel
theorem dX2_copiesOfIn_14 : decode cX2_copiesOfIn 14 = .ok (.aload_n 0, 1) := by decide +kernel
theorem dX2_copiesOfIn_15 : decode cX2_copiesOfIn 15 = .ok (.getfield 43, 3) := by decide +kernel
theorem dX2_copiesOfIn_18 : decode cX2_copiesOfIn 18 = .ok (.iload 4, 2) := by decide +kernel
theorem dX2_copiesOfIn_20 : decode cX2_copiesOfIn 20 = .ok (.iaload, 1) := by decide +kernel
theorem dX2_copiesOfIn_21 : decode cX2_copiesOfIn 21 = .ok (.iload_n 1, 1) := by decide +kernel
theorem dX2_copiesOfIn_22 : decode cX2_copiesOfIn 22 = .ok (.if_icmp .ne 17, 3) := by decide +kernel
theorem dX2_copiesOfIn_25 : decode cX2_copiesOfIn 25 = .ok (.aload_n 0, 1) := by decide +kernel
theorem dX2_copiesOfIn_26 : decode cX2_copiesOfIn 26 = .ok (.getfield 52, 3) := by decide +kernel
theorem dX2_copiesOfIn_29 : decode cX2_copiesOfIn 29 = .ok (.iload 4, 2) := by decide +kernel
theorem dX2_copiesOfIn_31 : decode cX2_copiesOfIn 31 = .ok (.iaload, 1) := by decide +kernel
theorem dX2_copiesOfIn_32 : decode cX2_copiesOfIn 32 = .ok (.iload_n 2, 1) := by decide +kernel
theorem dX2_copiesOfIn_33 : decode cX2_copiesOfIn 33 = .ok (.if_icmp .ne 6, 3) := by decide +kernel
theorem dX2_copiesOfIn_36 : decode cX2_copiesOfIn 36 = .ok (.iinc 3 1, 3) := by decide +kernel
theorem dX2_copiesOfIn_39 : decode cX2_copiesOfIn 39 = .ok (.iinc 4 1, 3) := by decide +kernel
theorem dX2_copiesOfIn_42 : decode cX2_copiesOfIn 42 = .ok (.goto (-37), 3) := by decide +kernel
theorem dX2_copiesOfIn_45 : decode cX2_copiesOfIn 45 = .ok (.iload_n 3, 1) := by decide +kernel
theorem dX2_copiesOfIn_46 : decode cX2_copiesOfIn 46 = .ok (.ireturn, 1) := by decide +kernel
theorem dX2_isOwned_0 : decode cX2_isOwned 0 = .ok (.aload_n 0, 1) := by decide +kernel
theorem dX2_isOwned_1 : decode cX2_isOwned 1 = .ok (.getfield 52, 3) := by decide +kernel
theorem dX2_isOwned_4 : decode cX2_isOwned 4 = .ok (.iload_n 1, 1) := by decide +kernel
theorem dX2_isOwned_5 : decode cX2_isOwned 5 = .ok (.iaload, 1) := by decide +kernel
theorem dX2_isOwned_6 : decode cX2_isOwned 6 = .ok (.ifCond .eq 23, 3) := by decide +kernel
theorem dX2_isOwned_9 : decode cX2_isOwned 9 = .ok (.aload_n 0, 1) := by decide +kernel
theorem dX2_isOwned_10 : decode cX2_isOwned 10 = .ok (.getfield 52, 3) := by decide +kernel
theorem dX2_isOwned_13 : decode cX2_isOwned 13 = .ok (.iload_n 1, 1) := by decide +kernel
theorem dX2_isOwned_14 : decode cX2_isOwned 14 = .ok (.iaload, 1) := by decide +kernel
theorem dX2_isOwned_15 : decode cX2_isOwned 15 = .ok (.iconst 1, 1) := by decide +kernel
theorem dX2_isOwned_16 : decode cX2_isOwned 16 = .ok (.if_icmp .eq 13, 3) := by decide +kernel
theorem dX2_isOwned_19 : decode cX2_isOwned 19 = .ok (.aload_n 0, 1) := by decide +kernel
theorem dX2_isOwned_20 : decode cX2_isOwned 20 = .ok (.getfield 52, 3) := by decide +kernel
theorem dX2_isOwned_23 : decode cX2_isOwned 23 = .ok (.iload_n 1, 1) := by decide +kernel
theorem dX2_isOwned_24 : decode cX2_isOwned 24 = .ok (.iaload, 1) := by decide +kernel
theorem dX2_isOwned_25 : decode cX2_isOwned 25 = .ok (.iconst 4, 1) := by decide +kernel
theorem dX2_isOwned_26 : decode cX2_isOwned 26 = .ok (.if_icmp .ne 7, 3) := by decide +kernel
theorem dX2_isOwned_29 : decode cX2_isOwned 29 = .ok (.iconst 1, 1) := by decide +kernel
theorem dX2_isOwned_30 : decode cX2_isOwned 30 = .ok (.goto 4, 3) := by decide +kernel
theorem dX2_isOwned_33 : decode cX2_isOwned 33 = .ok (.iconst 0, 1) := by decide +kernel
theorem dX2_isOwned_34 : decode cX2_isOwned 34 = .ok (.ireturn, 1) := by decide +kernel
theorem dX2_hasTitle_0 : decode cX2_hasTitle 0 = .ok (.iload_n 1, 1) := by decide +kernel
theorem dX2_hasTitle_1 : decode cX2_hasTitle 1 = .ok (.iconst 0, 1) := by decide +kernel
theorem dX2_hasTitle_2 : decode cX2_hasTitle 2 = .ok (.aload_n 0, 1) := by decide +kernel
theorem dX2_hasTitle_3 : decode cX2_hasTitle 3 = .ok (.getfield 15, 3) := by decide +kernel
theorem dX2_hasTitle_6 : decode cX2_hasTitle 6 = .ok (.iconst 1, 1) := by decide +kernel
theorem dX2_hasTitle_7 : decode cX2_hasTitle 7 = .ok (.isub, 1) := by decide +kernel
theorem dX2_hasTitle_8 : decode cX2_hasTitle 8 = .ok (.invokestatic 93, 3) := by decide +kernel
theorem dX2_hasTitle_11 : decode cX2_hasTitle 11 = .ok (.ireturn, 1) := by decide +kernel
theorem dX2_hasCourse_0 : decode cX2_hasCourse 0 = .ok (.iload_n 1, 1) := by decide +kernel
theorem dX2_hasCourse_1 : decode cX2_hasCourse 1 = .ok (.iconst 0, 1) := by decide +kernel
theorem dX2_hasCourse_2 : decode cX2_hasCourse 2 = .ok (.aload_n 0, 1) := by decide +kernel
theorem dX2_hasCourse_3 : decode cX2_hasCourse 3 = .ok (.getfield 18, 3) := by decide +kernel
theorem dX2_hasCourse_6 : decode cX2_hasCourse 6 = .ok (.iconst 1, 1) := by decide +kernel
theorem dX2_hasCourse_7 : decode cX2_hasCourse 7 = .ok (.isub, 1) := by decide +kernel
theorem dX2_hasCourse_8 : decode cX2_hasCourse 8 = .ok (.invokestatic 93, 3) := by decide +kernel
theorem dX2_hasCourse_11 : decode cX2_hasCourse 11 = .ok (.ireturn, 1) := by decide +kernel
theorem dX2_hasCopy_0 : decode cX2_hasCopy 0 = .ok (.iload_n 1, 1) := by decide +kernel
theorem dX2_hasCopy_1 : decode cX2_hasCopy 1 = .ok (.iconst 0, 1) := by decide +kernel
theorem dX2_hasCopy_2 : decode cX2_hasCopy 2 = .ok (.aload_n 0, 1) := by decide +kernel
theorem dX2_hasCopy_3 : decode cX2_hasCopy 3 = .ok (.getfield 21, 3) := by decide +kernel
theorem dX2_hasCopy_6 : decode cX2_hasCopy 6 = .ok (.iconst 1, 1) := by decide +kernel
theorem dX2_hasCopy_7 : decode cX2_hasCopy 7 = .ok (.isub, 1) := by decide +kernel
theorem dX2_hasCopy_8 : decode cX2_hasCopy 8 = .ok (.invokestatic 93, 3) := by decide +kernel
theorem dX2_hasCopy_11 : decode cX2_hasCopy 11 = .ok (.ireturn, 1) := by decide +kernel
theorem dX2_hasCustomer_0 : decode cX2_hasCustomer 0 = .ok (.iload_n 0, 1) := by decide +kernel
theorem dX2_hasCustomer_1 : decode cX2_hasCustomer 1 = .ok (.iconst 0, 1) := by decide +kernel
theorem dX2_hasCustomer_2 : decode cX2_hasCustomer 2 = .ok (.bipush 7, 2) := by decide +kernel
theorem dX2_hasCustomer_4 : decode cX2_hasCustomer 4 = .ok (.invokestatic 93, 3) := by decide +kernel
theorem dX2_hasCustomer_7 : decode cX2_hasCustomer 7 = .ok (.ireturn, 1) := by decide +kernel
theorem dX2_isPrice_0 : decode cX2_isPrice 0 = .ok (.iload_n 0, 1) := by decide +kernel
theorem dX2_isPrice_1 : decode cX2_isPrice 1 = .ok (.bipush 100, 2) := by decide +kernel
theorem dX2_isPrice_3 : decode cX2_isPrice 3 = .ok (.sipush 20000, 3) := by decide +kernel
theorem dX2_isPrice_6 : decode cX2_isPrice 6 = .ok (.invokestatic 93, 3) := by decide +kernel
theorem dX2_isPrice_9 : decode cX2_isPrice 9 = .ok (.ireturn, 1) := by decide +kernel
theorem dX2_isEdition_0 : decode cX2_isEdition 0 = .ok (.iload_n 0, 1) := by decide +kernel
theorem dX2_isEdition_1 : decode cX2_isEdition 1 = .ok (.iconst 1, 1) := by decide +kernel
theorem dX2_isEdition_2 : decode cX2_isEdition 2 = .ok (.bipush 30, 2) := by decide +kernel
theorem dX2_isEdition_4 : decode cX2_isEdition 4 = .ok (.invokestatic 93, 3) := by decide +kernel
theorem dX2_isEdition_7 : decode cX2_isEdition 7 = .ok (.ireturn, 1) := by decide +kernel
theorem dX2_isGrade_0 : decode cX2_isGrade 0 = .ok (.iload_n 0, 1) := by decide +kernel
theorem dX2_isGrade_1 : decode cX2_isGrade 1 = .ok (.iconst 0, 1) := by decide +kernel
theorem dX2_isGrade_2 : decode cX2_isGrade 2 = .ok (.iconst 4, 1) := by decide +kernel
theorem dX2_isGrade_3 : decode cX2_isGrade 3 = .ok (.invokestatic 93, 3) := by decide +kernel
theorem dX2_isGrade_6 : decode cX2_isGrade 6 = .ok (.ireturn, 1) := by decide +kernel
theorem dX2_isBetween_0 : decode cX2_isBetween 0 = .ok (.iload_n 0, 1) := by decide +kernel
theorem dX2_isBetween_1 : decode cX2_isBetween 1 = .ok (.iload_n 1, 1) := by decide +kernel
theorem dX2_isBetween_2 : decode cX2_isBetween 2 = .ok (.if_icmp .lt 12, 3) := by decide +kernel
theorem dX2_isBetween_5 : decode cX2_isBetween 5 = .ok (.iload_n 0, 1) := by decide +kernel
theorem dX2_isBetween_6 : decode cX2_isBetween 6 = .ok (.iload_n 2, 1) := by decide +kernel
theorem dX2_isBetween_7 : decode cX2_isBetween 7 = .ok (.if_icmp .gt 7, 3) := by decide +kernel
theorem dX2_isBetween_10 : decode cX2_isBetween 10 = .ok (.iconst 1, 1) := by decide +kernel
theorem dX2_isBetween_11 : decode cX2_isBetween 11 = .ok (.goto 4, 3) := by decide +kernel
theorem dX2_isBetween_14 : decode cX2_isBetween 14 = .ok (.iconst 0, 1) := by decide +kernel
theorem dX2_isBetween_15 : decode cX2_isBetween 15 = .ok (.ireturn, 1) := by decide +kernel
theorem dX3_init_0 : decode cX3_init 0 = .ok (.aload_n 0, 1) := by decide +kernel
theorem dX3_init_1 : decode cX3_init 1 = .ok (.invokespecial 1, 3) := by decide +kernel
theorem dX3_init_4 : decode cX3_init 4 = .ok (.aload_n 0, 1) := by decide +kernel
theorem dX3_init_5 : decode cX3_init 5 = .ok (.new 7, 3) := by decide +kernel
theorem dX3_init_8 : decode cX3_init 8 = .ok (.dup, 1) := by decide +kernel
theorem dX3_init_9 : decode cX3_init 9 = .ok (.invokespecial 9, 3) := by decide +kernel
theorem dX3_init_12 : decode cX3_init 12 = .ok (.putfield 10, 3) := by decide +kernel
theorem dX3_init_15 : decode cX3_init 15 = .ok (.aload_n 0, 1) := by decide +kernel
theorem dX3_init_16 : decode cX3_init 16 = .ok (.new 16, 3) := by decide +kernel
theorem dX3_init_19 : decode cX3_init 19 = .ok (.dup, 1) := by decide +kernel
theorem dX3_init_20 : decode cX3_init 20 = .ok (.invokespecial 18, 3) := by decide +kernel
theorem dX3_init_23 : decode cX3_init 23 = .ok (.putfield 19, 3) := by decide +kernel
theorem dX3_init_26 : decode cX3_init 26 = .ok (.aload_n 0, 1) := by decide +kernel
theorem dX3_init_27 : decode cX3_init 27 = .ok (.new 23, 3) := by decide +kernel
theorem dX3_init_30 : decode cX3_init 30 = .ok (.dup, 1) := by decide +kernel
theorem dX3_init_31 : decode cX3_init 31 = .ok (.invokespecial 25, 3) := by decide +kernel
theorem dX3_init_34 : decode cX3_init 34 = .ok (.putfield 26, 3) := by decide +kernel
theorem dX3_init_37 : decode cX3_init 37 = .ok (.return_, 1) := by decide +kernel
theorem dX3_addTitle_0 : decode cX3_addTitle 0 = .ok (.aload_n 0, 1) := by decide +kernel
theorem dX3_addTitle_1 : decode cX3_addTitle 1 = .ok (.getfield 19, 3) := by decide +kernel
theorem dX3_addTitle_4 : decode cX3_addTitle 4 = .ok (.aload_n 0, 1) := by decide +kernel
theorem dX3_addTitle_5 : decode cX3_addTitle 5 = .ok (.getfield 10, 3) := by decide +kernel
theorem dX3_addTitle_8 : decode cX3_addTitle 8 = .ok (.invokevirtual 30, 3) := by decide +kernel
theorem dX3_addTitle_11 : decode cX3_addTitle 11 = .ok (.aload_n 0, 1) := by decide +kernel
theorem dX3_addTitle_12 : decode cX3_addTitle 12 = .ok (.getfield 19, 3) := by decide +kernel
theorem dX3_addTitle_15 : decode cX3_addTitle 15 = .ok (.aload_n 0, 1) := by decide +kernel
theorem dX3_addTitle_16 : decode cX3_addTitle 16 = .ok (.getfield 10, 3) := by decide +kernel
theorem dX3_addTitle_19 : decode cX3_addTitle 19 = .ok (.iload_n 1, 1) := by decide +kernel
theorem dX3_addTitle_20 : decode cX3_addTitle 20 = .ok (.iload_n 2, 1) := by decide +kernel
theorem dX3_addTitle_21 : decode cX3_addTitle 21 = .ok (.invokevirtual 34, 3) := by decide +kernel
theorem dX3_addTitle_24 : decode cX3_addTitle 24 = .ok (.invokevirtual 38, 3) := by decide +kernel
theorem dX3_addTitle_27 : decode cX3_addTitle 27 = .ok (.ireturn, 1) := by decide +kernel
theorem dX3_setPrice_0 : decode cX3_setPrice 0 = .ok (.aload_n 0, 1) := by decide +kernel
theorem dX3_setPrice_1 : decode cX3_setPrice 1 = .ok (.getfield 19, 3) := by decide +kernel
theorem dX3_setPrice_4 : decode cX3_setPrice 4 = .ok (.aload_n 0, 1) := by decide +kernel
theorem dX3_setPrice_5 : decode cX3_setPrice 5 = .ok (.getfield 10, 3) := by decide +kernel
theorem dX3_setPrice_8 : decode cX3_setPrice 8 = .ok (.invokevirtual 30, 3) := by decide +kernel
theorem dX3_setPrice_11 : decode cX3_setPrice 11 = .ok (.aload_n 0, 1) := by decide +kernel
theorem dX3_setPrice_12 : decode cX3_setPrice 12 = .ok (.getfield 19, 3) := by decide +kernel
theorem dX3_setPrice_15 : decode cX3_setPrice 15 = .ok (.aload_n 0, 1) := by decide +kernel
theorem dX3_setPrice_16 : decode cX3_setPrice 16 = .ok (.getfield 10, 3) := by decide +kernel
theorem dX3_setPrice_19 : decode cX3_setPrice 19 = .ok (.iload_n 1, 1) := by decide +kernel
theorem dX3_setPrice_20 : decode cX3_setPrice 20 = .ok (.iload_n 2, 1) := by decide +kernel
theorem dX3_setPrice_21 : decode cX3_setPrice 21 = .ok (.invokevirtual 42, 3) := by decide +kernel
theorem dX3_setPrice_24 : decode cX3_setPrice 24 = .ok (.invokevirtual 38, 3) := by decide +kernel
theorem dX3_setPrice_27 : decode cX3_setPrice 27 = .ok (.ireturn, 1) := by decide +kernel
theorem dX3_newEdition_0 : decode cX3_newEdition 0 = .ok (.aload_n 0, 1) := by decide +kernel
theorem dX3_newEdition_1 : decode cX3_newEdition 1 = .ok (.getfield 19, 3) := by decide +kernel
theorem dX3_newEdition_4 : decode cX3_newEdition 4 = .ok (.aload_n 0, 1) := by decide +kernel
theorem dX3_newEdition_5 : decode cX3_newEdition 5 = .ok (.getfield 10, 3) := by decide +kernel
theorem dX3_newEdition_8 : decode cX3_newEdition 8 = .ok (.invokevirtual 30, 3) := by decide +kernel
theorem dX3_newEdition_11 : decode cX3_newEdition 11 = .ok (.aload_n 0, 1) := by decide +kernel
theorem dX3_newEdition_12 : decode cX3_newEdition 12 = .ok (.getfield 19, 3) := by decide +kernel
theorem dX3_newEdition_15 : decode cX3_newEdition 15 = .ok (.aload_n 0, 1) := by decide +kernel
theorem dX3_newEdition_16 : decode cX3_newEdition 16 = .ok (.getfield 10, 3) := by decide +kernel
theorem dX3_newEdition_19 : decode cX3_newEdition 19 = .ok (.iload_n 1, 1) := by decide +kernel
theorem dX3_newEdition_20 : decode cX3_newEdition 20 = .ok (.invokevirtual 45, 3) := by decide +kernel
theorem dX3_newEdition_23 : decode cX3_newEdition 23 = .ok (.invokevirtual 38, 3) := by decide +kernel
theorem dX3_newEdition_26 : decode cX3_newEdition 26 = .ok (.ireturn, 1) := by decide +kernel
theorem dX3_addCourse_0 : decode cX3_addCourse 0 = .ok (.aload_n 0, 1) := by decide +kernel
theorem dX3_addCourse_1 : decode cX3_addCourse 1 = .ok (.getfield 19, 3) := by decide +kernel
theorem dX3_addCourse_4 : decode cX3_addCourse 4 = .ok (.aload_n 0, 1) := by decide +kernel
theorem dX3_addCourse_5 : decode cX3_addCourse 5 = .ok (.getfield 10, 3) := by decide +kernel
theorem dX3_addCourse_8 : decode cX3_addCourse 8 = .ok (.invokevirtual 30, 3) := by decide +kernel
theorem dX3_addCourse_11 : decode cX3_addCourse 11 = .ok (.aload_n 0, 1) := by decide +kernel
theorem dX3_addCourse_12 : decode cX3_addCourse 12 = .ok (.getfield 19, 3) := by decide +kernel
theorem dX3_addCourse_15 : decode cX3_addCourse 15 = .ok (.aload_n 0, 1) := by decide +kernel
theorem dX3_addCourse_16 : decode cX3_addCourse 16 = .ok (.getfield 10, 3) := by decide +kernel
theorem dX3_addCourse_19 : decode cX3_addCourse 19 = .ok (.iload_n 1, 1) := by decide +kernel
theorem dX3_addCourse_20 : decode cX3_addCourse 20 = .ok (.iload_n 2, 1) := by decide +kernel
theorem dX3_addCourse_21 : decode cX3_addCourse 21 = .ok (.iload_n 3, 1) := by decide +kernel
theorem dX3_addCourse_22 : decode cX3_addCourse 22 = .ok (.invokevirtual 48, 3) := by decide +kernel
theorem dX3_addCourse_25 : decode cX3_addCourse 25 = .ok (.invokevirtual 38, 3) := by decide +kernel
theorem dX3_addCourse_28 : decode cX3_addCourse 28 = .ok (.ireturn, 1) := by decide +kernel
theorem dX3_setCourse_0 : decode cX3_setCourse 0 = .ok (.aload_n 0, 1) := by decide +kernel
theorem dX3_setCourse_1 : decode cX3_setCourse 1 = .ok (.getfield 19, 3) := by decide +kernel
theorem dX3_setCourse_4 : decode cX3_setCourse 4 = .ok (.aload_n 0, 1) := by decide +kernel
theorem dX3_setCourse_5 : decode cX3_setCourse 5 = .ok (.getfield 10, 3) := by decide +kernel
theorem dX3_setCourse_8 : decode cX3_setCourse 8 = .ok (.invokevirtual 30, 3) := by decide +kernel
theorem dX3_setCourse_11 : decode cX3_setCourse 11 = .ok (.aload_n 0, 1) := by decide +kernel
theorem dX3_setCourse_12 : decode cX3_setCourse 12 = .ok (.getfield 19, 3) := by decide +kernel
theorem dX3_setCourse_15 : decode cX3_setCourse 15 = .ok (.aload_n 0, 1) := by decide +kernel
theorem dX3_setCourse_16 : decode cX3_setCourse 16 = .ok (.getfield 10, 3) := by decide +kernel
theorem dX3_setCourse_19 : decode cX3_setCourse 19 = .ok (.iload_n 1, 1) := by decide +kernel
theorem dX3_setCourse_20 : decode cX3_setCourse 20 = .ok (.iload_n 2, 1) := by decide +kernel
theorem dX3_setCourse_21 : decode cX3_setCourse 21 = .ok (.iload_n 3, 1) := by decide +kernel
theorem dX3_setCourse_22 : decode cX3_setCourse 22 = .ok (.invokevirtual 52, 3) := by decide +kernel
theorem dX3_setCourse_25 : decode cX3_setCourse 25 = .ok (.invokevirtual 38, 3) := by decide +kernel
theorem dX3_setCourse_28 : decode cX3_setCourse 28 = .ok (.ireturn, 1) := by decide +kernel
theorem dX3_set_0 : decode cX3_set 0 = .ok (.aload_n 0, 1) := by decide +kernel
theorem dX3_set_1 : decode cX3_set 1 = .ok (.getfield 19, 3) := by decide +kernel
theorem dX3_set_4 : decode cX3_set 4 = .ok (.aload_n 0, 1) := by decide +kernel
theorem dX3_set_5 : decode cX3_set 5 = .ok (.getfield 10, 3) := by decide +kernel
theorem dX3_set_8 : decode cX3_set 8 = .ok (.invokevirtual 30, 3) := by decide +kernel
theorem dX3_set_11 : decode cX3_set 11 = .ok (.aload_n 0, 1) := by decide +kernel
theorem dX3_set_12 : decode cX3_set 12 = .ok (.getfield 19, 3) := by decide +kernel
theorem dX3_set_15 : decode cX3_set 15 = .ok (.aload_n 0, 1) := by decide +kernel
theorem dX3_set_16 : decode cX3_set 16 = .ok (.getfield 10, 3) := by decide +kernel
theorem dX3_set_19 : decode cX3_set 19 = .ok (.iload_n 1, 1) := by decide +kernel
theorem dX3_set_20 : decode cX3_set 20 = .ok (.iload_n 2, 1) := by decide +kernel
theorem dX3_set_21 : decode cX3_set 21 = .ok (.invokevirtual 55, 3) := by decide +kernel
theorem dX3_set_24 : decode cX3_set 24 = .ok (.invokevirtual 38, 3) := by decide +kernel
theorem dX3_set_27 : decode cX3_set 27 = .ok (.ireturn, 1) := by decide +kernel
theorem dX3_count_0 : decode cX3_count 0 = .ok (.aload_n 0, 1) := by decide +kernel
theorem dX3_count_1 : decode cX3_count 1 = .ok (.getfield 10, 3) := by decide +kernel
theorem dX3_count_4 : decode cX3_count 4 = .ok (.iload_n 1, 1) := by decide +kernel
theorem dX3_count_5 : decode cX3_count 5 = .ok (.invokevirtual 58, 3) := by decide +kernel
theorem dX3_count_8 : decode cX3_count 8 = .ok (.ireturn, 1) := by decide +kernel
theorem dX3_title_0 : decode cX3_title 0 = .ok (.aload_n 0, 1) := by decide +kernel
theorem dX3_title_1 : decode cX3_title 1 = .ok (.getfield 10, 3) := by decide +kernel
theorem dX3_title_4 : decode cX3_title 4 = .ok (.iload_n 1, 1) := by decide +kernel
theorem dX3_title_5 : decode cX3_title 5 = .ok (.iload_n 2, 1) := by decide +kernel
theorem dX3_title_6 : decode cX3_title 6 = .ok (.invokevirtual 61, 3) := by decide +kernel
theorem dX3_title_9 : decode cX3_title 9 = .ok (.ireturn, 1) := by decide +kernel
theorem dX3_course_0 : decode cX3_course 0 = .ok (.aload_n 0, 1) := by decide +kernel
theorem dX3_course_1 : decode cX3_course 1 = .ok (.getfield 10, 3) := by decide +kernel
theorem dX3_course_4 : decode cX3_course 4 = .ok (.iload_n 1, 1) := by decide +kernel
theorem dX3_course_5 : decode cX3_course 5 = .ok (.iload_n 2, 1) := by decide +kernel
theorem dX3_course_6 : decode cX3_course 6 = .ok (.invokevirtual 64, 3) := by decide +kernel
theorem dX3_course_9 : decode cX3_course 9 = .ok (.ireturn, 1) := by decide +kernel
theorem dX3_copy_0 : decode cX3_copy 0 = .ok (.aload_n 0, 1) := by decide +kernel
theorem dX3_copy_1 : decode cX3_copy 1 = .ok (.getfield 10, 3) := by decide +kernel
theorem dX3_copy_4 : decode cX3_copy 4 = .ok (.iload_n 1, 1) := by decide +kernel
theorem dX3_copy_5 : decode cX3_copy 5 = .ok (.iload_n 2, 1) := by decide +kernel
theorem dX3_copy_6 : decode cX3_copy 6 = .ok (.invokevirtual 67, 3) := by decide +kernel
theorem dX3_copy_9 : decode cX3_copy 9 = .ok (.ireturn, 1) := by decide +kernel
theorem dX3_book_0 : decode cX3_book 0 = .ok (.aload_n 0, 1) := by decide +kernel
theorem dX3_book_1 : decode cX3_book 1 = .ok (.getfield 10, 3) := by decide +kernel
theorem dX3_book_4 : decode cX3_book 4 = .ok (.iload_n 1, 1) := by decide +kernel
theorem dX3_book_5 : decode cX3_book 5 = .ok (.invokevirtual 70, 3) := by decide +kernel
theorem dX3_book_8 : decode cX3_book 8 = .ok (.ireturn, 1) := by decide +kernel
theorem dX3_buy_0 : decode cX3_buy 0 = .ok (.aload_n 0, 1) := by decide +kernel
theorem dX3_buy_1 : decode cX3_buy 1 = .ok (.getfield 19, 3) := by decide +kernel
theorem dX3_buy_4 : decode cX3_buy 4 = .ok (.aload_n 0, 1) := by decide +kernel
theorem dX3_buy_5 : decode cX3_buy 5 = .ok (.getfield 10, 3) := by decide +kernel
theorem dX3_buy_8 : decode cX3_buy 8 = .ok (.invokevirtual 30, 3) := by decide +kernel
theorem dX3_buy_11 : decode cX3_buy 11 = .ok (.aload_n 0, 1) := by decide +kernel
theorem dX3_buy_12 : decode cX3_buy 12 = .ok (.getfield 19, 3) := by decide +kernel
theorem dX3_buy_15 : decode cX3_buy 15 = .ok (.aload_n 0, 1) := by decide +kernel
theorem dX3_buy_16 : decode cX3_buy 16 = .ok (.getfield 10, 3) := by decide +kernel
theorem dX3_buy_19 : decode cX3_buy 19 = .ok (.iload_n 1, 1) := by decide +kernel
theorem dX3_buy_20 : decode cX3_buy 20 = .ok (.iload_n 2, 1) := by decide +kernel
theorem dX3_buy_21 : decode cX3_buy 21 = .ok (.invokevirtual 73, 3) := by decide +kernel
theorem dX3_buy_24 : decode cX3_buy 24 = .ok (.invokevirtual 38, 3) := by decide +kernel
theorem dX3_buy_27 : decode cX3_buy 27 = .ok (.ireturn, 1) := by decide +kernel
theorem dX3_offer_0 : decode cX3_offer 0 = .ok (.aload_n 0, 1) := by decide +kernel
theorem dX3_offer_1 : decode cX3_offer 1 = .ok (.getfield 10, 3) := by decide +kernel
theorem dX3_offer_4 : decode cX3_offer 4 = .ok (.iload_n 1, 1) := by decide +kernel
theorem dX3_offer_5 : decode cX3_offer 5 = .ok (.iload_n 2, 1) := by decide +kernel
theorem dX3_offer_6 : decode cX3_offer 6 = .ok (.iload_n 3, 1) := by decide +kernel
theorem dX3_offer_7 : decode cX3_offer 7 = .ok (.invokevirtual 76, 3) := by decide +kernel
theorem dX3_offer_10 : decode cX3_offer 10 = .ok (.ireturn, 1) := by decide +kernel
theorem dX3_buyBack_0 : decode cX3_buyBack 0 = .ok (.aload_n 0, 1) := by decide +kernel
theorem dX3_buyBack_1 : decode cX3_buyBack 1 = .ok (.getfield 19, 3) := by decide +kernel
theorem dX3_buyBack_4 : decode cX3_buyBack 4 = .ok (.aload_n 0, 1) := by decide +kernel
theorem dX3_buyBack_5 : decode cX3_buyBack 5 = .ok (.getfield 10, 3) := by decide +kernel
theorem dX3_buyBack_8 : decode cX3_buyBack 8 = .ok (.invokevirtual 30, 3) := by decide +kernel
theorem dX3_buyBack_11 : decode cX3_buyBack 11 = .ok (.aload_n 0, 1) := by decide +kernel
theorem dX3_buyBack_12 : decode cX3_buyBack 12 = .ok (.getfield 19, 3) := by decide +kernel
theorem dX3_buyBack_15 : decode cX3_buyBack 15 = .ok (.aload_n 0, 1) := by decide +kernel
theorem dX3_buyBack_16 : decode cX3_buyBack 16 = .ok (.getfield 10, 3) := by decide +kernel
theorem dX3_buyBack_19 : decode cX3_buyBack 19 = .ok (.iload_n 1, 1) := by decide +kernel
theorem dX3_buyBack_20 : decode cX3_buyBack 20 = .ok (.iload_n 2, 1) := by decide +kernel
theorem dX3_buyBack_21 : decode cX3_buyBack 21 = .ok (.iload_n 3, 1) := by decide +kernel
theorem dX3_buyBack_22 : decode cX3_buyBack 22 = .ok (.invokevirtual 79, 3) := by decide +kernel
theorem dX3_buyBack_25 : decode cX3_buyBack 25 = .ok (.invokevirtual 38, 3) := by decide +kernel
theorem dX3_buyBack_28 : decode cX3_buyBack 28 = .ok (.ireturn, 1) := by decide +kernel
theorem dX3_sell_0 : decode cX3_sell 0 = .ok (.aload_n 0, 1) := by decide +kernel
theorem dX3_sell_1 : decode cX3_sell 1 = .ok (.getfield 19, 3) := by decide +kernel
theorem dX3_sell_4 : decode cX3_sell 4 = .ok (.aload_n 0, 1) := by decide +kernel
theorem dX3_sell_5 : decode cX3_sell 5 = .ok (.getfield 10, 3) := by decide +kernel
theorem dX3_sell_8 : decode cX3_sell 8 = .ok (.invokevirtual 30, 3) := by decide +kernel
theorem dX3_sell_11 : decode cX3_sell 11 = .ok (.aload_n 0, 1) := by decide +kernel
theorem dX3_sell_12 : decode cX3_sell 12 = .ok (.getfield 19, 3) := by decide +kernel
theorem dX3_sell_15 : decode cX3_sell 15 = .ok (.aload_n 0, 1) := by decide +kernel
theorem dX3_sell_16 : decode cX3_sell 16 = .ok (.getfield 10, 3) := by decide +kernel
theorem dX3_sell_19 : decode cX3_sell 19 = .ok (.iload_n 1, 1) := by decide +kernel
theorem dX3_sell_20 : decode cX3_sell 20 = .ok (.invokevirtual 82, 3) := by decide +kernel
theorem dX3_sell_23 : decode cX3_sell 23 = .ok (.invokevirtual 38, 3) := by decide +kernel
theorem dX3_sell_26 : decode cX3_sell 26 = .ok (.ireturn, 1) := by decide +kernel
theorem dX3_rent_0 : decode cX3_rent 0 = .ok (.aload_n 0, 1) := by decide +kernel
theorem dX3_rent_1 : decode cX3_rent 1 = .ok (.getfield 19, 3) := by decide +kernel
theorem dX3_rent_4 : decode cX3_rent 4 = .ok (.aload_n 0, 1) := by decide +kernel
theorem dX3_rent_5 : decode cX3_rent 5 = .ok (.getfield 10, 3) := by decide +kernel
theorem dX3_rent_8 : decode cX3_rent 8 = .ok (.invokevirtual 30, 3) := by decide +kernel
theorem dX3_rent_11 : decode cX3_rent 11 = .ok (.aload_n 0, 1) := by decide +kernel
theorem dX3_rent_12 : decode cX3_rent 12 = .ok (.getfield 19, 3) := by decide +kernel
theorem dX3_rent_15 : decode cX3_rent 15 = .ok (.aload_n 0, 1) := by decide +kernel
theorem dX3_rent_16 : decode cX3_rent 16 = .ok (.getfield 10, 3) := by decide +kernel
theorem dX3_rent_19 : decode cX3_rent 19 = .ok (.iload_n 1, 1) := by decide +kernel
theorem dX3_rent_20 : decode cX3_rent 20 = .ok (.iload_n 2, 1) := by decide +kernel
theorem dX3_rent_21 : decode cX3_rent 21 = .ok (.invokevirtual 85, 3) := by decide +kernel
theorem dX3_rent_24 : decode cX3_rent 24 = .ok (.invokevirtual 38, 3) := by decide +kernel
theorem dX3_rent_27 : decode cX3_rent 27 = .ok (.ireturn, 1) := by decide +kernel
theorem dX3_next_0 : decode cX3_next 0 = .ok (.aload_n 0, 1) := by decide +kernel
theorem dX3_next_1 : decode cX3_next 1 = .ok (.getfield 10, 3) := by decide +kernel
theorem dX3_next_4 : decode cX3_next 4 = .ok (.iload_n 1, 1) := by decide +kernel
theorem dX3_next_5 : decode cX3_next 5 = .ok (.invokevirtual 88, 3) := by decide +kernel
theorem dX3_next_8 : decode cX3_next 8 = .ok (.ireturn, 1) := by decide +kernel
theorem dX3_giveBack_0 : decode cX3_giveBack 0 = .ok (.aload_n 0, 1) := by decide +kernel
theorem dX3_giveBack_1 : decode cX3_giveBack 1 = .ok (.getfield 19, 3) := by decide +kernel
theorem dX3_giveBack_4 : decode cX3_giveBack 4 = .ok (.aload_n 0, 1) := by decide +kernel
theorem dX3_giveBack_5 : decode cX3_giveBack 5 = .ok (.getfield 10, 3) := by decide +kernel
theorem dX3_giveBack_8 : decode cX3_giveBack 8 = .ok (.invokevirtual 30, 3) := by decide +kernel
theorem dX3_giveBack_11 : decode cX3_giveBack 11 = .ok (.aload_n 0, 1) := by decide +kernel
theorem dX3_giveBack_12 : decode cX3_giveBack 12 = .ok (.getfield 19, 3) := by decide +kernel
theorem dX3_giveBack_15 : decode cX3_giveBack 15 = .ok (.aload_n 0, 1) := by decide +kernel
theorem dX3_giveBack_16 : decode cX3_giveBack 16 = .ok (.getfield 10, 3) := by decide +kernel
theorem dX3_giveBack_19 : decode cX3_giveBack 19 = .ok (.iload_n 1, 1) := by decide +kernel
theorem dX3_giveBack_20 : decode cX3_giveBack 20 = .ok (.iload_n 2, 1) := by decide +kernel
theorem dX3_giveBack_21 : decode cX3_giveBack 21 = .ok (.invokevirtual 91, 3) := by decide +kernel
theorem dX3_giveBack_24 : decode cX3_giveBack 24 = .ok (.invokevirtual 38, 3) := by decide +kernel
theorem dX3_giveBack_27 : decode cX3_giveBack 27 = .ok (.ireturn, 1) := by decide +kernel
theorem dX3_charge_0 : decode cX3_charge 0 = .ok (.aload_n 0, 1) := by decide +kernel
theorem dX3_charge_1 : decode cX3_charge 1 = .ok (.getfield 10, 3) := by decide +kernel
theorem dX3_charge_4 : decode cX3_charge 4 = .ok (.iload_n 1, 1) := by decide +kernel
theorem dX3_charge_5 : decode cX3_charge 5 = .ok (.iload_n 2, 1) := by decide +kernel
theorem dX3_charge_6 : decode cX3_charge 6 = .ok (.iload_n 3, 1) := by decide +kernel
theorem dX3_charge_7 : decode cX3_charge 7 = .ok (.invokevirtual 94, 3) := by decide +kernel
theorem dX3_charge_10 : decode cX3_charge 10 = .ok (.ireturn, 1) := by decide +kernel
theorem dX3_pass_0 : decode cX3_pass 0 = .ok (.aload_n 0, 1) := by decide +kernel
theorem dX3_pass_1 : decode cX3_pass 1 = .ok (.getfield 19, 3) := by decide +kernel
theorem dX3_pass_4 : decode cX3_pass 4 = .ok (.aload_n 0, 1) := by decide +kernel
theorem dX3_pass_5 : decode cX3_pass 5 = .ok (.getfield 10, 3) := by decide +kernel
theorem dX3_pass_8 : decode cX3_pass 8 = .ok (.invokevirtual 30, 3) := by decide +kernel
theorem dX3_pass_11 : decode cX3_pass 11 = .ok (.aload_n 0, 1) := by decide +kernel
theorem dX3_pass_12 : decode cX3_pass 12 = .ok (.getfield 19, 3) := by decide +kernel
theorem dX3_pass_15 : decode cX3_pass 15 = .ok (.aload_n 0, 1) := by decide +kernel
theorem dX3_pass_16 : decode cX3_pass 16 = .ok (.getfield 10, 3) := by decide +kernel
theorem dX3_pass_19 : decode cX3_pass 19 = .ok (.iload_n 1, 1) := by decide +kernel
theorem dX3_pass_20 : decode cX3_pass 20 = .ok (.invokevirtual 97, 3) := by decide +kernel
theorem dX3_pass_23 : decode cX3_pass 23 = .ok (.invokevirtual 38, 3) := by decide +kernel
theorem dX3_pass_26 : decode cX3_pass 26 = .ok (.ireturn, 1) := by decide +kernel
theorem dX3_shelf_0 : decode cX3_shelf 0 = .ok (.aload_n 0, 1) := by decide +kernel
theorem dX3_shelf_1 : decode cX3_shelf 1 = .ok (.getfield 19, 3) := by decide +kernel
theorem dX3_shelf_4 : decode cX3_shelf 4 = .ok (.aload_n 0, 1) := by decide +kernel
theorem dX3_shelf_5 : decode cX3_shelf 5 = .ok (.getfield 10, 3) := by decide +kernel
theorem dX3_shelf_8 : decode cX3_shelf 8 = .ok (.invokevirtual 30, 3) := by decide +kernel
theorem dX3_shelf_11 : decode cX3_shelf 11 = .ok (.aload_n 0, 1) := by decide +kernel
theorem dX3_shelf_12 : decode cX3_shelf 12 = .ok (.getfield 19, 3) := by decide +kernel
theorem dX3_shelf_15 : decode cX3_shelf 15 = .ok (.aload_n 0, 1) := by decide +kernel
theorem dX3_shelf_16 : decode cX3_shelf 16 = .ok (.getfield 10, 3) := by decide +kernel
theorem dX3_shelf_19 : decode cX3_shelf 19 = .ok (.iload_n 1, 1) := by decide +kernel
theorem dX3_shelf_20 : decode cX3_shelf 20 = .ok (.iload_n 2, 1) := by decide +kernel
theorem dX3_shelf_21 : decode cX3_shelf 21 = .ok (.invokevirtual 100, 3) := by decide +kernel
theorem dX3_shelf_24 : decode cX3_shelf 24 = .ok (.invokevirtual 38, 3) := by decide +kernel
theorem dX3_shelf_27 : decode cX3_shelf 27 = .ok (.ireturn, 1) := by decide +kernel
theorem dX3_customer_0 : decode cX3_customer 0 = .ok (.aload_n 0, 1) := by decide +kernel
theorem dX3_customer_1 : decode cX3_customer 1 = .ok (.getfield 10, 3) := by decide +kernel
theorem dX3_customer_4 : decode cX3_customer 4 = .ok (.iload_n 1, 1) := by decide +kernel
theorem dX3_customer_5 : decode cX3_customer 5 = .ok (.iload_n 2, 1) := by decide +kernel
theorem dX3_customer_6 : decode cX3_customer 6 = .ok (.invokevirtual 103, 3) := by decide +kernel
theorem dX3_customer_9 : decode cX3_customer 9 = .ok (.ireturn, 1) := by decide +kernel
theorem dX3_lostIn_0 : decode cX3_lostIn 0 = .ok (.aload_n 0, 1) := by decide +kernel
theorem dX3_lostIn_1 : decode cX3_lostIn 1 = .ok (.getfield 10, 3) := by decide +kernel
theorem dX3_lostIn_4 : decode cX3_lostIn 4 = .ok (.iload_n 1, 1) := by decide +kernel
theorem dX3_lostIn_5 : decode cX3_lostIn 5 = .ok (.invokevirtual 106, 3) := by decide +kernel
theorem dX3_lostIn_8 : decode cX3_lostIn 8 = .ok (.ireturn, 1) := by decide +kernel
theorem dX3_agingOf_0 : decode cX3_agingOf 0 = .ok (.aload_n 0, 1) := by decide +kernel
theorem dX3_agingOf_1 : decode cX3_agingOf 1 = .ok (.getfield 10, 3) := by decide +kernel
theorem dX3_agingOf_4 : decode cX3_agingOf 4 = .ok (.iload_n 1, 1) := by decide +kernel
theorem dX3_agingOf_5 : decode cX3_agingOf 5 = .ok (.invokevirtual 109, 3) := by decide +kernel
theorem dX3_agingOf_8 : decode cX3_agingOf 8 = .ok (.ireturn, 1) := by decide +kernel
theorem dX3_served_0 : decode cX3_served 0 = .ok (.aload_n 0, 1) := by decide +kernel
theorem dX3_served_1 : decode cX3_served 1 = .ok (.getfield 10, 3) := by decide +kernel
theorem dX3_served_4 : decode cX3_served 4 = .ok (.invokevirtual 112, 3) := by decide +kernel
theorem dX3_served_7 : decode cX3_served 7 = .ok (.ireturn, 1) := by decide +kernel
theorem dX3_undo_0 : decode cX3_undo 0 = .ok (.aload_n 0, 1) := by decide +kernel
theorem dX3_undo_1 : decode cX3_undo 1 = .ok (.getfield 19, 3) := by decide +kernel
theorem dX3_undo_4 : decode cX3_undo 4 = .ok (.aload_n 0, 1) := by decide +kernel
theorem dX3_undo_5 : decode cX3_undo 5 = .ok (.getfield 10, 3) := by decide +kernel
theorem dX3_undo_8 : decode cX3_undo 8 = .ok (.invokevirtual 116, 3) := by decide +kernel
theorem dX3_undo_11 : decode cX3_undo 11 = .ok (.ireturn, 1) := by decide +kernel
theorem dX3_orders_0 : decode cX3_orders 0 = .ok (.aload_n 0, 1) := by decide +kernel
theorem dX3_orders_1 : decode cX3_orders 1 = .ok (.getfield 26, 3) := by decide +kernel
theorem dX3_orders_4 : decode cX3_orders 4 = .ok (.invokevirtual 126, 3) := by decide +kernel
theorem dX3_orders_7 : decode cX3_orders 7 = .ok (.iconst (-1), 1) := by decide +kernel
theorem dX3_orders_8 : decode cX3_orders 8 = .ok (.if_icmp .eq 6, 3) := by decide +kernel
theorem dX3_orders_11 : decode cX3_orders 11 = .ok (.bipush (-4), 2) := by decide +kernel
theorem dX3_orders_13 : decode cX3_orders 13 = .ok (.ireturn, 1) := by decide +kernel
theorem dX3_orders_14 : decode cX3_orders 14 = .ok (.aload_n 0, 1) := by decide +kernel
theorem dX3_orders_15 : decode cX3_orders 15 = .ok (.getfield 19, 3) := by decide +kernel
theorem dX3_orders_18 : decode cX3_orders 18 = .ok (.aload_n 0, 1) := by decide +kernel
theorem dX3_orders_19 : decode cX3_orders 19 = .ok (.getfield 10, 3) := by decide +kernel
theorem dX3_orders_22 : decode cX3_orders 22 = .ok (.invokevirtual 30, 3) := by decide +kernel
theorem dX3_orders_25 : decode cX3_orders 25 = .ok (.aload_n 0, 1) := by decide +kernel
theorem dX3_orders_26 : decode cX3_orders 26 = .ok (.getfield 26, 3) := by decide +kernel
theorem dX3_orders_29 : decode cX3_orders 29 = .ok (.invokevirtual 129, 3) := by decide +kernel
theorem dX3_orders_32 : decode cX3_orders 32 = .ok (.iconst 0, 1) := by decide +kernel
theorem dX3_orders_33 : decode cX3_orders 33 = .ok (.istore_n 1, 1) := by decide +kernel
theorem dX3_orders_34 : decode cX3_orders 34 = .ok (.iload_n 1, 1) := by decide +kernel
theorem dX3_orders_35 : decode cX3_orders 35 = .ok (.bipush 100, 2) := by decide +kernel
theorem dX3_orders_37 : decode cX3_orders 37 = .ok (.if_icmp .ge 37, 3) := by decide +kernel
theorem dX3_orders_40 : decode cX3_orders 40 = .ok (.aload_n 0, 1) := by decide +kernel
theorem dX3_orders_41 : decode cX3_orders 41 = .ok (.getfield 26, 3) := by decide +kernel
theorem dX3_orders_44 : decode cX3_orders 44 = .ok (.invokevirtual 132, 3) := by decide +kernel
theorem dX3_orders_47 : decode cX3_orders 47 = .ok (.ifCond .eq 27, 3) := by decide +kernel
theorem dX3_orders_50 : decode cX3_orders 50 = .ok (.aload_n 0, 1) := by decide +kernel
theorem dX3_orders_51 : decode cX3_orders 51 = .ok (.getfield 26, 3) := by decide +kernel
theorem dX3_orders_54 : decode cX3_orders 54 = .ok (.invokevirtual 136, 3) := by decide +kernel
theorem dX3_orders_57 : decode cX3_orders 57 = .ok (.iconst (-1), 1) := by decide +kernel
theorem dX3_orders_58 : decode cX3_orders 58 = .ok (.if_icmp .ne 16, 3) := by decide +kernel
theorem dX3_orders_61 : decode cX3_orders 61 = .ok (.aload_n 0, 1) := by decide +kernel
theorem dX3_orders_62 : decode cX3_orders 62 = .ok (.invokevirtual 139, 3) := by decide +kernel
theorem dX3_orders_65 : decode cX3_orders 65 = .ok (.ifCond .lt 9, 3) := by decide +kernel
theorem dX3_orders_68 : decode cX3_orders 68 = .ok (.iinc 1 1, 3) := by decide +kernel
theorem dX3_orders_71 : decode cX3_orders 71 = .ok (.goto (-37), 3) := by decide +kernel
theorem dX3_orders_74 : decode cX3_orders 74 = .ok (.aload_n 0, 1) := by decide +kernel
theorem dX3_orders_75 : decode cX3_orders 75 = .ok (.getfield 19, 3) := by decide +kernel
theorem dX3_orders_78 : decode cX3_orders 78 = .ok (.iload_n 1, 1) := by decide +kernel
theorem dX3_orders_79 : decode cX3_orders 79 = .ok (.invokevirtual 38, 3) := by decide +kernel
theorem dX3_orders_82 : decode cX3_orders 82 = .ok (.ireturn, 1) := by decide +kernel
theorem dX3_digest_0 : decode cX3_digest 0 = .ok (.ldc2_w 142, 3) := by decide +kernel
theorem dX3_digest_3 : decode cX3_digest 3 = .ok (.lstore_n 1, 1) := by decide +kernel
theorem dX3_digest_4 : decode cX3_digest 4 = .ok (.iconst 0, 1) := by decide +kernel
theorem dX3_digest_5 : decode cX3_digest 5 = .ok (.istore_n 3, 1) := by decide +kernel
theorem dX3_digest_6 : decode cX3_digest 6 = .ok (.iload_n 3, 1) := by decide +kernel
theorem dX3_digest_7 : decode cX3_digest 7 = .ok (.bipush 13, 2) := by decide +kernel
theorem dX3_digest_9 : decode cX3_digest 9 = .ok (.if_icmp .gt 25, 3) := by decide +kernel
theorem dX3_digest_12 : decode cX3_digest 12 = .ok (.ldc2_w 144, 3) := by decide +kernel
theorem dX3_digest_15 : decode cX3_digest 15 = .ok (.lload_n 1, 1) := by decide +kernel
theorem dX3_digest_16 : decode cX3_digest 16 = .ok (.lmul, 1) := by decide +kernel
theorem dX3_digest_17 : decode cX3_digest 17 = .ok (.aload_n 0, 1) := by decide +kernel
theorem dX3_digest_18 : decode cX3_digest 18 = .ok (.getfield 10, 3) := by decide +kernel
theorem dX3_digest_21 : decode cX3_digest 21 = .ok (.iload_n 3, 1) := by decide +kernel
theorem dX3_digest_22 : decode cX3_digest 22 = .ok (.invokevirtual 58, 3) := by decide +kernel
theorem dX3_digest_25 : decode cX3_digest 25 = .ok (.i2l, 1) := by decide +kernel
theorem dX3_digest_26 : decode cX3_digest 26 = .ok (.ladd, 1) := by decide +kernel
theorem dX3_digest_27 : decode cX3_digest 27 = .ok (.lstore_n 1, 1) := by decide +kernel
theorem dX3_digest_28 : decode cX3_digest 28 = .ok (.iinc 3 1, 3) := by decide +kernel
theorem dX3_digest_31 : decode cX3_digest 31 = .ok (.goto (-25), 3) := by decide +kernel
theorem dX3_digest_34 : decode cX3_digest 34 = .ok (.iconst 0, 1) := by decide +kernel
theorem dX3_digest_35 : decode cX3_digest 35 = .ok (.istore_n 3, 1) := by decide +kernel
theorem dX3_digest_36 : decode cX3_digest 36 = .ok (.iload_n 3, 1) := by decide +kernel
theorem dX3_digest_37 : decode cX3_digest 37 = .ok (.aload_n 0, 1) := by decide +kernel
theorem dX3_digest_38 : decode cX3_digest 38 = .ok (.getfield 10, 3) := by decide +kernel
theorem dX3_digest_41 : decode cX3_digest 41 = .ok (.getfield 146, 3) := by decide +kernel
theorem dX3_digest_44 : decode cX3_digest 44 = .ok (.if_icmp .ge 43, 3) := by decide +kernel
theorem dX3_digest_47 : decode cX3_digest 47 = .ok (.iconst 0, 1) := by decide +kernel
theorem dX3_digest_48 : decode cX3_digest 48 = .ok (.istore 4, 2) := by decide +kernel
theorem dX3_digest_50 : decode cX3_digest 50 = .ok (.iload 4, 2) := by decide +kernel
theorem dX3_digest_52 : decode cX3_digest 52 = .ok (.bipush 6, 2) := by decide +kernel
theorem dX3_digest_54 : decode cX3_digest 54 = .ok (.if_icmp .gt 27, 3) := by decide +kernel
theorem dX3_digest_57 : decode cX3_digest 57 = .ok (.ldc2_w 144, 3) := by decide +kernel
theorem dX3_digest_60 : decode cX3_digest 60 = .ok (.lload_n 1, 1) := by decide +kernel
theorem dX3_digest_61 : decode cX3_digest 61 = .ok (.lmul, 1) := by decide +kernel
theorem dX3_digest_62 : decode cX3_digest 62 = .ok (.aload_n 0, 1) := by decide +kernel
theorem dX3_digest_63 : decode cX3_digest 63 = .ok (.getfield 10, 3) := by decide +kernel
theorem dX3_digest_66 : decode cX3_digest 66 = .ok (.iload_n 3, 1) := by decide +kernel
theorem dX3_digest_67 : decode cX3_digest 67 = .ok (.iload 4, 2) := by decide +kernel
theorem dX3_digest_69 : decode cX3_digest 69 = .ok (.invokevirtual 61, 3) := by decide +kernel
theorem dX3_digest_72 : decode cX3_digest 72 = .ok (.i2l, 1) := by decide +kernel
theorem dX3_digest_73 : decode cX3_digest 73 = .ok (.ladd, 1) := by decide +kernel
theorem dX3_digest_74 : decode cX3_digest 74 = .ok (.lstore_n 1, 1) := by decide +kernel
theorem dX3_digest_75 : decode cX3_digest 75 = .ok (.iinc 4 1, 3) := by decide +kernel
theorem dX3_digest_78 : decode cX3_digest 78 = .ok (.goto (-28), 3) := by decide +kernel
theorem dX3_digest_81 : decode cX3_digest 81 = .ok (.iinc 3 1, 3) := by decide +kernel
theorem dX3_digest_84 : decode cX3_digest 84 = .ok (.goto (-48), 3) := by decide +kernel
theorem dX3_digest_87 : decode cX3_digest 87 = .ok (.iconst 0, 1) := by decide +kernel
theorem dX3_digest_88 : decode cX3_digest 88 = .ok (.istore_n 3, 1) := by decide +kernel
theorem dX3_digest_89 : decode cX3_digest 89 = .ok (.iload_n 3, 1) := by decide +kernel
theorem dX3_digest_90 : decode cX3_digest 90 = .ok (.aload_n 0, 1) := by decide +kernel
theorem dX3_digest_91 : decode cX3_digest 91 = .ok (.getfield 10, 3) := by decide +kernel
theorem dX3_digest_94 : decode cX3_digest 94 = .ok (.getfield 150, 3) := by decide +kernel
theorem dX3_digest_97 : decode cX3_digest 97 = .ok (.if_icmp .ge 42, 3) := by decide +kernel
theorem dX3_digest_100 : decode cX3_digest 100 = .ok (.iconst 0, 1) := by decide +kernel
theorem dX3_digest_101 : decode cX3_digest 101 = .ok (.istore 4, 2) := by decide +kernel
theorem dX3_digest_103 : decode cX3_digest 103 = .ok (.iload 4, 2) := by decide +kernel
theorem dX3_digest_105 : decode cX3_digest 105 = .ok (.iconst 3, 1) := by decide +kernel
theorem dX3_digest_106 : decode cX3_digest 106 = .ok (.if_icmp .gt 27, 3) := by decide +kernel
theorem dX3_digest_109 : decode cX3_digest 109 = .ok (.ldc2_w 144, 3) := by decide +kernel
theorem dX3_digest_112 : decode cX3_digest 112 = .ok (.lload_n 1, 1) := by decide +kernel
theorem dX3_digest_113 : decode cX3_digest 113 = .ok (.lmul, 1) := by decide +kernel
theorem dX3_digest_114 : decode cX3_digest 114 = .ok (.aload_n 0, 1) := by decide +kernel
theorem dX3_digest_115 : decode cX3_digest 115 = .ok (.getfield 10, 3) := by decide +kernel
theorem dX3_digest_118 : decode cX3_digest 118 = .ok (.iload_n 3, 1) := by decide +kernel
theorem dX3_digest_119 : decode cX3_digest 119 = .ok (.iload 4, 2) := by decide +kernel
theorem dX3_digest_121 : decode cX3_digest 121 = .ok (.invokevirtual 64, 3) := by decide +kernel
theorem dX3_digest_124 : decode cX3_digest 124 = .ok (.i2l, 1) := by decide +kernel
theorem dX3_digest_125 : decode cX3_digest 125 = .ok (.ladd, 1) := by decide +kernel
theorem dX3_digest_126 : decode cX3_digest 126 = .ok (.lstore_n 1, 1) := by decide +kernel
theorem dX3_digest_127 : decode cX3_digest 127 = .ok (.iinc 4 1, 3) := by decide +kernel
theorem dX3_digest_130 : decode cX3_digest 130 = .ok (.goto (-27), 3) := by decide +kernel
theorem dX3_digest_133 : decode cX3_digest 133 = .ok (.iinc 3 1, 3) := by decide +kernel
theorem dX3_digest_136 : decode cX3_digest 136 = .ok (.goto (-47), 3) := by decide +kernel
theorem dX3_digest_139 : decode cX3_digest 139 = .ok (.iconst 0, 1) := by decide +kernel
theorem dX3_digest_140 : decode cX3_digest 140 = .ok (.istore_n 3, 1) := by decide +kernel
theorem dX3_digest_141 : decode cX3_digest 141 = .ok (.iload_n 3, 1) := by decide +kernel
theorem dX3_digest_142 : decode cX3_digest 142 = .ok (.aload_n 0, 1) := by decide +kernel
theorem dX3_digest_143 : decode cX3_digest 143 = .ok (.getfield 10, 3) := by decide +kernel
theorem dX3_digest_146 : decode cX3_digest 146 = .ok (.getfield 153, 3) := by decide +kernel
theorem dX3_digest_149 : decode cX3_digest 149 = .ok (.if_icmp .ge 43, 3) := by decide +kernel
theorem dX3_digest_152 : decode cX3_digest 152 = .ok (.iconst 0, 1) := by decide +kernel
theorem dX3_digest_153 : decode cX3_digest 153 = .ok (.istore 4, 2) := by decide +kernel
theorem dX3_digest_155 : decode cX3_digest 155 = .ok (.iload 4, 2) := by decide +kernel
theorem dX3_digest_157 : decode cX3_digest 157 = .ok (.bipush 10, 2) := by decide +kernel
theorem dX3_digest_159 : decode cX3_digest 159 = .ok (.if_icmp .gt 27, 3) := by decide +kernel
theorem dX3_digest_162 : decode cX3_digest 162 = .ok (.ldc2_w 144, 3) := by decide +kernel
theorem dX3_digest_165 : decode cX3_digest 165 = .ok (.lload_n 1, 1) := by decide +kernel
theorem dX3_digest_166 : decode cX3_digest 166 = .ok (.lmul, 1) := by decide +kernel
theorem dX3_digest_167 : decode cX3_digest 167 = .ok (.aload_n 0, 1) := by decide +kernel
theorem dX3_digest_168 : decode cX3_digest 168 = .ok (.getfield 10, 3) := by decide +kernel
theorem dX3_digest_171 : decode cX3_digest 171 = .ok (.iload_n 3, 1) := by decide +kernel
theorem dX3_digest_172 : decode cX3_digest 172 = .ok (.iload 4, 2) := by decide +kernel
theorem dX3_digest_174 : decode cX3_digest 174 = .ok (.invokevirtual 67, 3) := by decide +kernel
theorem dX3_digest_177 : decode cX3_digest 177 = .ok (.i2l, 1) := by decide +kernel
theorem dX3_digest_178 : decode cX3_digest 178 = .ok (.ladd, 1) := by decide +kernel
theorem dX3_digest_179 : decode cX3_digest 179 = .ok (.lstore_n 1, 1) := by decide +kernel
theorem dX3_digest_180 : decode cX3_digest 180 = .ok (.iinc 4 1, 3) := by decide +kernel
theorem dX3_digest_183 : decode cX3_digest 183 = .ok (.goto (-28), 3) := by decide +kernel
theorem dX3_digest_186 : decode cX3_digest 186 = .ok (.iinc 3 1, 3) := by decide +kernel
theorem dX3_digest_189 : decode cX3_digest 189 = .ok (.goto (-48), 3) := by decide +kernel
theorem dX3_digest_192 : decode cX3_digest 192 = .ok (.iconst 0, 1) := by decide +kernel
theorem dX3_digest_193 : decode cX3_digest 193 = .ok (.istore_n 3, 1) := by decide +kernel
theorem dX3_digest_194 : decode cX3_digest 194 = .ok (.iload_n 3, 1) := by decide +kernel
theorem dX3_digest_195 : decode cX3_digest 195 = .ok (.bipush 7, 2) := by decide +kernel
theorem dX3_digest_197 : decode cX3_digest 197 = .ok (.if_icmp .gt 25, 3) := by decide +kernel
theorem dX3_digest_200 : decode cX3_digest 200 = .ok (.ldc2_w 144, 3) := by decide +kernel
theorem dX3_digest_203 : decode cX3_digest 203 = .ok (.lload_n 1, 1) := by decide +kernel
theorem dX3_digest_204 : decode cX3_digest 204 = .ok (.lmul, 1) := by decide +kernel
theorem dX3_digest_205 : decode cX3_digest 205 = .ok (.aload_n 0, 1) := by decide +kernel
theorem dX3_digest_206 : decode cX3_digest 206 = .ok (.getfield 10, 3) := by decide +kernel
theorem dX3_digest_209 : decode cX3_digest 209 = .ok (.iload_n 3, 1) := by decide +kernel
theorem dX3_digest_210 : decode cX3_digest 210 = .ok (.invokevirtual 70, 3) := by decide +kernel
theorem dX3_digest_213 : decode cX3_digest 213 = .ok (.i2l, 1) := by decide +kernel
theorem dX3_digest_214 : decode cX3_digest 214 = .ok (.ladd, 1) := by decide +kernel
theorem dX3_digest_215 : decode cX3_digest 215 = .ok (.lstore_n 1, 1) := by decide +kernel
theorem dX3_digest_216 : decode cX3_digest 216 = .ok (.iinc 3 1, 3) := by decide +kernel
theorem dX3_digest_219 : decode cX3_digest 219 = .ok (.goto (-25), 3) := by decide +kernel
theorem dX3_digest_222 : decode cX3_digest 222 = .ok (.iconst 0, 1) := by decide +kernel
theorem dX3_digest_223 : decode cX3_digest 223 = .ok (.istore_n 3, 1) := by decide +kernel
theorem dX3_digest_224 : decode cX3_digest 224 = .ok (.iload_n 3, 1) := by decide +kernel
theorem dX3_digest_225 : decode cX3_digest 225 = .ok (.bipush 8, 2) := by decide +kernel
theorem dX3_digest_227 : decode cX3_digest 227 = .ok (.if_icmp .ge 42, 3) := by decide +kernel
theorem dX3_digest_230 : decode cX3_digest 230 = .ok (.iconst 0, 1) := by decide +kernel
theorem dX3_digest_231 : decode cX3_digest 231 = .ok (.istore 4, 2) := by decide +kernel
theorem dX3_digest_233 : decode cX3_digest 233 = .ok (.iload 4, 2) := by decide +kernel
theorem dX3_digest_235 : decode cX3_digest 235 = .ok (.iconst 2, 1) := by decide +kernel
theorem dX3_digest_236 : decode cX3_digest 236 = .ok (.if_icmp .gt 27, 3) := by decide +kernel
theorem dX3_digest_239 : decode cX3_digest 239 = .ok (.ldc2_w 144, 3) := by decide +kernel
theorem dX3_digest_242 : decode cX3_digest 242 = .ok (.lload_n 1, 1) := by decide +kernel
theorem dX3_digest_243 : decode cX3_digest 243 = .ok (.lmul, 1) := by decide +kernel
theorem dX3_digest_244 : decode cX3_digest 244 = .ok (.aload_n 0, 1) := by decide +kernel
theorem dX3_digest_245 : decode cX3_digest 245 = .ok (.getfield 10, 3) := by decide +kernel
theorem dX3_digest_248 : decode cX3_digest 248 = .ok (.iload_n 3, 1) := by decide +kernel
theorem dX3_digest_249 : decode cX3_digest 249 = .ok (.iload 4, 2) := by decide +kernel
theorem dX3_digest_251 : decode cX3_digest 251 = .ok (.invokevirtual 103, 3) := by decide +kernel
theorem dX3_digest_254 : decode cX3_digest 254 = .ok (.i2l, 1) := by decide +kernel
theorem dX3_digest_255 : decode cX3_digest 255 = .ok (.ladd, 1) := by decide +kernel
theorem dX3_digest_256 : decode cX3_digest 256 = .ok (.lstore_n 1, 1) := by decide +kernel
theorem dX3_digest_257 : decode cX3_digest 257 = .ok (.iinc 4 1, 3) := by decide +kernel
theorem dX3_digest_260 : decode cX3_digest 260 = .ok (.goto (-27), 3) := by decide +kernel
theorem dX3_digest_263 : decode cX3_digest 263 = .ok (.iinc 3 1, 3) := by decide +kernel
theorem dX3_digest_266 : decode cX3_digest 266 = .ok (.goto (-42), 3) := by decide +kernel
theorem dX3_digest_269 : decode cX3_digest 269 = .ok (.lload_n 1, 1) := by decide +kernel
theorem dX3_digest_270 : decode cX3_digest 270 = .ok (.lreturn, 1) := by decide +kernel
theorem dX3_carryOut_0 : decode cX3_carryOut 0 = .ok (.aload_n 0, 1) := by decide +kernel
theorem dX3_carryOut_1 : decode cX3_carryOut 1 = .ok (.getfield 26, 3) := by decide +kernel
theorem dX3_carryOut_4 : decode cX3_carryOut 4 = .ok (.invokevirtual 156, 3) := by decide +kernel
theorem dX3_carryOut_7 : decode cX3_carryOut 7 = .ok (.tableswitch 110 0 3 #[29, 51, 73, 95], 29) := by decide +kernel
theorem dX3_carryOut_36 : decode cX3_carryOut 36 = .ok (.aload_n 0, 1) := by decide +kernel
theorem dX3_carryOut_37 : decode cX3_carryOut 37 = .ok (.getfield 10, 3) := by decide +kernel
theorem dX3_carryOut_40 : decode cX3_carryOut 40 = .ok (.aload_n 0, 1) := by decide +kernel
theorem dX3_carryOut_41 : decode cX3_carryOut 41 = .ok (.getfield 26, 3) := by decide +kernel
theorem dX3_carryOut_44 : decode cX3_carryOut 44 = .ok (.invokevirtual 159, 3) := by decide +kernel
theorem dX3_carryOut_47 : decode cX3_carryOut 47 = .ok (.aload_n 0, 1) := by decide +kernel
theorem dX3_carryOut_48 : decode cX3_carryOut 48 = .ok (.getfield 26, 3) := by decide +kernel
theorem dX3_carryOut_51 : decode cX3_carryOut 51 = .ok (.invokevirtual 162, 3) := by decide +kernel
theorem dX3_carryOut_54 : decode cX3_carryOut 54 = .ok (.invokevirtual 85, 3) := by decide +kernel
theorem dX3_carryOut_57 : decode cX3_carryOut 57 = .ok (.ireturn, 1) := by decide +kernel
theorem dX3_carryOut_58 : decode cX3_carryOut 58 = .ok (.aload_n 0, 1) := by decide +kernel
theorem dX3_carryOut_59 : decode cX3_carryOut 59 = .ok (.getfield 10, 3) := by decide +kernel
theorem dX3_carryOut_62 : decode cX3_carryOut 62 = .ok (.aload_n 0, 1) := by decide +kernel
theorem dX3_carryOut_63 : decode cX3_carryOut 63 = .ok (.getfield 26, 3) := by decide +kernel
theorem dX3_carryOut_66 : decode cX3_carryOut 66 = .ok (.invokevirtual 159, 3) := by decide +kernel
theorem dX3_carryOut_69 : decode cX3_carryOut 69 = .ok (.aload_n 0, 1) := by decide +kernel
theorem dX3_carryOut_70 : decode cX3_carryOut 70 = .ok (.getfield 26, 3) := by decide +kernel
theorem dX3_carryOut_73 : decode cX3_carryOut 73 = .ok (.invokevirtual 162, 3) := by decide +kernel
theorem dX3_carryOut_76 : decode cX3_carryOut 76 = .ok (.invokevirtual 91, 3) := by decide +kernel
theorem dX3_carryOut_79 : decode cX3_carryOut 79 = .ok (.ireturn, 1) := by decide +kernel
theorem dX3_carryOut_80 : decode cX3_carryOut 80 = .ok (.aload_n 0, 1) := by decide +kernel
theorem dX3_carryOut_81 : decode cX3_carryOut 81 = .ok (.getfield 10, 3) := by decide +kernel
theorem dX3_carryOut_84 : decode cX3_carryOut 84 = .ok (.aload_n 0, 1) := by decide +kernel
theorem dX3_carryOut_85 : decode cX3_carryOut 85 = .ok (.getfield 26, 3) := by decide +kernel
theorem dX3_carryOut_88 : decode cX3_carryOut 88 = .ok (.invokevirtual 159, 3) := by decide +kernel
theorem dX3_carryOut_91 : decode cX3_carryOut 91 = .ok (.aload_n 0, 1) := by decide +kernel
theorem dX3_carryOut_92 : decode cX3_carryOut 92 = .ok (.getfield 26, 3) := by decide +kernel
theorem dX3_carryOut_95 : decode cX3_carryOut 95 = .ok (.invokevirtual 162, 3) := by decide +kernel
theorem dX3_carryOut_98 : decode cX3_carryOut 98 = .ok (.invokevirtual 73, 3) := by decide +kernel
theorem dX3_carryOut_101 : decode cX3_carryOut 101 = .ok (.ireturn, 1) := by decide +kernel
theorem dX3_carryOut_102 : decode cX3_carryOut 102 = .ok (.aload_n 0, 1) := by decide +kernel
theorem dX3_carryOut_103 : decode cX3_carryOut 103 = .ok (.getfield 10, 3) := by decide +kernel
theorem dX3_carryOut_106 : decode cX3_carryOut 106 = .ok (.aload_n 0, 1) := by decide +kernel
theorem dX3_carryOut_107 : decode cX3_carryOut 107 = .ok (.getfield 26, 3) := by decide +kernel
theorem dX3_carryOut_110 : decode cX3_carryOut 110 = .ok (.invokevirtual 159, 3) := by decide +kernel
theorem dX3_carryOut_113 : decode cX3_carryOut 113 = .ok (.invokevirtual 82, 3) := by decide +kernel
theorem dX3_carryOut_116 : decode cX3_carryOut 116 = .ok (.ireturn, 1) := by decide +kernel
theorem dX3_carryOut_117 : decode cX3_carryOut 117 = .ok (.aload_n 0, 1) := by decide +kernel
theorem dX3_carryOut_118 : decode cX3_carryOut 118 = .ok (.getfield 10, 3) := by decide +kernel
theorem dX3_carryOut_121 : decode cX3_carryOut 121 = .ok (.aload_n 0, 1) := by decide +kernel
theorem dX3_carryOut_122 : decode cX3_carryOut 122 = .ok (.getfield 26, 3) := by decide +kernel
theorem dX3_carryOut_125 : decode cX3_carryOut 125 = .ok (.invokevirtual 159, 3) := by decide +kernel
theorem dX3_carryOut_128 : decode cX3_carryOut 128 = .ok (.invokevirtual 97, 3) := by decide +kernel
theorem dX3_carryOut_131 : decode cX3_carryOut 131 = .ok (.ireturn, 1) := by decide +kernel
