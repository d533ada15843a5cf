theorem dX4_init_0 : decode cX4_init 0 = .ok (.aload_n 0, 1) := by decide +kernel
theorem dX4_init_1 : decode cX4_init 1 = .ok (.invokespecial 1, 3) := by decide +kernel
theorem dX4_init_4 : decode cX4_init 4 = .ok (.aload_n 0, 1) := by decide +kernel
theorem dX4_init_5 : decode cX4_init 5 = .ok (.sipush 2891, 3) := by decide +kernel
theorem dX4_init_8 : decode cX4_init 8 = .ok (.newarray .int, 2) := by decide +kernel
theorem dX4_init_10 : decode cX4_init 10 = .ok (.putfield 7, 3) := by decide +kernel
theorem dX4_init_13 : decode cX4_init 13 = .ok (.aload_n 0, 1) := by decide +kernel
theorem dX4_init_14 : decode cX4_init 14 = .ok (.iconst 4, 1) := by decide +kernel
theorem dX4_init_15 : decode cX4_init 15 = .ok (.newarray .int, 2) := by decide +kernel
theorem dX4_init_17 : decode cX4_init 17 = .ok (.dup, 1) := by decide +kernel
theorem dX4_init_18 : decode cX4_init 18 = .ok (.iconst 0, 1) := by decide +kernel
theorem dX4_init_19 : decode cX4_init 19 = .ok (.bipush 10, 2) := by decide +kernel
theorem dX4_init_21 : decode cX4_init 21 = .ok (.iastore, 1) := by decide +kernel
theorem dX4_init_22 : decode cX4_init 22 = .ok (.dup, 1) := by decide +kernel
theorem dX4_init_23 : decode cX4_init 23 = .ok (.iconst 1, 1) := by decide +kernel
theorem dX4_init_24 : decode cX4_init 24 = .ok (.iconst 0, 1) := by decide +kernel
theorem dX4_init_25 : decode cX4_init 25 = .ok (.iastore, 1) := by decide +kernel
theorem dX4_init_26 : decode cX4_init 26 = .ok (.dup, 1) := by decide +kernel
theorem dX4_init_27 : decode cX4_init 27 = .ok (.iconst 2, 1) := by decide +kernel
theorem dX4_init_28 : decode cX4_init 28 = .ok (.iconst 1, 1) := by decide +kernel
theorem dX4_init_29 : decode cX4_init 29 = .ok (.iastore, 1) := by decide +kernel
theorem dX4_init_30 : decode cX4_init 30 = .ok (.dup, 1) := by decide +kernel
theorem dX4_init_31 : decode cX4_init 31 = .ok (.iconst 3, 1) := by decide +kernel
theorem dX4_init_32 : decode cX4_init 32 = .ok (.iconst 0, 1) := by decide +kernel
theorem dX4_init_33 : decode cX4_init 33 = .ok (.iastore, 1) := by decide +kernel
theorem dX4_init_34 : decode cX4_init 34 = .ok (.putfield 13, 3) := by decide +kernel
theorem dX4_init_37 : decode cX4_init 37 = .ok (.aload_n 0, 1) := by decide +kernel
theorem dX4_init_38 : decode cX4_init 38 = .ok (.iconst 4, 1) := by decide +kernel
theorem dX4_init_39 : decode cX4_init 39 = .ok (.newarray .int, 2) := by decide +kernel
theorem dX4_init_41 : decode cX4_init 41 = .ok (.dup, 1) := by decide +kernel
theorem dX4_init_42 : decode cX4_init 42 = .ok (.iconst 0, 1) := by decide +kernel
theorem dX4_init_43 : decode cX4_init 43 = .ok (.sipush 200, 3) := by decide +kernel
theorem dX4_init_46 : decode cX4_init 46 = .ok (.iastore, 1) := by decide +kernel
theorem dX4_init_47 : decode cX4_init 47 = .ok (.dup, 1) := by decide +kernel
theorem dX4_init_48 : decode cX4_init 48 = .ok (.iconst 1, 1) := by decide +kernel
theorem dX4_init_49 : decode cX4_init 49 = .ok (.sipush 200, 3) := by decide +kernel
theorem dX4_init_52 : decode cX4_init 52 = .ok (.iastore, 1) := by decide +kernel
theorem dX4_init_53 : decode cX4_init 53 = .ok (.dup, 1) := by decide +kernel
theorem dX4_init_54 : decode cX4_init 54 = .ok (.iconst 2, 1) := by decide +kernel
theorem dX4_init_55 : decode cX4_init 55 = .ok (.bipush 60, 2) := by decide +kernel
theorem dX4_init_57 : decode cX4_init 57 = .ok (.iastore, 1) := by decide +kernel
theorem dX4_init_58 : decode cX4_init 58 = .ok (.dup, 1) := by decide +kernel
theorem dX4_init_59 : decode cX4_init 59 = .ok (.iconst 3, 1) := by decide +kernel
theorem dX4_init_60 : decode cX4_init 60 = .ok (.bipush 50, 2) := by decide +kernel
theorem dX4_init_62 : decode cX4_init 62 = .ok (.iastore, 1) := by decide +kernel
theorem dX4_init_63 : decode cX4_init 63 = .ok (.putfield 16, 3) := by decide +kernel
theorem dX4_init_66 : decode cX4_init 66 = .ok (.aload_n 0, 1) := by decide +kernel
theorem dX4_init_67 : decode cX4_init 67 = .ok (.bipush 100, 2) := by decide +kernel
theorem dX4_init_69 : decode cX4_init 69 = .ok (.newarray .int, 2) := by decide +kernel
theorem dX4_init_71 : decode cX4_init 71 = .ok (.putfield 19, 3) := by decide +kernel
theorem dX4_init_74 : decode cX4_init 74 = .ok (.aload_n 0, 1) := by decide +kernel
theorem dX4_init_75 : decode cX4_init 75 = .ok (.getfield 7, 3) := by decide +kernel
theorem dX4_init_78 : decode cX4_init 78 = .ok (.iconst 4, 1) := by decide +kernel
theorem dX4_init_79 : decode cX4_init 79 = .ok (.bipush 100, 2) := by decide +kernel
theorem dX4_init_81 : decode cX4_init 81 = .ok (.iastore, 1) := by decide +kernel
theorem dX4_init_82 : decode cX4_init 82 = .ok (.aload_n 0, 1) := by decide +kernel
theorem dX4_init_83 : decode cX4_init 83 = .ok (.getfield 7, 3) := by decide +kernel
theorem dX4_init_86 : decode cX4_init 86 = .ok (.iconst 5, 1) := by decide +kernel
theorem dX4_init_87 : decode cX4_init 87 = .ok (.bipush 25, 2) := by decide +kernel
theorem dX4_init_89 : decode cX4_init 89 = .ok (.iastore, 1) := by decide +kernel
theorem dX4_init_90 : decode cX4_init 90 = .ok (.aload_n 0, 1) := by decide +kernel
theorem dX4_init_91 : decode cX4_init 91 = .ok (.getfield 7, 3) := by decide +kernel
theorem dX4_init_94 : decode cX4_init 94 = .ok (.bipush 6, 2) := by decide +kernel
theorem dX4_init_96 : decode cX4_init 96 = .ok (.bipush 30, 2) := by decide +kernel
theorem dX4_init_98 : decode cX4_init 98 = .ok (.iastore, 1) := by decide +kernel
theorem dX4_init_99 : decode cX4_init 99 = .ok (.aload_n 0, 1) := by decide +kernel
theorem dX4_init_100 : decode cX4_init 100 = .ok (.getfield 7, 3) := by decide +kernel
theorem dX4_init_103 : decode cX4_init 103 = .ok (.bipush 7, 2) := by decide +kernel
theorem dX4_init_105 : decode cX4_init 105 = .ok (.bipush 20, 2) := by decide +kernel
theorem dX4_init_107 : decode cX4_init 107 = .ok (.iastore, 1) := by decide +kernel
theorem dX4_init_108 : decode cX4_init 108 = .ok (.return_, 1) := by decide +kernel
theorem dX4_in_0 : decode cX4_in 0 = .ok (.iload_n 0, 1) := by decide +kernel
theorem dX4_in_1 : decode cX4_in 1 = .ok (.iload_n 1, 1) := by decide +kernel
theorem dX4_in_2 : decode cX4_in 2 = .ok (.if_icmp .lt 12, 3) := by decide +kernel
theorem dX4_in_5 : decode cX4_in 5 = .ok (.iload_n 0, 1) := by decide +kernel
theorem dX4_in_6 : decode cX4_in 6 = .ok (.iload_n 2, 1) := by decide +kernel
theorem dX4_in_7 : decode cX4_in 7 = .ok (.if_icmp .gt 7, 3) := by decide +kernel
theorem dX4_in_10 : decode cX4_in 10 = .ok (.iconst 1, 1) := by decide +kernel
theorem dX4_in_11 : decode cX4_in 11 = .ok (.goto 4, 3) := by decide +kernel
theorem dX4_in_14 : decode cX4_in 14 = .ok (.iconst 0, 1) := by decide +kernel
theorem dX4_in_15 : decode cX4_in 15 = .ok (.ireturn, 1) := by decide +kernel
theorem dX4_lesser_0 : decode cX4_lesser 0 = .ok (.iload_n 0, 1) := by decide +kernel
theorem dX4_lesser_1 : decode cX4_lesser 1 = .ok (.iload_n 1, 1) := by decide +kernel
theorem dX4_lesser_2 : decode cX4_lesser 2 = .ok (.if_icmp .ge 7, 3) := by decide +kernel
theorem dX4_lesser_5 : decode cX4_lesser 5 = .ok (.iload_n 0, 1) := by decide +kernel
theorem dX4_lesser_6 : decode cX4_lesser 6 = .ok (.goto 4, 3) := by decide +kernel
theorem dX4_lesser_9 : decode cX4_lesser 9 = .ok (.iload_n 1, 1) := by decide +kernel
theorem dX4_lesser_10 : decode cX4_lesser 10 = .ok (.ireturn, 1) := by decide +kernel
theorem dX4_copies_0 : decode cX4_copies 0 = .ok (.iconst 0, 1) := by decide +kernel
theorem dX4_copies_1 : decode cX4_copies 1 = .ok (.istore_n 3, 1) := by decide +kernel
theorem dX4_copies_2 : decode cX4_copies 2 = .ok (.iload_n 3, 1) := by decide +kernel
theorem dX4_copies_3 : decode cX4_copies 3 = .ok (.sipush 413, 3) := by decide +kernel
theorem dX4_copies_6 : decode cX4_copies 6 = .ok (.if_icmp .ge 33, 3) := by decide +kernel
theorem dX4_copies_9 : decode cX4_copies 9 = .ok (.aload_n 0, 1) := by decide +kernel
theorem dX4_copies_10 : decode cX4_copies 10 = .ok (.getfield 7, 3) := by decide +kernel
theorem dX4_copies_13 : decode cX4_copies 13 = .ok (.sipush 413, 3) := by decide +kernel
theorem dX4_copies_16 : decode cX4_copies 16 = .ok (.iload_n 2, 1) := by decide +kernel
theorem dX4_copies_17 : decode cX4_copies 17 = .ok (.imul, 1) := by decide +kernel
theorem dX4_copies_18 : decode cX4_copies 18 = .ok (.iload_n 3, 1) := by decide +kernel
theorem dX4_copies_19 : decode cX4_copies 19 = .ok (.iadd, 1) := by decide +kernel
theorem dX4_copies_20 : decode cX4_copies 20 = .ok (.aload_n 0, 1) := by decide +kernel
theorem dX4_copies_21 : decode cX4_copies 21 = .ok (.getfield 7, 3) := by decide +kernel
theorem dX4_copies_24 : decode cX4_copies 24 = .ok (.sipush 413, 3) := by decide +kernel
theorem dX4_copies_27 : decode cX4_copies 27 = .ok (.iload_n 1, 1) := by decide +kernel
theorem dX4_copies_28 : decode cX4_copies 28 = .ok (.imul, 1) := by decide +kernel
theorem dX4_copies_29 : decode cX4_copies 29 = .ok (.iload_n 3, 1) := by decide +kernel
theorem dX4_copies_30 : decode cX4_copies 30 = .ok (.iadd, 1) := by decide +kernel
theorem dX4_copies_31 : decode cX4_copies 31 = .ok (.iaload, 1) := by decide +kernel
theorem dX4_copies_32 : decode cX4_copies 32 = .ok (.iastore, 1) := by decide +kernel
theorem dX4_copies_33 : decode cX4_copies 33 = .ok (.iinc 3 1, 3) := by decide +kernel
theorem dX4_copies_36 : decode cX4_copies 36 = .ok (.goto (-34), 3) := by decide +kernel
theorem dX4_copies_39 : decode cX4_copies 39 = .ok (.return_, 1) := by decide +kernel
theorem dX4_saves_0 : decode cX4_saves 0 = .ok (.iconst 1, 1) := by decide +kernel
theorem dX4_saves_1 : decode cX4_saves 1 = .ok (.istore_n 1, 1) := by decide +kernel
theorem dX4_saves_2 : decode cX4_saves 2 = .ok (.iload_n 1, 1) := by decide +kernel
theorem dX4_saves_3 : decode cX4_saves 3 = .ok (.iconst 5, 1) := by decide +kernel
theorem dX4_saves_4 : decode cX4_saves 4 = .ok (.if_icmp .ge 25, 3) := by decide +kernel
theorem dX4_saves_7 : decode cX4_saves 7 = .ok (.aload_n 0, 1) := by decide +kernel
theorem dX4_saves_8 : decode cX4_saves 8 = .ok (.getfield 22, 3) := by decide +kernel
theorem dX4_saves_11 : decode cX4_saves 11 = .ok (.iconst 5, 1) := by decide +kernel
theorem dX4_saves_12 : decode cX4_saves 12 = .ok (.if_icmp .ne 17, 3) := by decide +kernel
theorem dX4_saves_15 : decode cX4_saves 15 = .ok (.aload_n 0, 1) := by decide +kernel
theorem dX4_saves_16 : decode cX4_saves 16 = .ok (.iload_n 1, 1) := by decide +kernel
theorem dX4_saves_17 : decode cX4_saves 17 = .ok (.iconst 1, 1) := by decide +kernel
theorem dX4_saves_18 : decode cX4_saves 18 = .ok (.iadd, 1) := by decide +kernel
theorem dX4_saves_19 : decode cX4_saves 19 = .ok (.iload_n 1, 1) := by decide +kernel
theorem dX4_saves_20 : decode cX4_saves 20 = .ok (.invokevirtual 26, 3) := by decide +kernel
theorem dX4_saves_23 : decode cX4_saves 23 = .ok (.iinc 1 1, 3) := by decide +kernel
theorem dX4_saves_26 : decode cX4_saves 26 = .ok (.goto (-24), 3) := by decide +kernel
theorem dX4_saves_29 : decode cX4_saves 29 = .ok (.aload_n 0, 1) := by decide +kernel
theorem dX4_saves_30 : decode cX4_saves 30 = .ok (.dup, 1) := by decide +kernel
theorem dX4_saves_31 : decode cX4_saves 31 = .ok (.getfield 22, 3) := by decide +kernel
theorem dX4_saves_34 : decode cX4_saves 34 = .ok (.aload_n 0, 1) := by decide +kernel
theorem dX4_saves_35 : decode cX4_saves 35 = .ok (.getfield 22, 3) := by decide +kernel
theorem dX4_saves_38 : decode cX4_saves 38 = .ok (.iconst 5, 1) := by decide +kernel
theorem dX4_saves_39 : decode cX4_saves 39 = .ok (.if_icmp .ne 7, 3) := by decide +kernel
theorem dX4_saves_42 : decode cX4_saves 42 = .ok (.iconst 1, 1) := by decide +kernel
theorem dX4_saves_43 : decode cX4_saves 43 = .ok (.goto 4, 3) := by decide +kernel
theorem dX4_saves_46 : decode cX4_saves 46 = .ok (.iconst 0, 1) := by decide +kernel
theorem dX4_saves_47 : decode cX4_saves 47 = .ok (.isub, 1) := by decide +kernel
theorem dX4_saves_48 : decode cX4_saves 48 = .ok (.putfield 22, 3) := by decide +kernel
theorem dX4_saves_51 : decode cX4_saves 51 = .ok (.aload_n 0, 1) := by decide +kernel
theorem dX4_saves_52 : decode cX4_saves 52 = .ok (.dup, 1) := by decide +kernel
theorem dX4_saves_53 : decode cX4_saves 53 = .ok (.getfield 22, 3) := by decide +kernel
theorem dX4_saves_56 : decode cX4_saves 56 = .ok (.iconst 1, 1) := by decide +kernel
theorem dX4_saves_57 : decode cX4_saves 57 = .ok (.iadd, 1) := by decide +kernel
theorem dX4_saves_58 : decode cX4_saves 58 = .ok (.putfield 22, 3) := by decide +kernel
theorem dX4_saves_61 : decode cX4_saves 61 = .ok (.aload_n 0, 1) := by decide +kernel
theorem dX4_saves_62 : decode cX4_saves 62 = .ok (.iconst 0, 1) := by decide +kernel
theorem dX4_saves_63 : decode cX4_saves 63 = .ok (.aload_n 0, 1) := by decide +kernel
theorem dX4_saves_64 : decode cX4_saves 64 = .ok (.getfield 22, 3) := by decide +kernel
theorem dX4_saves_67 : decode cX4_saves 67 = .ok (.invokevirtual 26, 3) := by decide +kernel
theorem dX4_saves_70 : decode cX4_saves 70 = .ok (.return_, 1) := by decide +kernel
theorem dX4_isTitle_0 : decode cX4_isTitle 0 = .ok (.iload_n 1, 1) := by decide +kernel
theorem dX4_isTitle_1 : decode cX4_isTitle 1 = .ok (.iconst 0, 1) := by decide +kernel
theorem dX4_isTitle_2 : decode cX4_isTitle 2 = .ok (.aload_n 0, 1) := by decide +kernel
theorem dX4_isTitle_3 : decode cX4_isTitle 3 = .ok (.getfield 7, 3) := by decide +kernel
theorem dX4_isTitle_6 : decode cX4_isTitle 6 = .ok (.iconst 0, 1) := by decide +kernel
theorem dX4_isTitle_7 : decode cX4_isTitle 7 = .ok (.iaload, 1) := by decide +kernel
theorem dX4_isTitle_8 : decode cX4_isTitle 8 = .ok (.iconst 1, 1) := by decide +kernel
theorem dX4_isTitle_9 : decode cX4_isTitle 9 = .ok (.isub, 1) := by decide +kernel
theorem dX4_isTitle_10 : decode cX4_isTitle 10 = .ok (.invokestatic 30, 3) := by decide +kernel
theorem dX4_isTitle_13 : decode cX4_isTitle 13 = .ok (.ireturn, 1) := by decide +kernel
theorem dX4_isCourse_0 : decode cX4_isCourse 0 = .ok (.iload_n 1, 1) := by decide +kernel
theorem dX4_isCourse_1 : decode cX4_isCourse 1 = .ok (.iconst 0, 1) := by decide +kernel
theorem dX4_isCourse_2 : decode cX4_isCourse 2 = .ok (.aload_n 0, 1) := by decide +kernel
theorem dX4_isCourse_3 : decode cX4_isCourse 3 = .ok (.getfield 7, 3) := by decide +kernel
theorem dX4_isCourse_6 : decode cX4_isCourse 6 = .ok (.iconst 2, 1) := by decide +kernel
theorem dX4_isCourse_7 : decode cX4_isCourse 7 = .ok (.iaload, 1) := by decide +kernel
theorem dX4_isCourse_8 : decode cX4_isCourse 8 = .ok (.iconst 1, 1) := by decide +kernel
theorem dX4_isCourse_9 : decode cX4_isCourse 9 = .ok (.isub, 1) := by decide +kernel
theorem dX4_isCourse_10 : decode cX4_isCourse 10 = .ok (.invokestatic 30, 3) := by decide +kernel
theorem dX4_isCourse_13 : decode cX4_isCourse 13 = .ok (.ireturn, 1) := by decide +kernel
theorem dX4_isCopy_0 : decode cX4_isCopy 0 = .ok (.iload_n 1, 1) := by decide +kernel
theorem dX4_isCopy_1 : decode cX4_isCopy 1 = .ok (.iconst 0, 1) := by decide +kernel
theorem dX4_isCopy_2 : decode cX4_isCopy 2 = .ok (.aload_n 0, 1) := by decide +kernel
theorem dX4_isCopy_3 : decode cX4_isCopy 3 = .ok (.getfield 7, 3) := by decide +kernel
theorem dX4_isCopy_6 : decode cX4_isCopy 6 = .ok (.iconst 1, 1) := by decide +kernel
theorem dX4_isCopy_7 : decode cX4_isCopy 7 = .ok (.iaload, 1) := by decide +kernel
theorem dX4_isCopy_8 : decode cX4_isCopy 8 = .ok (.iconst 1, 1) := by decide +kernel
theorem dX4_isCopy_9 : decode cX4_isCopy 9 = .ok (.isub, 1) := by decide +kernel
theorem dX4_isCopy_10 : decode cX4_isCopy 10 = .ok (.invokestatic 30, 3) := by decide +kernel
theorem dX4_isCopy_13 : decode cX4_isCopy 13 = .ok (.ireturn, 1) := by decide +kernel
theorem dX4_isCustomer_0 : decode cX4_isCustomer 0 = .ok (.iload_n 0, 1) := by decide +kernel
theorem dX4_isCustomer_1 : decode cX4_isCustomer 1 = .ok (.iconst 0, 1) := by decide +kernel
theorem dX4_isCustomer_2 : decode cX4_isCustomer 2 = .ok (.bipush 7, 2) := by decide +kernel
theorem dX4_isCustomer_4 : decode cX4_isCustomer 4 = .ok (.invokestatic 30, 3) := by decide +kernel
theorem dX4_isCustomer_7 : decode cX4_isCustomer 7 = .ok (.ireturn, 1) := by decide +kernel
theorem dX4_price_0 : decode cX4_price 0 = .ok (.aload_n 0, 1) := by decide +kernel
theorem dX4_price_1 : decode cX4_price 1 = .ok (.getfield 7, 3) := by decide +kernel
theorem dX4_price_4 : decode cX4_price 4 = .ok (.bipush 23, 2) := by decide +kernel
theorem dX4_price_6 : decode cX4_price 6 = .ok (.iconst 2, 1) := by decide +kernel
theorem dX4_price_7 : decode cX4_price 7 = .ok (.iload_n 1, 1) := by decide +kernel
theorem dX4_price_8 : decode cX4_price 8 = .ok (.imul, 1) := by decide +kernel
theorem dX4_price_9 : decode cX4_price 9 = .ok (.iadd, 1) := by decide +kernel
theorem dX4_price_10 : decode cX4_price 10 = .ok (.iaload, 1) := by decide +kernel
theorem dX4_price_11 : decode cX4_price 11 = .ok (.ireturn, 1) := by decide +kernel
theorem dX4_current_0 : decode cX4_current 0 = .ok (.aload_n 0, 1) := by decide +kernel
theorem dX4_current_1 : decode cX4_current 1 = .ok (.getfield 7, 3) := by decide +kernel
theorem dX4_current_4 : decode cX4_current 4 = .ok (.bipush 23, 2) := by decide +kernel
theorem dX4_current_6 : decode cX4_current 6 = .ok (.iconst 2, 1) := by decide +kernel
theorem dX4_current_7 : decode cX4_current 7 = .ok (.iload_n 1, 1) := by decide +kernel
theorem dX4_current_8 : decode cX4_current 8 = .ok (.imul, 1) := by decide +kernel
theorem dX4_current_9 : decode cX4_current 9 = .ok (.iadd, 1) := by decide +kernel
theorem dX4_current_10 : decode cX4_current 10 = .ok (.iconst 1, 1) := by decide +kernel
theorem dX4_current_11 : decode cX4_current 11 = .ok (.iadd, 1) := by decide +kernel
theorem dX4_current_12 : decode cX4_current 12 = .ok (.iaload, 1) := by decide +kernel
theorem dX4_current_13 : decode cX4_current 13 = .ok (.ireturn, 1) := by decide +kernel
theorem dX4_ofCourse_0 : decode cX4_ofCourse 0 = .ok (.aload_n 0, 1) := by decide +kernel
theorem dX4_ofCourse_1 : decode cX4_ofCourse 1 = .ok (.getfield 7, 3) := by decide +kernel
theorem dX4_ofCourse_4 : decode cX4_ofCourse 4 = .ok (.bipush 35, 2) := by decide +kernel
theorem dX4_ofCourse_6 : decode cX4_ofCourse 6 = .ok (.iconst 3, 1) := by decide +kernel
theorem dX4_ofCourse_7 : decode cX4_ofCourse 7 = .ok (.iload_n 1, 1) := by decide +kernel
theorem dX4_ofCourse_8 : decode cX4_ofCourse 8 = .ok (.imul, 1) := by decide +kernel
theorem dX4_ofCourse_9 : decode cX4_ofCourse 9 = .ok (.iadd, 1) := by decide +kernel
theorem dX4_ofCourse_10 : decode cX4_ofCourse 10 = .ok (.iload_n 2, 1) := by decide +kernel
theorem dX4_ofCourse_11 : decode cX4_ofCourse 11 = .ok (.iadd, 1) := by decide +kernel
theorem dX4_ofCourse_12 : decode cX4_ofCourse 12 = .ok (.iaload, 1) := by decide +kernel
theorem dX4_ofCourse_13 : decode cX4_ofCourse 13 = .ok (.ireturn, 1) := by decide +kernel
theorem dX4_of_0 : decode cX4_of 0 = .ok (.aload_n 0, 1) := by decide +kernel
theorem dX4_of_1 : decode cX4_of 1 = .ok (.getfield 7, 3) := by decide +kernel
theorem dX4_of_4 : decode cX4_of 4 = .ok (.bipush 53, 2) := by decide +kernel
theorem dX4_of_6 : decode cX4_of 6 = .ok (.bipush 6, 2) := by decide +kernel
theorem dX4_of_8 : decode cX4_of 8 = .ok (.iload_n 1, 1) := by decide +kernel
theorem dX4_of_9 : decode cX4_of 9 = .ok (.imul, 1) := by decide +kernel
theorem dX4_of_10 : decode cX4_of 10 = .ok (.iadd, 1) := by decide +kernel
theorem dX4_of_11 : decode cX4_of 11 = .ok (.iload_n 2, 1) := by decide +kernel
theorem dX4_of_12 : decode cX4_of 12 = .ok (.iadd, 1) := by decide +kernel
theorem dX4_of_13 : decode cX4_of 13 = .ok (.iaload, 1) := by decide +kernel
theorem dX4_of_14 : decode cX4_of 14 = .ok (.ireturn, 1) := by decide +kernel
theorem dX4_sets_0 : decode cX4_sets 0 = .ok (.aload_n 0, 1) := by decide +kernel
theorem dX4_sets_1 : decode cX4_sets 1 = .ok (.getfield 7, 3) := by decide +kernel
theorem dX4_sets_4 : decode cX4_sets 4 = .ok (.bipush 53, 2) := by decide +kernel
theorem dX4_sets_6 : decode cX4_sets 6 = .ok (.bipush 6, 2) := by decide +kernel
theorem dX4_sets_8 : decode cX4_sets 8 = .ok (.iload_n 1, 1) := by decide +kernel
theorem dX4_sets_9 : decode cX4_sets 9 = .ok (.imul, 1) := by decide +kernel
theorem dX4_sets_10 : decode cX4_sets 10 = .ok (.iadd, 1) := by decide +kernel
theorem dX4_sets_11 : decode cX4_sets 11 = .ok (.iload_n 2, 1) := by decide +kernel
theorem dX4_sets_12 : decode cX4_sets 12 = .ok (.iadd, 1) := by decide +kernel
theorem dX4_sets_13 : decode cX4_sets 13 = .ok (.iload_n 3, 1) := by decide +kernel
theorem dX4_sets_14 : decode cX4_sets 14 = .ok (.iastore, 1) := by decide +kernel
theorem dX4_sets_15 : decode cX4_sets 15 = .ok (.return_, 1) := by decide +kernel
theorem dX4_is_0 : decode cX4_is 0 = .ok (.aload_n 0, 1) := by decide +kernel
theorem dX4_is_1 : decode cX4_is 1 = .ok (.iload_n 1, 1) := by decide +kernel
theorem dX4_is_2 : decode cX4_is 2 = .ok (.iconst 3, 1) := by decide +kernel
theorem dX4_is_3 : decode cX4_is 3 = .ok (.invokevirtual 34, 3) := by decide +kernel
theorem dX4_is_6 : decode cX4_is 6 = .ok (.iload_n 2, 1) := by decide +kernel
theorem dX4_is_7 : decode cX4_is 7 = .ok (.if_icmp .ne 7, 3) := by decide +kernel
theorem dX4_is_10 : decode cX4_is 10 = .ok (.iconst 1, 1) := by decide +kernel
theorem dX4_is_11 : decode cX4_is 11 = .ok (.goto 4, 3) := by decide +kernel
theorem dX4_is_14 : decode cX4_is 14 = .ok (.iconst 0, 1) := by decide +kernel
theorem dX4_is_15 : decode cX4_is 15 = .ok (.ireturn, 1) := by decide +kernel
theorem dX4_worth_0 : decode cX4_worth 0 = .ok (.aload_n 0, 1) := by decide +kernel
theorem dX4_worth_1 : decode cX4_worth 1 = .ok (.iload_n 1, 1) := by decide +kernel
theorem dX4_worth_2 : decode cX4_worth 2 = .ok (.invokevirtual 38, 3) := by decide +kernel
theorem dX4_worth_5 : decode cX4_worth 5 = .ok (.bipush 100, 2) := by decide +kernel
theorem dX4_worth_7 : decode cX4_worth 7 = .ok (.bipush 20, 2) := by decide +kernel
theorem dX4_worth_9 : decode cX4_worth 9 = .ok (.iload_n 3, 1) := by decide +kernel
theorem dX4_worth_10 : decode cX4_worth 10 = .ok (.imul, 1) := by decide +kernel
theorem dX4_worth_11 : decode cX4_worth 11 = .ok (.isub, 1) := by decide +kernel
theorem dX4_worth_12 : decode cX4_worth 12 = .ok (.imul, 1) := by decide +kernel
theorem dX4_worth_13 : decode cX4_worth 13 = .ok (.bipush 100, 2) := by decide +kernel
theorem dX4_worth_15 : decode cX4_worth 15 = .ok (.idiv, 1) := by decide +kernel
theorem dX4_worth_16 : decode cX4_worth 16 = .ok (.istore 4, 2) := by decide +kernel
theorem dX4_worth_18 : decode cX4_worth 18 = .ok (.iload_n 2, 1) := by decide +kernel
theorem dX4_worth_19 : decode cX4_worth 19 = .ok (.aload_n 0, 1) := by decide +kernel
theorem dX4_worth_20 : decode cX4_worth 20 = .ok (.iload_n 1, 1) := by decide +kernel
theorem dX4_worth_21 : decode cX4_worth 21 = .ok (.invokevirtual 42, 3) := by decide +kernel
theorem dX4_worth_24 : decode cX4_worth 24 = .ok (.if_icmp .ge 13, 3) := by decide +kernel
theorem dX4_worth_27 : decode cX4_worth 27 = .ok (.aload_n 0, 1) := by decide +kernel
theorem dX4_worth_28 : decode cX4_worth 28 = .ok (.iload_n 1, 1) := by decide +kernel
theorem dX4_worth_29 : decode cX4_worth 29 = .ok (.invokevirtual 42, 3) := by decide +kernel
theorem dX4_worth_32 : decode cX4_worth 32 = .ok (.iload_n 2, 1) := by decide +kernel
theorem dX4_worth_33 : decode cX4_worth 33 = .ok (.isub, 1) := by decide +kernel
theorem dX4_worth_34 : decode cX4_worth 34 = .ok (.goto 4, 3) := by decide +kernel
theorem dX4_worth_37 : decode cX4_worth 37 = .ok (.iconst 0, 1) := by decide +kernel
theorem dX4_worth_38 : decode cX4_worth 38 = .ok (.istore 5, 2) := by decide +kernel
theorem dX4_worth_40 : decode cX4_worth 40 = .ok (.iload 4, 2) := by decide +kernel
theorem dX4_worth_42 : decode cX4_worth 42 = .ok (.iload 4, 2) := by decide +kernel
theorem dX4_worth_44 : decode cX4_worth 44 = .ok (.bipush 100, 2) := by decide +kernel
theorem dX4_worth_46 : decode cX4_worth 46 = .ok (.aload_n 0, 1) := by decide +kernel
theorem dX4_worth_47 : decode cX4_worth 47 = .ok (.getfield 7, 3) := by decide +kernel
theorem dX4_worth_50 : decode cX4_worth 50 = .ok (.bipush 7, 2) := by decide +kernel
theorem dX4_worth_52 : decode cX4_worth 52 = .ok (.iaload, 1) := by decide +kernel
theorem dX4_worth_53 : decode cX4_worth 53 = .ok (.iload 5, 2) := by decide +kernel
theorem dX4_worth_55 : decode cX4_worth 55 = .ok (.imul, 1) := by decide +kernel
theorem dX4_worth_56 : decode cX4_worth 56 = .ok (.invokestatic 45, 3) := by decide +kernel
theorem dX4_worth_59 : decode cX4_worth 59 = .ok (.imul, 1) := by decide +kernel
theorem dX4_worth_60 : decode cX4_worth 60 = .ok (.bipush 100, 2) := by decide +kernel
theorem dX4_worth_62 : decode cX4_worth 62 = .ok (.idiv, 1) := by decide +kernel
theorem dX4_worth_63 : decode cX4_worth 63 = .ok (.isub, 1) := by decide +kernel
theorem dX4_worth_64 : decode cX4_worth 64 = .ok (.ireturn, 1) := by decide +kernel
theorem dX4_worthOf_0 : decode cX4_worthOf 0 = .ok (.aload_n 0, 1) := by decide +kernel
theorem dX4_worthOf_1 : decode cX4_worthOf 1 = .ok (.aload_n 0, 1) := by decide +kernel
theorem dX4_worthOf_2 : decode cX4_worthOf 2 = .ok (.iload_n 1, 1) := by decide +kernel
theorem dX4_worthOf_3 : decode cX4_worthOf 3 = .ok (.iconst 0, 1) := by decide +kernel
theorem dX4_worthOf_4 : decode cX4_worthOf 4 = .ok (.invokevirtual 34, 3) := by decide +kernel
theorem dX4_worthOf_7 : decode cX4_worthOf 7 = .ok (.aload_n 0, 1) := by decide +kernel
theorem dX4_worthOf_8 : decode cX4_worthOf 8 = .ok (.iload_n 1, 1) := by decide +kernel
theorem dX4_worthOf_9 : decode cX4_worthOf 9 = .ok (.iconst 1, 1) := by decide +kernel
theorem dX4_worthOf_10 : decode cX4_worthOf 10 = .ok (.invokevirtual 34, 3) := by decide +kernel
theorem dX4_worthOf_13 : decode cX4_worthOf 13 = .ok (.aload_n 0, 1) := by decide +kernel
theorem dX4_worthOf_14 : decode cX4_worthOf 14 = .ok (.iload_n 1, 1) := by decide +kernel
theorem dX4_worthOf_15 : decode cX4_worthOf 15 = .ok (.iconst 2, 1) := by decide +kernel
theorem dX4_worthOf_16 : decode cX4_worthOf 16 = .ok (.invokevirtual 34, 3) := by decide +kernel
theorem dX4_worthOf_19 : decode cX4_worthOf 19 = .ok (.invokevirtual 48, 3) := by decide +kernel
theorem dX4_worthOf_22 : decode cX4_worthOf 22 = .ok (.ireturn, 1) := by decide +kernel
theorem dX4_isOfUse_0 : decode cX4_isOfUse 0 = .ok (.iconst 0, 1) := by decide +kernel
theorem dX4_isOfUse_1 : decode cX4_isOfUse 1 = .ok (.istore_n 3, 1) := by decide +kernel
theorem dX4_isOfUse_2 : decode cX4_isOfUse 2 = .ok (.iconst 0, 1) := by decide +kernel
theorem dX4_isOfUse_3 : decode cX4_isOfUse 3 = .ok (.istore 4, 2) := by decide +kernel
theorem dX4_isOfUse_5 : decode cX4_isOfUse 5 = .ok (.iload 4, 2) := by decide +kernel
theorem dX4_isOfUse_7 : decode cX4_isOfUse 7 = .ok (.aload_n 0, 1) := by decide +kernel
theorem dX4_isOfUse_8 : decode cX4_isOfUse 8 = .ok (.getfield 7, 3) := by decide +kernel
theorem dX4_isOfUse_11 : decode cX4_isOfUse 11 = .ok (.iconst 2, 1) := by decide +kernel
theorem dX4_isOfUse_12 : decode cX4_isOfUse 12 = .ok (.iaload, 1) := by decide +kernel
theorem dX4_isOfUse_13 : decode cX4_isOfUse 13 = .ok (.if_icmp .ge 41, 3) := by decide +kernel
theorem dX4_isOfUse_16 : decode cX4_isOfUse 16 = .ok (.iload_n 3, 1) := by decide +kernel
theorem dX4_isOfUse_17 : decode cX4_isOfUse 17 = .ok (.ifCond .ne 25, 3) := by decide +kernel
theorem dX4_isOfUse_20 : decode cX4_isOfUse 20 = .ok (.aload_n 0, 1) := by decide +kernel
theorem dX4_isOfUse_21 : decode cX4_isOfUse 21 = .ok (.iload 4, 2) := by decide +kernel
theorem dX4_isOfUse_23 : decode cX4_isOfUse 23 = .ok (.iconst 0, 1) := by decide +kernel
theorem dX4_isOfUse_24 : decode cX4_isOfUse 24 = .ok (.invokevirtual 52, 3) := by decide +kernel
theorem dX4_isOfUse_27 : decode cX4_isOfUse 27 = .ok (.iload_n 1, 1) := by decide +kernel
theorem dX4_isOfUse_28 : decode cX4_isOfUse 28 = .ok (.if_icmp .ne 18, 3) := by decide +kernel
theorem dX4_isOfUse_31 : decode cX4_isOfUse 31 = .ok (.iload_n 2, 1) := by decide +kernel
theorem dX4_isOfUse_32 : decode cX4_isOfUse 32 = .ok (.aload_n 0, 1) := by decide +kernel
theorem dX4_isOfUse_33 : decode cX4_isOfUse 33 = .ok (.iload 4, 2) := by decide +kernel
theorem dX4_isOfUse_35 : decode cX4_isOfUse 35 = .ok (.iconst 1, 1) := by decide +kernel
theorem dX4_isOfUse_36 : decode cX4_isOfUse 36 = .ok (.invokevirtual 52, 3) := by decide +kernel
theorem dX4_isOfUse_39 : decode cX4_isOfUse 39 = .ok (.if_icmp .lt 7, 3) := by decide +kernel
theorem dX4_isOfUse_42 : decode cX4_isOfUse 42 = .ok (.iconst 1, 1) := by decide +kernel
theorem dX4_isOfUse_43 : decode cX4_isOfUse 43 = .ok (.goto 4, 3) := by decide +kernel
theorem dX4_isOfUse_46 : decode cX4_isOfUse 46 = .ok (.iconst 0, 1) := by decide +kernel
theorem dX4_isOfUse_47 : decode cX4_isOfUse 47 = .ok (.istore_n 3, 1) := by decide +kernel
theorem dX4_isOfUse_48 : decode cX4_isOfUse 48 = .ok (.iinc 4 1, 3) := by decide +kernel
theorem dX4_isOfUse_51 : decode cX4_isOfUse 51 = .ok (.goto (-46), 3) := by decide +kernel
theorem dX4_isOfUse_54 : decode cX4_isOfUse 54 = .ok (.iload_n 3, 1) := by decide +kernel
theorem dX4_isOfUse_55 : decode cX4_isOfUse 55 = .ok (.ireturn, 1) := by decide +kernel
theorem dX4_demand_0 : decode cX4_demand 0 = .ok (.iconst 0, 1) := by decide +kernel
theorem dX4_demand_1 : decode cX4_demand 1 = .ok (.istore_n 2, 1) := by decide +kernel
theorem dX4_demand_2 : decode cX4_demand 2 = .ok (.iconst 0, 1) := by decide +kernel
theorem dX4_demand_3 : decode cX4_demand 3 = .ok (.istore_n 3, 1) := by decide +kernel
theorem dX4_demand_4 : decode cX4_demand 4 = .ok (.iload_n 3, 1) := by decide +kernel
theorem dX4_demand_5 : decode cX4_demand 5 = .ok (.aload_n 0, 1) := by decide +kernel
theorem dX4_demand_6 : decode cX4_demand 6 = .ok (.getfield 7, 3) := by decide +kernel
theorem dX4_demand_9 : decode cX4_demand 9 = .ok (.iconst 2, 1) := by decide +kernel
theorem dX4_demand_10 : decode cX4_demand 10 = .ok (.iaload, 1) := by decide +kernel
theorem dX4_demand_11 : decode cX4_demand 11 = .ok (.if_icmp .ge 32, 3) := by decide +kernel
theorem dX4_demand_14 : decode cX4_demand 14 = .ok (.iload_n 2, 1) := by decide +kernel
theorem dX4_demand_15 : decode cX4_demand 15 = .ok (.aload_n 0, 1) := by decide +kernel
theorem dX4_demand_16 : decode cX4_demand 16 = .ok (.iload_n 3, 1) := by decide +kernel
theorem dX4_demand_17 : decode cX4_demand 17 = .ok (.iconst 0, 1) := by decide +kernel
theorem dX4_demand_18 : decode cX4_demand 18 = .ok (.invokevirtual 52, 3) := by decide +kernel
theorem dX4_demand_21 : decode cX4_demand 21 = .ok (.iload_n 1, 1) := by decide +kernel
theorem dX4_demand_22 : decode cX4_demand 22 = .ok (.if_icmp .ne 12, 3) := by decide +kernel
theorem dX4_demand_25 : decode cX4_demand 25 = .ok (.aload_n 0, 1) := by decide +kernel
theorem dX4_demand_26 : decode cX4_demand 26 = .ok (.iload_n 3, 1) := by decide +kernel
theorem dX4_demand_27 : decode cX4_demand 27 = .ok (.iconst 2, 1) := by decide +kernel
theorem dX4_demand_28 : decode cX4_demand 28 = .ok (.invokevirtual 52, 3) := by decide +kernel
theorem dX4_demand_31 : decode cX4_demand 31 = .ok (.goto 4, 3) := by decide +kernel
theorem dX4_demand_34 : decode cX4_demand 34 = .ok (.iconst 0, 1) := by decide +kernel
theorem dX4_demand_35 : decode cX4_demand 35 = .ok (.iadd, 1) := by decide +kernel
theorem dX4_demand_36 : decode cX4_demand 36 = .ok (.istore_n 2, 1) := by decide +kernel
theorem dX4_demand_37 : decode cX4_demand 37 = .ok (.iinc 3 1, 3) := by decide +kernel
theorem dX4_demand_40 : decode cX4_demand 40 = .ok (.goto (-36), 3) := by decide +kernel
theorem dX4_demand_43 : decode cX4_demand 43 = .ok (.iload_n 2, 1) := by decide +kernel
theorem dX4_demand_44 : decode cX4_demand 44 = .ok (.ireturn, 1) := by decide +kernel
theorem dX4_supply_0 : decode cX4_supply 0 = .ok (.iconst 0, 1) := by decide +kernel
theorem dX4_supply_1 : decode cX4_supply 1 = .ok (.istore_n 2, 1) := by decide +kernel
theorem dX4_supply_2 : decode cX4_supply 2 = .ok (.iconst 0, 1) := by decide +kernel
theorem dX4_supply_3 : decode cX4_supply 3 = .ok (.istore_n 3, 1) := by decide +kernel
theorem dX4_supply_4 : decode cX4_supply 4 = .ok (.iload_n 3, 1) := by decide +kernel
theorem dX4_supply_5 : decode cX4_supply 5 = .ok (.aload_n 0, 1) := by decide +kernel
theorem dX4_supply_6 : decode cX4_supply 6 = .ok (.getfield 7, 3) := by decide +kernel
theorem dX4_supply_9 : decode cX4_supply 9 = .ok (.iconst 1, 1) := by decide +kernel
theorem dX4_supply_10 : decode cX4_supply 10 = .ok (.iaload, 1) := by decide +kernel
theorem dX4_supply_11 : decode cX4_supply 11 = .ok (.if_icmp .ge 59, 3) := by decide +kernel
theorem dX4_supply_14 : decode cX4_supply 14 = .ok (.iload_n 2, 1) := by decide +kernel
theorem dX4_supply_15 : decode cX4_supply 15 = .ok (.aload_n 0, 1) := by decide +kernel
theorem dX4_supply_16 : decode cX4_supply 16 = .ok (.iload_n 3, 1) := by decide +kernel
theorem dX4_supply_17 : decode cX4_supply 17 = .ok (.iconst 0, 1) := by decide +kernel
theorem dX4_supply_18 : decode cX4_supply 18 = .ok (.invokevirtual 34, 3) := by decide +kernel
theorem dX4_supply_21 : decode cX4_supply 21 = .ok (.iload_n 1, 1) := by decide +kernel
theorem dX4_supply_22 : decode cX4_supply 22 = .ok (.if_icmp .ne 39, 3) := by decide +kernel
theorem dX4_supply_25 : decode cX4_supply 25 = .ok (.aload_n 0, 1) := by decide +kernel
theorem dX4_supply_26 : decode cX4_supply 26 = .ok (.iload_n 3, 1) := by decide +kernel
theorem dX4_supply_27 : decode cX4_supply 27 = .ok (.iconst 0, 1) := by decide +kernel
theorem dX4_supply_28 : decode cX4_supply 28 = .ok (.invokevirtual 55, 3) := by decide +kernel
theorem dX4_supply_31 : decode cX4_supply 31 = .ok (.ifCond .ne 12, 3) := by decide +kernel
theorem dX4_supply_34 : decode cX4_supply 34 = .ok (.aload_n 0, 1) := by decide +kernel
theorem dX4_supply_35 : decode cX4_supply 35 = .ok (.iload_n 3, 1) := by decide +kernel
theorem dX4_supply_36 : decode cX4_supply 36 = .ok (.iconst 1, 1) := by decide +kernel
theorem dX4_supply_37 : decode cX4_supply 37 = .ok (.invokevirtual 55, 3) := by decide +kernel
theorem dX4_supply_40 : decode cX4_supply 40 = .ok (.ifCond .eq 21, 3) := by decide +kernel
theorem dX4_supply_43 : decode cX4_supply 43 = .ok (.aload_n 0, 1) := by decide +kernel
theorem dX4_supply_44 : decode cX4_supply 44 = .ok (.iload_n 1, 1) := by decide +kernel
theorem dX4_supply_45 : decode cX4_supply 45 = .ok (.aload_n 0, 1) := by decide +kernel
theorem dX4_supply_46 : decode cX4_supply 46 = .ok (.iload_n 3, 1) := by decide +kernel
theorem dX4_supply_47 : decode cX4_supply 47 = .ok (.iconst 1, 1) := by decide +kernel
theorem dX4_supply_48 : decode cX4_supply 48 = .ok (.invokevirtual 34, 3) := by decide +kernel
theorem dX4_supply_51 : decode cX4_supply 51 = .ok (.invokevirtual 59, 3) := by decide +kernel
theorem dX4_supply_54 : decode cX4_supply 54 = .ok (.ifCond .eq 7, 3) := by decide +kernel
theorem dX4_supply_57 : decode cX4_supply 57 = .ok (.iconst 1, 1) := by decide +kernel
theorem dX4_supply_58 : decode cX4_supply 58 = .ok (.goto 4, 3) := by decide +kernel
theorem dX4_supply_61 : decode cX4_supply 61 = .ok (.iconst 0, 1) := by decide +kernel
theorem dX4_supply_62 : decode cX4_supply 62 = .ok (.iadd, 1) := by decide +kernel
theorem dX4_supply_63 : decode cX4_supply 63 = .ok (.istore_n 2, 1) := by decide +kernel
theorem dX4_supply_64 : decode cX4_supply 64 = .ok (.iinc 3 1, 3) := by decide +kernel
theorem dX4_supply_67 : decode cX4_supply 67 = .ok (.goto (-63), 3) := by decide +kernel
theorem dX4_supply_70 : decode cX4_supply 70 = .ok (.iload_n 2, 1) := by decide +kernel
theorem dX4_supply_71 : decode cX4_supply 71 = .ok (.ireturn, 1) := by decide +kernel
theorem dX4_inState_0 : decode cX4_inState 0 = .ok (.iconst 0, 1) := by decide +kernel
theorem dX4_inState_1 : decode cX4_inState 1 = .ok (.istore_n 2, 1) := by decide +kernel
theorem dX4_inState_2 : decode cX4_inState 2 = .ok (.iconst 0, 1) := by decide +kernel
theorem dX4_inState_3 : decode cX4_inState 3 = .ok (.istore_n 3, 1) := by decide +kernel
theorem dX4_inState_4 : decode cX4_inState 4 = .ok (.iload_n 3, 1) := by decide +kernel
theorem dX4_inState_5 : decode cX4_inState 5 = .ok (.aload_n 0, 1) := by decide +kernel
theorem dX4_inState_6 : decode cX4_inState 6 = .ok (.getfield 7, 3) := by decide +kernel
theorem dX4_inState_9 : decode cX4_inState 9 = .ok (.iconst 1, 1) := by decide +kernel
theorem dX4_inState_10 : decode cX4_inState 10 = .ok (.iaload, 1) := by decide +kernel
theorem dX4_inState_11 : decode cX4_inState 11 = .ok (.if_icmp .ge 26, 3) := by decide +kernel
theorem dX4_inState_14 : decode cX4_inState 14 = .ok (.iload_n 2, 1) := by decide +kernel
theorem dX4_inState_15 : decode cX4_inState 15 = .ok (.aload_n 0, 1) := by decide +kernel
theorem dX4_inState_16 : decode cX4_inState 16 = .ok (.iload_n 3, 1) := by decide +kernel
theorem dX4_inState_17 : decode cX4_inState 17 = .ok (.iload_n 1, 1) := by decide +kernel
theorem dX4_inState_18 : decode cX4_inState 18 = .ok (.invokevirtual 55, 3) := by decide +kernel
theorem dX4_inState_21 : decode cX4_inState 21 = .ok (.ifCond .eq 7, 3) := by decide +kernel
theorem dX4_inState_24 : decode cX4_inState 24 = .ok (.iconst 1, 1) := by decide +kernel
theorem dX4_inState_25 : decode cX4_inState 25 = .ok (.goto 4, 3) := by decide +kernel
theorem dX4_inState_28 : decode cX4_inState 28 = .ok (.iconst 0, 1) := by decide +kernel
theorem dX4_inState_29 : decode cX4_inState 29 = .ok (.iadd, 1) := by decide +kernel
theorem dX4_inState_30 : decode cX4_inState 30 = .ok (.istore_n 2, 1) := by decide +kernel
theorem dX4_inState_31 : decode cX4_inState 31 = .ok (.iinc 3 1, 3) := by decide +kernel
theorem dX4_inState_34 : decode cX4_inState 34 = .ok (.goto (-30), 3) := by decide +kernel
theorem dX4_inState_37 : decode cX4_inState 37 = .ok (.iload_n 2, 1) := by decide +kernel
theorem dX4_inState_38 : decode cX4_inState 38 = .ok (.ireturn, 1) := by decide +kernel
theorem dX4_ofTitle_0 : decode cX4_ofTitle 0 = .ok (.iconst 0, 1) := by decide +kernel
theorem dX4_ofTitle_1 : decode cX4_ofTitle 1 = .ok (.istore_n 3, 1) := by decide +kernel
theorem dX4_ofTitle_2 : decode cX4_ofTitle 2 = .ok (.iconst 0, 1) := by decide +kernel
theorem dX4_ofTitle_3 : decode cX4_ofTitle 3 = .ok (.istore 4, 2) := by decide +kernel
theorem dX4_ofTitle_5 : decode cX4_ofTitle 5 = .ok (.iload 4, 2) := by decide +kernel
theorem dX4_ofTitle_7 : decode cX4_ofTitle 7 = .ok (.aload_n 0, 1) := by decide +kernel
theorem dX4_ofTitle_8 : decode cX4_ofTitle 8 = .ok (.getfield 7, 3) := by decide +kernel
theorem dX4_ofTitle_11 : decode cX4_ofTitle 11 = .ok (.iconst 1, 1) := by decide +kernel
theorem dX4_ofTitle_12 : decode cX4_ofTitle 12 = .ok (.iaload, 1) := by decide +kernel
theorem dX4_ofTitle_13 : decode cX4_ofTitle 13 = .ok (.if_icmp .ge 43, 3) := by decide +kernel
theorem dX4_ofTitle_16 : decode cX4_ofTitle 16 = .ok (.iload_n 3, 1) := by decide +kernel
theorem dX4_ofTitle_17 : decode cX4_ofTitle 17 = .ok (.aload_n 0, 1) := by decide +kernel
theorem dX4_ofTitle_18 : decode cX4_ofTitle 18 = .ok (.iload 4, 2) := by decide +kernel
theorem dX4_ofTitle_20 : decode cX4_ofTitle 20 = .ok (.iconst 0, 1) := by decide +kernel
theorem dX4_ofTitle_21 : decode cX4_ofTitle 21 = .ok (.invokevirtual 34, 3) := by decide +kernel
theorem dX4_ofTitle_24 : decode cX4_ofTitle 24 = .ok (.iload_n 1, 1) := by decide +kernel
theorem dX4_ofTitle_25 : decode cX4_ofTitle 25 = .ok (.if_icmp .ne 22, 3) := by decide +kernel
theorem dX4_ofTitle_28 : decode cX4_ofTitle 28 = .ok (.iload_n 2, 1) := by decide +kernel
theorem dX4_ofTitle_29 : decode cX4_ofTitle 29 = .ok (.iconst (-1), 1) := by decide +kernel
theorem dX4_ofTitle_30 : decode cX4_ofTitle 30 = .ok (.if_icmp .eq 13, 3) := by decide +kernel
theorem dX4_ofTitle_33 : decode cX4_ofTitle 33 = .ok (.aload_n 0, 1) := by decide +kernel
theorem dX4_ofTitle_34 : decode cX4_ofTitle 34 = .ok (.iload 4, 2) := by decide +kernel
theorem dX4_ofTitle_36 : decode cX4_ofTitle 36 = .ok (.iload_n 2, 1) := by decide +kernel
theorem dX4_ofTitle_37 : decode cX4_ofTitle 37 = .ok (.invokevirtual 55, 3) := by decide +kernel
theorem dX4_ofTitle_40 : decode cX4_ofTitle 40 = .ok (.ifCond .eq 7, 3) := by decide +kernel
theorem dX4_ofTitle_43 : decode cX4_ofTitle 43 = .ok (.iconst 1, 1) := by decide +kernel
theorem dX4_ofTitle_44 : decode cX4_ofTitle 44 = .ok (.goto 4, 3) := by decide +kernel
theorem dX4_ofTitle_47 : decode cX4_ofTitle 47 = .ok (.iconst 0, 1) := by decide +kernel
theorem dX4_ofTitle_48 : decode cX4_ofTitle 48 = .ok (.iadd, 1) := by decide +kernel
theorem dX4_ofTitle_49 : decode cX4_ofTitle 49 = .ok (.istore_n 3, 1) := by decide +kernel
theorem dX4_ofTitle_50 : decode cX4_ofTitle 50 = .ok (.iinc 4 1, 3) := by decide +kernel
theorem dX4_ofTitle_53 : decode cX4_ofTitle 53 = .ok (.goto (-48), 3) := by decide +kernel
theorem dX4_ofTitle_56 : decode cX4_ofTitle 56 = .ok (.iload_n 3, 1) := by decide +kernel
theorem dX4_ofTitle_57 : decode cX4_ofTitle 57 = .ok (.ireturn, 1) := by decide +kernel
theorem dX4_addTitle_0 : decode cX4_addTitle 0 = .ok (.iload_n 1, 1) := by decide +kernel
theorem dX4_addTitle_1 : decode cX4_addTitle 1 = .ok (.bipush 100, 2) := by decide +kernel
theorem dX4_addTitle_3 : decode cX4_addTitle 3 = .ok (.sipush 20000, 3) := by decide +kernel
theorem dX4_addTitle_6 : decode cX4_addTitle 6 = .ok (.invokestatic 30, 3) := by decide +kernel
theorem dX4_addTitle_9 : decode cX4_addTitle 9 = .ok (.ifCond .eq 13, 3) := by decide +kernel
theorem dX4_addTitle_12 : decode cX4_addTitle 12 = .ok (.iload_n 2, 1) := by decide +kernel
theorem dX4_addTitle_13 : decode cX4_addTitle 13 = .ok (.iconst 1, 1) := by decide +kernel
theorem dX4_addTitle_14 : decode cX4_addTitle 14 = .ok (.bipush 30, 2) := by decide +kernel
theorem dX4_addTitle_16 : decode cX4_addTitle 16 = .ok (.invokestatic 30, 3) := by decide +kernel
theorem dX4_addTitle_19 : decode cX4_addTitle 19 = .ok (.ifCond .ne 6, 3) := by decide +kernel
theorem dX4_addTitle_22 : decode cX4_addTitle 22 = .ok (.bipush (-3), 2) := by decide +kernel
theorem dX4_addTitle_24 : decode cX4_addTitle 24 = .ok (.ireturn, 1) := by decide +kernel
theorem dX4_addTitle_25 : decode cX4_addTitle 25 = .ok (.aload_n 0, 1) := by decide +kernel
theorem dX4_addTitle_26 : decode cX4_addTitle 26 = .ok (.getfield 7, 3) := by decide +kernel
theorem dX4_addTitle_29 : decode cX4_addTitle 29 = .ok (.iconst 0, 1) := by decide +kernel
theorem dX4_addTitle_30 : decode cX4_addTitle 30 = .ok (.iaload, 1) := by decide +kernel
theorem dX4_addTitle_31 : decode cX4_addTitle 31 = .ok (.bipush 6, 2) := by decide +kernel
theorem dX4_addTitle_33 : decode cX4_addTitle 33 = .ok (.if_icmp .ne 6, 3) := by decide +kernel
theorem dX4_addTitle_36 : decode cX4_addTitle 36 = .ok (.bipush (-5), 2) := by decide +kernel
theorem dX4_addTitle_38 : decode cX4_addTitle 38 = .ok (.ireturn, 1) := by decide +kernel
theorem dX4_addTitle_39 : decode cX4_addTitle 39 = .ok (.aload_n 0, 1) := by decide +kernel
theorem dX4_addTitle_40 : decode cX4_addTitle 40 = .ok (.invokevirtual 62, 3) := by decide +kernel
theorem dX4_addTitle_43 : decode cX4_addTitle 43 = .ok (.aload_n 0, 1) := by decide +kernel
theorem dX4_addTitle_44 : decode cX4_addTitle 44 = .ok (.getfield 7, 3) := by decide +kernel
theorem dX4_addTitle_47 : decode cX4_addTitle 47 = .ok (.bipush 23, 2) := by decide +kernel
theorem dX4_addTitle_49 : decode cX4_addTitle 49 = .ok (.iconst 2, 1) := by decide +kernel
theorem dX4_addTitle_50 : decode cX4_addTitle 50 = .ok (.aload_n 0, 1) := by decide +kernel
theorem dX4_addTitle_51 : decode cX4_addTitle 51 = .ok (.getfield 7, 3) := by decide +kernel
theorem dX4_addTitle_54 : decode cX4_addTitle 54 = .ok (.iconst 0, 1) := by decide +kernel
theorem dX4_addTitle_55 : decode cX4_addTitle 55 = .ok (.iaload, 1) := by decide +kernel
theorem dX4_addTitle_56 : decode cX4_addTitle 56 = .ok (.imul, 1) := by decide +kernel
theorem dX4_addTitle_57 : decode cX4_addTitle 57 = .ok (.iadd, 1) := by decide +kernel
theorem dX4_addTitle_58 : decode cX4_addTitle 58 = .ok (.iload_n 1, 1) := by decide +kernel
theorem dX4_addTitle_59 : decode cX4_addTitle 59 = .ok (.iastore, 1) := by decide +kernel
theorem dX4_addTitle_60 : decode cX4_addTitle 60 = .ok (.aload_n 0, 1) := by decide +kernel
theorem dX4_addTitle_61 : decode cX4_addTitle 61 = .ok (.getfield 7, 3) := by decide +kernel
theorem dX4_addTitle_64 : decode cX4_addTitle 64 = .ok (.bipush 23, 2) := by decide +kernel
theorem dX4_addTitle_66 : decode cX4_addTitle 66 = .ok (.iconst 2, 1) := by decide +kernel
theorem dX4_addTitle_67 : decode cX4_addTitle 67 = .ok (.aload_n 0, 1) := by decide +kernel
theorem dX4_addTitle_68 : decode cX4_addTitle 68 = .ok (.getfield 7, 3) := by decide +kernel
theorem dX4_addTitle_71 : decode cX4_addTitle 71 = .ok (.iconst 0, 1) := by decide +kernel
theorem dX4_addTitle_72 : decode cX4_addTitle 72 = .ok (.iaload, 1) := by decide +kernel
theorem dX4_addTitle_73 : decode cX4_addTitle 73 = .ok (.imul, 1) := by decide +kernel
theorem dX4_addTitle_74 : decode cX4_addTitle 74 = .ok (.iadd, 1) := by decide +kernel
theorem dX4_addTitle_75 : decode cX4_addTitle 75 = .ok (.iconst 1, 1) := by decide +kernel
theorem dX4_addTitle_76 : decode cX4_addTitle 76 = .ok (.iadd, 1) := by decide +kernel
theorem dX4_addTitle_77 : decode cX4_addTitle 77 = .ok (.iload_n 2, 1) := by decide +kernel
theorem dX4_addTitle_78 : decode cX4_addTitle 78 = .ok (.iastore, 1) := by decide +kernel
theorem dX4_addTitle_79 : decode cX4_addTitle 79 = .ok (.aload_n 0, 1) := by decide +kernel
theorem dX4_addTitle_80 : decode cX4_addTitle 80 = .ok (.getfield 7, 3) := by decide +kernel
theorem dX4_addTitle_83 : decode cX4_addTitle 83 = .ok (.iconst 0, 1) := by decide +kernel
theorem dX4_addTitle_84 : decode cX4_addTitle 84 = .ok (.dup2, 1) := by decide +kernel
theorem dX4_addTitle_85 : decode cX4_addTitle 85 = .ok (.iaload, 1) := by decide +kernel
theorem dX4_addTitle_86 : decode cX4_addTitle 86 = .ok (.iconst 1, 1) := by decide +kernel
theorem dX4_addTitle_87 : decode cX4_addTitle 87 = .ok (.iadd, 1) := by decide +kernel
theorem dX4_addTitle_88 : decode cX4_addTitle 88 = .ok (.iastore, 1) := by decide +kernel
theorem dX4_addTitle_89 : decode cX4_addTitle 89 = .ok (.aload_n 0, 1) := by decide +kernel
theorem dX4_addTitle_90 : decode cX4_addTitle 90 = .ok (.getfield 7, 3) := by decide +kernel
theorem dX4_addTitle_93 : decode cX4_addTitle 93 = .ok (.iconst 0, 1) := by decide +kernel
theorem dX4_addTitle_94 : decode cX4_addTitle 94 = .ok (.iaload, 1) := by decide +kernel
theorem dX4_addTitle_95 : decode cX4_addTitle 95 = .ok (.iconst 1, 1) := by decide +kernel
theorem dX4_addTitle_96 : decode cX4_addTitle 96 = .ok (.isub, 1) := by decide +kernel
theorem dX4_addTitle_97 : decode cX4_addTitle 97 = .ok (.ireturn, 1) := by decide +kernel
theorem dX4_setPrice_0 : decode cX4_setPrice 0 = .ok (.aload_n 0, 1) := by decide +kernel
theorem dX4_setPrice_1 : decode cX4_setPrice 1 = .ok (.iload_n 1, 1) := by decide +kernel
theorem dX4_setPrice_2 : decode cX4_setPrice 2 = .ok (.invokevirtual 65, 3) := by decide +kernel
theorem dX4_setPrice_5 : decode cX4_setPrice 5 = .ok (.ifCond .ne 6, 3) := by decide +kernel
theorem dX4_setPrice_8 : decode cX4_setPrice 8 = .ok (.bipush (-2), 2) := by decide +kernel
theorem dX4_setPrice_10 : decode cX4_setPrice 10 = .ok (.ireturn, 1) := by decide +kernel
theorem dX4_setPrice_11 : decode cX4_setPrice 11 = .ok (.iload_n 2, 1) := by decide +kernel
theorem dX4_setPrice_12 : decode cX4_setPrice 12 = .ok (.bipush 100, 2) := by decide +kernel
theorem dX4_setPrice_14 : decode cX4_setPrice 14 = .ok (.sipush 20000, 3) := by decide +kernel
theorem dX4_setPrice_17 : decode cX4_setPrice 17 = .ok (.invokestatic 30, 3) := by decide +kernel
theorem dX4_setPrice_20 : decode cX4_setPrice 20 = .ok (.ifCond .ne 6, 3) := by decide +kernel
theorem dX4_setPrice_23 : decode cX4_setPrice 23 = .ok (.bipush (-3), 2) := by decide +kernel
theorem dX4_setPrice_25 : decode cX4_setPrice 25 = .ok (.ireturn, 1) := by decide +kernel
theorem dX4_setPrice_26 : decode cX4_setPrice 26 = .ok (.aload_n 0, 1) := by decide +kernel
theorem dX4_setPrice_27 : decode cX4_setPrice 27 = .ok (.invokevirtual 62, 3) := by decide +kernel
theorem dX4_setPrice_30 : decode cX4_setPrice 30 = .ok (.aload_n 0, 1) := by decide +kernel
theorem dX4_setPrice_31 : decode cX4_setPrice 31 = .ok (.iload_n 1, 1) := by decide +kernel
theorem dX4_setPrice_32 : decode cX4_setPrice 32 = .ok (.invokevirtual 38, 3) := by decide +kernel
theorem dX4_setPrice_35 : decode cX4_setPrice 35 = .ok (.istore_n 3, 1) := by decide +kernel
theorem dX4_setPrice_36 : decode cX4_setPrice 36 = .ok (.aload_n 0, 1) := by decide +kernel
theorem dX4_setPrice_37 : decode cX4_setPrice 37 = .ok (.getfield 7, 3) := by decide +kernel
theorem dX4_setPrice_40 : decode cX4_setPrice 40 = .ok (.bipush 23, 2) := by decide +kernel
theorem dX4_setPrice_42 : decode cX4_setPrice 42 = .ok (.iconst 2, 1) := by decide +kernel
theorem dX4_setPrice_43 : decode cX4_setPrice 43 = .ok (.iload_n 1, 1) := by decide +kernel
theorem dX4_setPrice_44 : decode cX4_setPrice 44 = .ok (.imul, 1) := by decide +kernel
theorem dX4_setPrice_45 : decode cX4_setPrice 45 = .ok (.iadd, 1) := by decide +kernel
theorem dX4_setPrice_46 : decode cX4_setPrice 46 = .ok (.iload_n 2, 1) := by decide +kernel
theorem dX4_setPrice_47 : decode cX4_setPrice 47 = .ok (.iastore, 1) := by decide +kernel
theorem dX4_setPrice_48 : decode cX4_setPrice 48 = .ok (.iload_n 3, 1) := by decide +kernel
theorem dX4_setPrice_49 : decode cX4_setPrice 49 = .ok (.ireturn, 1) := by decide +kernel
theorem dX4_newEdition_0 : decode cX4_newEdition 0 = .ok (.aload_n 0, 1) := by decide +kernel
theorem dX4_newEdition_1 : decode cX4_newEdition 1 = .ok (.iload_n 1, 1) := by decide +kernel
theorem dX4_newEdition_2 : decode cX4_newEdition 2 = .ok (.invokevirtual 65, 3) := by decide +kernel
theorem dX4_newEdition_5 : decode cX4_newEdition 5 = .ok (.ifCond .ne 6, 3) := by decide +kernel
theorem dX4_newEdition_8 : decode cX4_newEdition 8 = .ok (.bipush (-2), 2) := by decide +kernel
theorem dX4_newEdition_10 : decode cX4_newEdition 10 = .ok (.ireturn, 1) := by decide +kernel
theorem dX4_newEdition_11 : decode cX4_newEdition 11 = .ok (.aload_n 0, 1) := by decide +kernel
theorem dX4_newEdition_12 : decode cX4_newEdition 12 = .ok (.iload_n 1, 1) := by decide +kernel
theorem dX4_newEdition_13 : decode cX4_newEdition 13 = .ok (.invokevirtual 42, 3) := by decide +kernel
theorem dX4_newEdition_16 : decode cX4_newEdition 16 = .ok (.bipush 30, 2) := by decide +kernel
theorem dX4_newEdition_18 : decode cX4_newEdition 18 = .ok (.if_icmp .ne 6, 3) := by decide +kernel
theorem dX4_newEdition_21 : decode cX4_newEdition 21 = .ok (.bipush (-5), 2) := by decide +kernel
theorem dX4_newEdition_23 : decode cX4_newEdition 23 = .ok (.ireturn, 1) := by decide +kernel
theorem dX4_newEdition_24 : decode cX4_newEdition 24 = .ok (.aload_n 0, 1) := by decide +kernel
theorem dX4_newEdition_25 : decode cX4_newEdition 25 = .ok (.invokevirtual 62, 3) := by decide +kernel
theorem dX4_newEdition_28 : decode cX4_newEdition 28 = .ok (.aload_n 0, 1) := by decide +kernel
theorem dX4_newEdition_29 : decode cX4_newEdition 29 = .ok (.getfield 7, 3) := by decide +kernel
theorem dX4_newEdition_32 : decode cX4_newEdition 32 = .ok (.bipush 23, 2) := by decide +kernel
theorem dX4_newEdition_34 : decode cX4_newEdition 34 = .ok (.iconst 2, 1) := by decide +kernel
theorem dX4_newEdition_35 : decode cX4_newEdition 35 = .ok (.iload_n 1, 1) := by decide +kernel
theorem dX4_newEdition_36 : decode cX4_newEdition 36 = .ok (.imul, 1) := by decide +kernel
theorem dX4_newEdition_37 : decode cX4_newEdition 37 = .ok (.iadd, 1) := by decide +kernel
theorem dX4_newEdition_38 : decode cX4_newEdition 38 = .ok (.iconst 1, 1) := by decide +kernel
theorem dX4_newEdition_39 : decode cX4_newEdition 39 = .ok (.iadd, 1) := by decide +kernel
theorem dX4_newEdition_40 : decode cX4_newEdition 40 = .ok (.dup2, 1) := by decide +kernel
theorem dX4_newEdition_41 : decode cX4_newEdition 41 = .ok (.iaload, 1) := by decide +kernel
theorem dX4_newEdition_42 : decode cX4_newEdition 42 = .ok (.iconst 1, 1) := by decide +kernel
theorem dX4_newEdition_43 : decode cX4_newEdition 43 = .ok (.iadd, 1) := by decide +kernel
theorem dX4_newEdition_44 : decode cX4_newEdition 44 = .ok (.iastore, 1) := by decide +kernel
theorem dX4_newEdition_45 : decode cX4_newEdition 45 = .ok (.aload_n 0, 1) := by decide +kernel
theorem dX4_newEdition_46 : decode cX4_newEdition 46 = .ok (.iload_n 1, 1) := by decide +kernel
theorem dX4_newEdition_47 : decode cX4_newEdition 47 = .ok (.invokevirtual 42, 3) := by decide +kernel
theorem dX4_newEdition_50 : decode cX4_newEdition 50 = .ok (.ireturn, 1) := by decide +kernel
theorem dX4_isCourseLike_0 : decode cX4_isCourseLike 0 = .ok (.iload_n 0, 1) := by decide +kernel
theorem dX4_isCourseLike_1 : decode cX4_isCourseLike 1 = .ok (.iconst 1, 1) := by decide +kernel
theorem dX4_isCourseLike_2 : decode cX4_isCourseLike 2 = .ok (.bipush 30, 2) := by decide +kernel
theorem dX4_isCourseLike_4 : decode cX4_isCourseLike 4 = .ok (.invokestatic 30, 3) := by decide +kernel
theorem dX4_isCourseLike_7 : decode cX4_isCourseLike 7 = .ok (.ifCond .eq 18, 3) := by decide +kernel
theorem dX4_isCourseLike_10 : decode cX4_isCourseLike 10 = .ok (.iload_n 1, 1) := by decide +kernel
theorem dX4_isCourseLike_11 : decode cX4_isCourseLike 11 = .ok (.iconst 0, 1) := by decide +kernel
theorem dX4_isCourseLike_12 : decode cX4_isCourseLike 12 = .ok (.sipush 200, 3) := by decide +kernel
theorem dX4_isCourseLike_15 : decode cX4_isCourseLike 15 = .ok (.invokestatic 30, 3) := by decide +kernel
theorem dX4_isCourseLike_18 : decode cX4_isCourseLike 18 = .ok (.ifCond .eq 7, 3) := by decide +kernel
theorem dX4_isCourseLike_21 : decode cX4_isCourseLike 21 = .ok (.iconst 1, 1) := by decide +kernel
theorem dX4_isCourseLike_22 : decode cX4_isCourseLike 22 = .ok (.goto 4, 3) := by decide +kernel
theorem dX4_isCourseLike_25 : decode cX4_isCourseLike 25 = .ok (.iconst 0, 1) := by decide +kernel
theorem dX4_isCourseLike_26 : decode cX4_isCourseLike 26 = .ok (.ireturn, 1) := by decide +kernel
theorem dX4_addCourse_0 : decode cX4_addCourse 0 = .ok (.aload_n 0, 1) := by decide +kernel
theorem dX4_addCourse_1 : decode cX4_addCourse 1 = .ok (.iload_n 1, 1) := by decide +kernel
theorem dX4_addCourse_2 : decode cX4_addCourse 2 = .ok (.invokevirtual 65, 3) := by decide +kernel
theorem dX4_addCourse_5 : decode cX4_addCourse 5 = .ok (.ifCond .ne 6, 3) := by decide +kernel
theorem dX4_addCourse_8 : decode cX4_addCourse 8 = .ok (.bipush (-2), 2) := by decide +kernel
theorem dX4_addCourse_10 : decode cX4_addCourse 10 = .ok (.ireturn, 1) := by decide +kernel
theorem dX4_addCourse_11 : decode cX4_addCourse 11 = .ok (.iload_n 2, 1) := by decide +kernel
theorem dX4_addCourse_12 : decode cX4_addCourse 12 = .ok (.iload_n 3, 1) := by decide +kernel
theorem dX4_addCourse_13 : decode cX4_addCourse 13 = .ok (.invokestatic 69, 3) := by decide +kernel
theorem dX4_addCourse_16 : decode cX4_addCourse 16 = .ok (.ifCond .ne 6, 3) := by decide +kernel
theorem dX4_addCourse_19 : decode cX4_addCourse 19 = .ok (.bipush (-3), 2) := by decide +kernel
theorem dX4_addCourse_21 : decode cX4_addCourse 21 = .ok (.ireturn, 1) := by decide +kernel
theorem dX4_addCourse_22 : decode cX4_addCourse 22 = .ok (.aload_n 0, 1) := by decide +kernel
theorem dX4_addCourse_23 : decode cX4_addCourse 23 = .ok (.getfield 7, 3) := by decide +kernel
theorem dX4_addCourse_26 : decode cX4_addCourse 26 = .ok (.iconst 2, 1) := by decide +kernel
theorem dX4_addCourse_27 : decode cX4_addCourse 27 = .ok (.iaload, 1) := by decide +kernel
theorem dX4_addCourse_28 : decode cX4_addCourse 28 = .ok (.bipush 6, 2) := by decide +kernel
theorem dX4_addCourse_30 : decode cX4_addCourse 30 = .ok (.if_icmp .ne 6, 3) := by decide +kernel
theorem dX4_addCourse_33 : decode cX4_addCourse 33 = .ok (.bipush (-5), 2) := by decide +kernel
theorem dX4_addCourse_35 : decode cX4_addCourse 35 = .ok (.ireturn, 1) := by decide +kernel
theorem dX4_addCourse_36 : decode cX4_addCourse 36 = .ok (.aload_n 0, 1) := by decide +kernel
theorem dX4_addCourse_37 : decode cX4_addCourse 37 = .ok (.invokevirtual 62, 3) := by decide +kernel
theorem dX4_addCourse_40 : decode cX4_addCourse 40 = .ok (.bipush 35, 2) := by decide +kernel
theorem dX4_addCourse_42 : decode cX4_addCourse 42 = .ok (.iconst 3, 1) := by decide +kernel
theorem dX4_addCourse_43 : decode cX4_addCourse 43 = .ok (.aload_n 0, 1) := by decide +kernel
theorem dX4_addCourse_44 : decode cX4_addCourse 44 = .ok (.getfield 7, 3) := by decide +kernel
theorem dX4_addCourse_47 : decode cX4_addCourse 47 = .ok (.iconst 2, 1) := by decide +kernel
theorem dX4_addCourse_48 : decode cX4_addCourse 48 = .ok (.iaload, 1) := by decide +kernel
theorem dX4_addCourse_49 : decode cX4_addCourse 49 = .ok (.imul, 1) := by decide +kernel
theorem dX4_addCourse_50 : decode cX4_addCourse 50 = .ok (.iadd, 1) := by decide +kernel
theorem dX4_addCourse_51 : decode cX4_addCourse 51 = .ok (.istore 4, 2) := by decide +kernel
theorem dX4_addCourse_53 : decode cX4_addCourse 53 = .ok (.aload_n 0, 1) := by decide +kernel
theorem dX4_addCourse_54 : decode cX4_addCourse 54 = .ok (.getfield 7, 3) := by decide +kernel
theorem dX4_addCourse_57 : decode cX4_addCourse 57 = .ok (.iload 4, 2) := by decide +kernel
theorem dX4_addCourse_59 : decode cX4_addCourse 59 = .ok (.iload_n 1, 1) := by decide +kernel
theorem dX4_addCourse_60 : decode cX4_addCourse 60 = .ok (.iastore, 1) := by decide +kernel
theorem dX4_addCourse_61 : decode cX4_addCourse 61 = .ok (.aload_n 0, 1) := by decide +kernel
theorem dX4_addCourse_62 : decode cX4_addCourse 62 = .ok (.getfield 7, 3) := by decide +kernel
theorem dX4_addCourse_65 : decode cX4_addCourse 65 = .ok (.iload 4, 2) := by decide +kernel
theorem dX4_addCourse_67 : decode cX4_addCourse 67 = .ok (.iconst 1, 1) := by decide +kernel
theorem dX4_addCourse_68 : decode cX4_addCourse 68 = .ok (.iadd, 1) := by decide +kernel
theorem dX4_addCourse_69 : decode cX4_addCourse 69 = .ok (.iload_n 2, 1) := by decide +kernel
theorem dX4_addCourse_70 : decode cX4_addCourse 70 = .ok (.iastore, 1) := by decide +kernel
theorem dX4_addCourse_71 : decode cX4_addCourse 71 = .ok (.aload_n 0, 1) := by decide +kernel
theorem dX4_addCourse_72 : decode cX4_addCourse 72 = .ok (.getfield 7, 3) := by decide +kernel
theorem dX4_addCourse_75 : decode cX4_addCourse 75 = .ok (.iload 4, 2) := by decide +kernel
theorem dX4_addCourse_77 : decode cX4_addCourse 77 = .ok (.iconst 2, 1) := by decide +kernel
theorem dX4_addCourse_78 : decode cX4_addCourse 78 = .ok (.iadd, 1) := by decide +kernel
theorem dX4_addCourse_79 : decode cX4_addCourse 79 = .ok (.iload_n 3, 1) := by decide +kernel
theorem dX4_addCourse_80 : decode cX4_addCourse 80 = .ok (.iastore, 1) := by decide +kernel
theorem dX4_addCourse_81 : decode cX4_addCourse 81 = .ok (.aload_n 0, 1) := by decide +kernel
theorem dX4_addCourse_82 : decode cX4_addCourse 82 = .ok (.getfield 7, 3) := by decide +kernel
theorem dX4_addCourse_85 : decode cX4_addCourse 85 = .ok (.iconst 2, 1) := by decide +kernel
theorem dX4_addCourse_86 : decode cX4_addCourse 86 = .ok (.dup2, 1) := by decide +kernel
theorem dX4_addCourse_87 : decode cX4_addCourse 87 = .ok (.iaload, 1) := by decide +kernel
theorem dX4_addCourse_88 : decode cX4_addCourse 88 = .ok (.iconst 1, 1) := by decide +kernel
theorem dX4_addCourse_89 : decode cX4_addCourse 89 = .ok (.iadd, 1) := by decide +kernel
theorem dX4_addCourse_90 : decode cX4_addCourse 90 = .ok (.iastore, 1) := by decide +kernel
theorem dX4_addCourse_91 : decode cX4_addCourse 91 = .ok (.aload_n 0, 1) := by decide +kernel
theorem dX4_addCourse_92 : decode cX4_addCourse 92 = .ok (.getfield 7, 3) := by decide +kernel
theorem dX4_addCourse_95 : decode cX4_addCourse 95 = .ok (.iconst 2, 1) := by decide +kernel
theorem dX4_addCourse_96 : decode cX4_addCourse 96 = .ok (.iaload, 1) := by decide +kernel
theorem dX4_addCourse_97 : decode cX4_addCourse 97 = .ok (.iconst 1, 1) := by decide +kernel
theorem dX4_addCourse_98 : decode cX4_addCourse 98 = .ok (.isub, 1) := by decide +kernel
theorem dX4_addCourse_99 : decode cX4_addCourse 99 = .ok (.ireturn, 1) := by decide +kernel
theorem dX4_setCourse_0 : decode cX4_setCourse 0 = .ok (.aload_n 0, 1) := by decide +kernel
theorem dX4_setCourse_1 : decode cX4_setCourse 1 = .ok (.iload_n 1, 1) := by decide +kernel
theorem dX4_setCourse_2 : decode cX4_setCourse 2 = .ok (.invokevirtual 72, 3) := by decide +kernel
theorem dX4_setCourse_5 : decode cX4_setCourse 5 = .ok (.ifCond .ne 6, 3) := by decide +kernel
theorem dX4_setCourse_8 : decode cX4_setCourse 8 = .ok (.bipush (-2), 2) := by decide +kernel
theorem dX4_setCourse_10 : decode cX4_setCourse 10 = .ok (.ireturn, 1) := by decide +kernel
theorem dX4_setCourse_11 : decode cX4_setCourse 11 = .ok (.iload_n 2, 1) := by decide +kernel
theorem dX4_setCourse_12 : decode cX4_setCourse 12 = .ok (.iload_n 3, 1) := by decide +kernel
theorem dX4_setCourse_13 : decode cX4_setCourse 13 = .ok (.invokestatic 69, 3) := by decide +kernel
theorem dX4_setCourse_16 : decode cX4_setCourse 16 = .ok (.ifCond .ne 6, 3) := by decide +kernel
theorem dX4_setCourse_19 : decode cX4_setCourse 19 = .ok (.bipush (-3), 2) := by decide +kernel
theorem dX4_setCourse_21 : decode cX4_setCourse 21 = .ok (.ireturn, 1) := by decide +kernel
theorem dX4_setCourse_22 : decode cX4_setCourse 22 = .ok (.aload_n 0, 1) := by decide +kernel
theorem dX4_setCourse_23 : decode cX4_setCourse 23 = .ok (.invokevirtual 62, 3) := by decide +kernel
theorem dX4_setCourse_26 : decode cX4_setCourse 26 = .ok (.aload_n 0, 1) := by decide +kernel
theorem dX4_setCourse_27 : decode cX4_setCourse 27 = .ok (.iload_n 1, 1) := by decide +kernel
theorem dX4_setCourse_28 : decode cX4_setCourse 28 = .ok (.iconst 2, 1) := by decide +kernel
theorem dX4_setCourse_29 : decode cX4_setCourse 29 = .ok (.invokevirtual 52, 3) := by decide +kernel
theorem dX4_setCourse_32 : decode cX4_setCourse 32 = .ok (.istore 4, 2) := by decide +kernel
theorem dX4_setCourse_34 : decode cX4_setCourse 34 = .ok (.aload_n 0, 1) := by decide +kernel
theorem dX4_setCourse_35 : decode cX4_setCourse 35 = .ok (.getfield 7, 3) := by decide +kernel
theorem dX4_setCourse_38 : decode cX4_setCourse 38 = .ok (.bipush 35, 2) := by decide +kernel
theorem dX4_setCourse_40 : decode cX4_setCourse 40 = .ok (.iconst 3, 1) := by decide +kernel
theorem dX4_setCourse_41 : decode cX4_setCourse 41 = .ok (.iload_n 1, 1) := by decide +kernel
theorem dX4_setCourse_42 : decode cX4_setCourse 42 = .ok (.imul, 1) := by decide +kernel
theorem dX4_setCourse_43 : decode cX4_setCourse 43 = .ok (.iadd, 1) := by decide +kernel
theorem dX4_setCourse_44 : decode cX4_setCourse 44 = .ok (.iconst 1, 1) := by decide +kernel
theorem dX4_setCourse_45 : decode cX4_setCourse 45 = .ok (.iadd, 1) := by decide +kernel
theorem dX4_setCourse_46 : decode cX4_setCourse 46 = .ok (.iload_n 2, 1) := by decide +kernel
theorem dX4_setCourse_47 : decode cX4_setCourse 47 = .ok (.iastore, 1) := by decide +kernel
theorem dX4_setCourse_48 : decode cX4_setCourse 48 = .ok (.aload_n 0, 1) := by decide +kernel
theorem dX4_setCourse_49 : decode cX4_setCourse 49 = .ok (.getfield 7, 3) := by decide +kernel
theorem dX4_setCourse_52 : decode cX4_setCourse 52 = .ok (.bipush 35, 2) := by decide +kernel
theorem dX4_setCourse_54 : decode cX4_setCourse 54 = .ok (.iconst 3, 1) := by decide +kernel
theorem dX4_setCourse_55 : decode cX4_setCourse 55 = .ok (.iload_n 1, 1) := by decide +kernel
theorem dX4_setCourse_56 : decode cX4_setCourse 56 = .ok (.imul, 1) := by decide +kernel
theorem dX4_setCourse_57 : decode cX4_setCourse 57 = .ok (.iadd, 1) := by decide +kernel
theorem dX4_setCourse_58 : decode cX4_setCourse 58 = .ok (.iconst 2, 1) := by decide +kernel
theorem dX4_setCourse_59 : decode cX4_setCourse 59 = .ok (.iadd, 1) := by decide +kernel
theorem dX4_setCourse_60 : decode cX4_setCourse 60 = .ok (.iload_n 3, 1) := by decide +kernel
theorem dX4_setCourse_61 : decode cX4_setCourse 61 = .ok (.iastore, 1) := by decide +kernel
theorem dX4_setCourse_62 : decode cX4_setCourse 62 = .ok (.iload 4, 2) := by decide +kernel
theorem dX4_setCourse_64 : decode cX4_setCourse 64 = .ok (.ireturn, 1) := by decide +kernel
theorem dX4_set_0 : decode cX4_set 0 = .ok (.iload_n 1, 1) := by decide +kernel
theorem dX4_set_1 : decode cX4_set 1 = .ok (.iconst 0, 1) := by decide +kernel
theorem dX4_set_2 : decode cX4_set 2 = .ok (.iconst 3, 1) := by decide +kernel
theorem dX4_set_3 : decode cX4_set 3 = .ok (.invokestatic 30, 3) := by decide +kernel
theorem dX4_set_6 : decode cX4_set 6 = .ok (.ifCond .ne 6, 3) := by decide +kernel
theorem dX4_set_9 : decode cX4_set 9 = .ok (.bipush (-2), 2) := by decide +kernel
theorem dX4_set_11 : decode cX4_set 11 = .ok (.ireturn, 1) := by decide +kernel
theorem dX4_set_12 : decode cX4_set 12 = .ok (.iload_n 2, 1) := by decide +kernel
theorem dX4_set_13 : decode cX4_set 13 = .ok (.aload_n 0, 1) := by decide +kernel
theorem dX4_set_14 : decode cX4_set 14 = .ok (.getfield 13, 3) := by decide +kernel
theorem dX4_set_17 : decode cX4_set 17 = .ok (.iload_n 1, 1) := by decide +kernel
theorem dX4_set_18 : decode cX4_set 18 = .ok (.iaload, 1) := by decide +kernel
theorem dX4_set_19 : decode cX4_set 19 = .ok (.aload_n 0, 1) := by decide +kernel
theorem dX4_set_20 : decode cX4_set 20 = .ok (.getfield 16, 3) := by decide +kernel
theorem dX4_set_23 : decode cX4_set 23 = .ok (.iload_n 1, 1) := by decide +kernel
theorem dX4_set_24 : decode cX4_set 24 = .ok (.iaload, 1) := by decide +kernel
theorem dX4_set_25 : decode cX4_set 25 = .ok (.invokestatic 30, 3) := by decide +kernel
theorem dX4_set_28 : decode cX4_set 28 = .ok (.ifCond .ne 6, 3) := by decide +kernel
theorem dX4_set_31 : decode cX4_set 31 = .ok (.bipush (-3), 2) := by decide +kernel
theorem dX4_set_33 : decode cX4_set 33 = .ok (.ireturn, 1) := by decide +kernel
theorem dX4_set_34 : decode cX4_set 34 = .ok (.aload_n 0, 1) := by decide +kernel
theorem dX4_set_35 : decode cX4_set 35 = .ok (.invokevirtual 62, 3) := by decide +kernel
theorem dX4_set_38 : decode cX4_set 38 = .ok (.aload_n 0, 1) := by decide +kernel
theorem dX4_set_39 : decode cX4_set 39 = .ok (.getfield 7, 3) := by decide +kernel
theorem dX4_set_42 : decode cX4_set 42 = .ok (.iconst 4, 1) := by decide +kernel
theorem dX4_set_43 : decode cX4_set 43 = .ok (.iload_n 1, 1) := by decide +kernel
theorem dX4_set_44 : decode cX4_set 44 = .ok (.iadd, 1) := by decide +kernel
theorem dX4_set_45 : decode cX4_set 45 = .ok (.iaload, 1) := by decide +kernel
theorem dX4_set_46 : decode cX4_set 46 = .ok (.istore_n 3, 1) := by decide +kernel
theorem dX4_set_47 : decode cX4_set 47 = .ok (.aload_n 0, 1) := by decide +kernel
theorem dX4_set_48 : decode cX4_set 48 = .ok (.getfield 7, 3) := by decide +kernel
theorem dX4_set_51 : decode cX4_set 51 = .ok (.iconst 4, 1) := by decide +kernel
theorem dX4_set_52 : decode cX4_set 52 = .ok (.iload_n 1, 1) := by decide +kernel
theorem dX4_set_53 : decode cX4_set 53 = .ok (.iadd, 1) := by decide +kernel
theorem dX4_set_54 : decode cX4_set 54 = .ok (.iload_n 2, 1) := by decide +kernel
theorem dX4_set_55 : decode cX4_set 55 = .ok (.iastore, 1) := by decide +kernel
theorem dX4_set_56 : decode cX4_set 56 = .ok (.iload_n 3, 1) := by decide +kernel
theorem dX4_set_57 : decode cX4_set 57 = .ok (.ireturn, 1) := by decide +kernel
theorem dX4_number_0 : decode cX4_number 0 = .ok (.iload_n 1, 1) := by decide +kernel
theorem dX4_number_1 : decode cX4_number 1 = .ok (.iconst 4, 1) := by decide +kernel
theorem dX4_number_2 : decode cX4_number 2 = .ok (.if_icmp .ge 10, 3) := by decide +kernel
theorem dX4_number_5 : decode cX4_number 5 = .ok (.aload_n 0, 1) := by decide +kernel
theorem dX4_number_6 : decode cX4_number 6 = .ok (.getfield 7, 3) := by decide +kernel
theorem dX4_number_9 : decode cX4_number 9 = .ok (.iload_n 1, 1) := by decide +kernel
theorem dX4_number_10 : decode cX4_number 10 = .ok (.iaload, 1) := by decide +kernel
theorem dX4_number_11 : decode cX4_number 11 = .ok (.ireturn, 1) := by decide +kernel
theorem dX4_number_12 : decode cX4_number 12 = .ok (.iload_n 1, 1) := by decide +kernel
theorem dX4_number_13 : decode cX4_number 13 = .ok (.bipush 9, 2) := by decide +kernel
theorem dX4_number_15 : decode cX4_number 15 = .ok (.if_icmp .ge 13, 3) := by decide +kernel
theorem dX4_number_18 : decode cX4_number 18 = .ok (.aload_n 0, 1) := by decide +kernel
theorem dX4_number_19 : decode cX4_number 19 = .ok (.iload_n 1, 1) := by decide +kernel
theorem dX4_number_20 : decode cX4_number 20 = .ok (.iconst 4, 1) := by decide +kernel
theorem dX4_number_21 : decode cX4_number 21 = .ok (.isub, 1) := by decide +kernel
theorem dX4_number_22 : decode cX4_number 22 = .ok (.invokevirtual 75, 3) := by decide +kernel
theorem dX4_number_25 : decode cX4_number 25 = .ok (.goto 40, 3) := by decide +kernel
theorem dX4_number_28 : decode cX4_number 28 = .ok (.iload_n 1, 1) := by decide +kernel
theorem dX4_number_29 : decode cX4_number 29 = .ok (.bipush 9, 2) := by decide +kernel
theorem dX4_number_31 : decode cX4_number 31 = .ok (.if_icmp .ne 23, 3) := by decide +kernel
theorem dX4_number_34 : decode cX4_number 34 = .ok (.aload_n 0, 1) := by decide +kernel
theorem dX4_number_35 : decode cX4_number 35 = .ok (.iconst 0, 1) := by decide +kernel
theorem dX4_number_36 : decode cX4_number 36 = .ok (.invokevirtual 75, 3) := by decide +kernel
theorem dX4_number_39 : decode cX4_number 39 = .ok (.aload_n 0, 1) := by decide +kernel
theorem dX4_number_40 : decode cX4_number 40 = .ok (.iconst 1, 1) := by decide +kernel
theorem dX4_number_41 : decode cX4_number 41 = .ok (.invokevirtual 75, 3) := by decide +kernel
theorem dX4_number_44 : decode cX4_number 44 = .ok (.iadd, 1) := by decide +kernel
theorem dX4_number_45 : decode cX4_number 45 = .ok (.aload_n 0, 1) := by decide +kernel
theorem dX4_number_46 : decode cX4_number 46 = .ok (.iconst 4, 1) := by decide +kernel
theorem dX4_number_47 : decode cX4_number 47 = .ok (.invokevirtual 75, 3) := by decide +kernel
theorem dX4_number_50 : decode cX4_number 50 = .ok (.iadd, 1) := by decide +kernel
theorem dX4_number_51 : decode cX4_number 51 = .ok (.goto 14, 3) := by decide +kernel
theorem dX4_number_54 : decode cX4_number 54 = .ok (.aload_n 0, 1) := by decide +kernel
theorem dX4_number_55 : decode cX4_number 55 = .ok (.getfield 7, 3) := by decide +kernel
theorem dX4_number_58 : decode cX4_number 58 = .ok (.iconst 4, 1) := by decide +kernel
theorem dX4_number_59 : decode cX4_number 59 = .ok (.iload_n 1, 1) := by decide +kernel
theorem dX4_number_60 : decode cX4_number 60 = .ok (.iadd, 1) := by decide +kernel
theorem dX4_number_61 : decode cX4_number 61 = .ok (.bipush 10, 2) := by decide +kernel
theorem dX4_number_63 : decode cX4_number 63 = .ok (.isub, 1) := by decide +kernel
theorem dX4_number_64 : decode cX4_number 64 = .ok (.iaload, 1) := by decide +kernel
theorem dX4_number_65 : decode cX4_number 65 = .ok (.ireturn, 1) := by decide +kernel
theorem dX4_count_0 : decode cX4_count 0 = .ok (.iload_n 1, 1) := by decide +kernel
theorem dX4_count_1 : decode cX4_count 1 = .ok (.iconst 0, 1) := by decide +kernel
theorem dX4_count_2 : decode cX4_count 2 = .ok (.bipush 13, 2) := by decide +kernel
theorem dX4_count_4 : decode cX4_count 4 = .ok (.invokestatic 30, 3) := by decide +kernel
theorem dX4_count_7 : decode cX4_count 7 = .ok (.ifCond .eq 11, 3) := by decide +kernel
theorem dX4_count_10 : decode cX4_count 10 = .ok (.aload_n 0, 1) := by decide +kernel
theorem dX4_count_11 : decode cX4_count 11 = .ok (.iload_n 1, 1) := by decide +kernel
theorem dX4_count_12 : decode cX4_count 12 = .ok (.invokevirtual 78, 3) := by decide +kernel
theorem dX4_count_15 : decode cX4_count 15 = .ok (.goto 5, 3) := by decide +kernel
theorem dX4_count_18 : decode cX4_count 18 = .ok (.bipush (-3), 2) := by decide +kernel
theorem dX4_count_20 : decode cX4_count 20 = .ok (.ireturn, 1) := by decide +kernel
theorem dX4_titleNow_0 : decode cX4_titleNow 0 = .ok (.iload_n 2, 1) := by decide +kernel
theorem dX4_titleNow_1 : decode cX4_titleNow 1 = .ok (.tableswitch 99 0 5 #[39, 45, 51, 57, 63, 92], 39) := by decide +kernel
theorem dX4_titleNow_40 : decode cX4_titleNow 40 = .ok (.aload_n 0, 1) := by decide +kernel
theorem dX4_titleNow_41 : decode cX4_titleNow 41 = .ok (.iload_n 1, 1) := by decide +kernel
theorem dX4_titleNow_42 : decode cX4_titleNow 42 = .ok (.invokevirtual 38, 3) := by decide +kernel
theorem dX4_titleNow_45 : decode cX4_titleNow 45 = .ok (.ireturn, 1) := by decide +kernel
theorem dX4_titleNow_46 : decode cX4_titleNow 46 = .ok (.aload_n 0, 1) := by decide +kernel
theorem dX4_titleNow_47 : decode cX4_titleNow 47 = .ok (.iload_n 1, 1) := by decide +kernel
theorem dX4_titleNow_48 : decode cX4_titleNow 48 = .ok (.invokevirtual 42, 3) := by decide +kernel
theorem dX4_titleNow_51 : decode cX4_titleNow 51 = .ok (.ireturn, 1) := by decide +kernel
theorem dX4_titleNow_52 : decode cX4_titleNow 52 = .ok (.aload_n 0, 1) := by decide +kernel
theorem dX4_titleNow_53 : decode cX4_titleNow 53 = .ok (.iload_n 1, 1) := by decide +kernel
theorem dX4_titleNow_54 : decode cX4_titleNow 54 = .ok (.invokevirtual 81, 3) := by decide +kernel
theorem dX4_titleNow_57 : decode cX4_titleNow 57 = .ok (.ireturn, 1) := by decide +kernel
theorem dX4_titleNow_58 : decode cX4_titleNow 58 = .ok (.aload_n 0, 1) := by decide +kernel
theorem dX4_titleNow_59 : decode cX4_titleNow 59 = .ok (.iload_n 1, 1) := by decide +kernel
theorem dX4_titleNow_60 : decode cX4_titleNow 60 = .ok (.invokevirtual 84, 3) := by decide +kernel
theorem dX4_titleNow_63 : decode cX4_titleNow 63 = .ok (.ireturn, 1) := by decide +kernel
theorem dX4_titleNow_64 : decode cX4_titleNow 64 = .ok (.aload_n 0, 1) := by decide +kernel
theorem dX4_titleNow_65 : decode cX4_titleNow 65 = .ok (.iload_n 1, 1) := by decide +kernel
theorem dX4_titleNow_66 : decode cX4_titleNow 66 = .ok (.invokevirtual 81, 3) := by decide +kernel
theorem dX4_titleNow_69 : decode cX4_titleNow 69 = .ok (.aload_n 0, 1) := by decide +kernel
theorem dX4_titleNow_70 : decode cX4_titleNow 70 = .ok (.iload_n 1, 1) := by decide +kernel
theorem dX4_titleNow_71 : decode cX4_titleNow 71 = .ok (.invokevirtual 84, 3) := by decide +kernel
theorem dX4_titleNow_74 : decode cX4_titleNow 74 = .ok (.if_icmp .le 17, 3) := by decide +kernel
theorem dX4_titleNow_77 : decode cX4_titleNow 77 = .ok (.aload_n 0, 1) := by decide +kernel
theorem dX4_titleNow_78 : decode cX4_titleNow 78 = .ok (.iload_n 1, 1) := by decide +kernel
theorem dX4_titleNow_79 : decode cX4_titleNow 79 = .ok (.invokevirtual 81, 3) := by decide +kernel
theorem dX4_titleNow_82 : decode cX4_titleNow 82 = .ok (.aload_n 0, 1) := by decide +kernel
theorem dX4_titleNow_83 : decode cX4_titleNow 83 = .ok (.iload_n 1, 1) := by decide +kernel
theorem dX4_titleNow_84 : decode cX4_titleNow 84 = .ok (.invokevirtual 84, 3) := by decide +kernel
theorem dX4_titleNow_87 : decode cX4_titleNow 87 = .ok (.isub, 1) := by decide +kernel
theorem dX4_titleNow_88 : decode cX4_titleNow 88 = .ok (.goto 4, 3) := by decide +kernel
theorem dX4_titleNow_91 : decode cX4_titleNow 91 = .ok (.iconst 0, 1) := by decide +kernel
theorem dX4_titleNow_92 : decode cX4_titleNow 92 = .ok (.ireturn, 1) := by decide +kernel
theorem dX4_titleNow_93 : decode cX4_titleNow 93 = .ok (.aload_n 0, 1) := by decide +kernel
theorem dX4_titleNow_94 : decode cX4_titleNow 94 = .ok (.iload_n 1, 1) := by decide +kernel
theorem dX4_titleNow_95 : decode cX4_titleNow 95 = .ok (.iconst (-1), 1) := by decide +kernel
theorem dX4_titleNow_96 : decode cX4_titleNow 96 = .ok (.invokevirtual 87, 3) := by decide +kernel
theorem dX4_titleNow_99 : decode cX4_titleNow 99 = .ok (.ireturn, 1) := by decide +kernel
theorem dX4_titleNow_100 : decode cX4_titleNow 100 = .ok (.aload_n 0, 1) := by decide +kernel
theorem dX4_titleNow_101 : decode cX4_titleNow 101 = .ok (.iload_n 1, 1) := by decide +kernel
theorem dX4_titleNow_102 : decode cX4_titleNow 102 = .ok (.iconst 0, 1) := by decide +kernel
theorem dX4_titleNow_103 : decode cX4_titleNow 103 = .ok (.invokevirtual 87, 3) := by decide +kernel
theorem dX4_titleNow_106 : decode cX4_titleNow 106 = .ok (.ireturn, 1) := by decide +kernel
theorem dX4_title_0 : decode cX4_title 0 = .ok (.aload_n 0, 1) := by decide +kernel
theorem dX4_title_1 : decode cX4_title 1 = .ok (.iload_n 1, 1) := by decide +kernel
theorem dX4_title_2 : decode cX4_title 2 = .ok (.invokevirtual 65, 3) := by decide +kernel
theorem dX4_title_5 : decode cX4_title 5 = .ok (.ifCond .ne 6, 3) := by decide +kernel
theorem dX4_title_8 : decode cX4_title 8 = .ok (.bipush (-2), 2) := by decide +kernel
theorem dX4_title_10 : decode cX4_title 10 = .ok (.ireturn, 1) := by decide +kernel
theorem dX4_title_11 : decode cX4_title 11 = .ok (.iload_n 2, 1) := by decide +kernel
theorem dX4_title_12 : decode cX4_title 12 = .ok (.iconst 0, 1) := by decide +kernel
theorem dX4_title_13 : decode cX4_title 13 = .ok (.bipush 6, 2) := by decide +kernel
theorem dX4_title_15 : decode cX4_title 15 = .ok (.invokestatic 30, 3) := by decide +kernel
theorem dX4_title_18 : decode cX4_title 18 = .ok (.ifCond .eq 12, 3) := by decide +kernel
theorem dX4_title_21 : decode cX4_title 21 = .ok (.aload_n 0, 1) := by decide +kernel
theorem dX4_title_22 : decode cX4_title 22 = .ok (.iload_n 1, 1) := by decide +kernel
theorem dX4_title_23 : decode cX4_title 23 = .ok (.iload_n 2, 1) := by decide +kernel
theorem dX4_title_24 : decode cX4_title 24 = .ok (.invokevirtual 90, 3) := by decide +kernel
theorem dX4_title_27 : decode cX4_title 27 = .ok (.goto 5, 3) := by decide +kernel
theorem dX4_title_30 : decode cX4_title 30 = .ok (.bipush (-3), 2) := by decide +kernel
theorem dX4_title_32 : decode cX4_title 32 = .ok (.ireturn, 1) := by decide +kernel
theorem dX4_takes_0 : decode cX4_takes 0 = .ok (.aload_n 0, 1) := by decide +kernel
theorem dX4_takes_1 : decode cX4_takes 1 = .ok (.iload_n 2, 1) := by decide +kernel
theorem dX4_takes_2 : decode cX4_takes 2 = .ok (.iconst 0, 1) := by decide +kernel
theorem dX4_takes_3 : decode cX4_takes 3 = .ok (.invokevirtual 55, 3) := by decide +kernel
theorem dX4_takes_6 : decode cX4_takes 6 = .ok (.ifCond .eq 37, 3) := by decide +kernel
theorem dX4_takes_9 : decode cX4_takes 9 = .ok (.aload_n 0, 1) := by decide +kernel
theorem dX4_takes_10 : decode cX4_takes 10 = .ok (.iload_n 2, 1) := by decide +kernel
theorem dX4_takes_11 : decode cX4_takes 11 = .ok (.iconst 0, 1) := by decide +kernel
theorem dX4_takes_12 : decode cX4_takes 12 = .ok (.invokevirtual 34, 3) := by decide +kernel
theorem dX4_takes_15 : decode cX4_takes 15 = .ok (.aload_n 0, 1) := by decide +kernel
theorem dX4_takes_16 : decode cX4_takes 16 = .ok (.iload_n 1, 1) := by decide +kernel
theorem dX4_takes_17 : decode cX4_takes 17 = .ok (.iconst 0, 1) := by decide +kernel
theorem dX4_takes_18 : decode cX4_takes 18 = .ok (.invokevirtual 52, 3) := by decide +kernel
theorem dX4_takes_21 : decode cX4_takes 21 = .ok (.if_icmp .ne 22, 3) := by decide +kernel
theorem dX4_takes_24 : decode cX4_takes 24 = .ok (.aload_n 0, 1) := by decide +kernel
theorem dX4_takes_25 : decode cX4_takes 25 = .ok (.iload_n 2, 1) := by decide +kernel
theorem dX4_takes_26 : decode cX4_takes 26 = .ok (.iconst 1, 1) := by decide +kernel
theorem dX4_takes_27 : decode cX4_takes 27 = .ok (.invokevirtual 34, 3) := by decide +kernel
theorem dX4_takes_30 : decode cX4_takes 30 = .ok (.aload_n 0, 1) := by decide +kernel
theorem dX4_takes_31 : decode cX4_takes 31 = .ok (.iload_n 1, 1) := by decide +kernel
theorem dX4_takes_32 : decode cX4_takes 32 = .ok (.iconst 1, 1) := by decide +kernel
theorem dX4_takes_33 : decode cX4_takes 33 = .ok (.invokevirtual 52, 3) := by decide +kernel
theorem dX4_takes_36 : decode cX4_takes 36 = .ok (.if_icmp .lt 7, 3) := by decide +kernel
theorem dX4_takes_39 : decode cX4_takes 39 = .ok (.iconst 1, 1) := by decide +kernel
theorem dX4_takes_40 : decode cX4_takes 40 = .ok (.goto 4, 3) := by decide +kernel
theorem dX4_takes_43 : decode cX4_takes 43 = .ok (.iconst 0, 1) := by decide +kernel
theorem dX4_takes_44 : decode cX4_takes 44 = .ok (.ireturn, 1) := by decide +kernel
theorem dX4_courseNow_0 : decode cX4_courseNow 0 = .ok (.iload_n 2, 1) := by decide +kernel
theorem dX4_courseNow_1 : decode cX4_courseNow 1 = .ok (.iconst 3, 1) := by decide +kernel
theorem dX4_courseNow_2 : decode cX4_courseNow 2 = .ok (.if_icmp .ge 10, 3) := by decide +kernel
theorem dX4_courseNow_5 : decode cX4_courseNow 5 = .ok (.aload_n 0, 1) := by decide +kernel
theorem dX4_courseNow_6 : decode cX4_courseNow 6 = .ok (.iload_n 1, 1) := by decide +kernel
theorem dX4_courseNow_7 : decode cX4_courseNow 7 = .ok (.iload_n 2, 1) := by decide +kernel
theorem dX4_courseNow_8 : decode cX4_courseNow 8 = .ok (.invokevirtual 52, 3) := by decide +kernel
theorem dX4_courseNow_11 : decode cX4_courseNow 11 = .ok (.ireturn, 1) := by decide +kernel
theorem dX4_courseNow_12 : decode cX4_courseNow 12 = .ok (.iconst 0, 1) := by decide +kernel
theorem dX4_courseNow_13 : decode cX4_courseNow 13 = .ok (.istore_n 3, 1) := by decide +kernel
theorem dX4_courseNow_14 : decode cX4_courseNow 14 = .ok (.iconst 0, 1) := by decide +kernel
theorem dX4_courseNow_15 : decode cX4_courseNow 15 = .ok (.istore 4, 2) := by decide +kernel
theorem dX4_courseNow_17 : decode cX4_courseNow 17 = .ok (.iload 4, 2) := by decide +kernel
theorem dX4_courseNow_19 : decode cX4_courseNow 19 = .ok (.aload_n 0, 1) := by decide +kernel
theorem dX4_courseNow_20 : decode cX4_courseNow 20 = .ok (.getfield 7, 3) := by decide +kernel
theorem dX4_courseNow_23 : decode cX4_courseNow 23 = .ok (.iconst 1, 1) := by decide +kernel
theorem dX4_courseNow_24 : decode cX4_courseNow 24 = .ok (.iaload, 1) := by decide +kernel
theorem dX4_courseNow_25 : decode cX4_courseNow 25 = .ok (.if_icmp .ge 27, 3) := by decide +kernel
theorem dX4_courseNow_28 : decode cX4_courseNow 28 = .ok (.iload_n 3, 1) := by decide +kernel
theorem dX4_courseNow_29 : decode cX4_courseNow 29 = .ok (.aload_n 0, 1) := by decide +kernel
theorem dX4_courseNow_30 : decode cX4_courseNow 30 = .ok (.iload_n 1, 1) := by decide +kernel
theorem dX4_courseNow_31 : decode cX4_courseNow 31 = .ok (.iload 4, 2) := by decide +kernel
theorem dX4_courseNow_33 : decode cX4_courseNow 33 = .ok (.invokevirtual 93, 3) := by decide +kernel
theorem dX4_courseNow_36 : decode cX4_courseNow 36 = .ok (.ifCond .eq 7, 3) := by decide +kernel
theorem dX4_courseNow_39 : decode cX4_courseNow 39 = .ok (.iconst 1, 1) := by decide +kernel
theorem dX4_courseNow_40 : decode cX4_courseNow 40 = .ok (.goto 4, 3) := by decide +kernel
theorem dX4_courseNow_43 : decode cX4_courseNow 43 = .ok (.iconst 0, 1) := by decide +kernel
theorem dX4_courseNow_44 : decode cX4_courseNow 44 = .ok (.iadd, 1) := by decide +kernel
theorem dX4_courseNow_45 : decode cX4_courseNow 45 = .ok (.istore_n 3, 1) := by decide +kernel
theorem dX4_courseNow_46 : decode cX4_courseNow 46 = .ok (.iinc 4 1, 3) := by decide +kernel
theorem dX4_courseNow_49 : decode cX4_courseNow 49 = .ok (.goto (-32), 3) := by decide +kernel
theorem dX4_courseNow_52 : decode cX4_courseNow 52 = .ok (.iload_n 3, 1) := by decide +kernel
theorem dX4_courseNow_53 : decode cX4_courseNow 53 = .ok (.ireturn, 1) := by decide +kernel
theorem dX4_course_0 : decode cX4_course 0 = .ok (.aload_n 0, 1) := by decide +kernel
theorem dX4_course_1 : decode cX4_course 1 = .ok (.iload_n 1, 1) := by decide +kernel
theorem dX4_course_2 : decode cX4_course 2 = .ok (.invokevirtual 72, 3) := by decide +kernel
theorem dX4_course_5 : decode cX4_course 5 = .ok (.ifCond .ne 6, 3) := by decide +kernel
theorem dX4_course_8 : decode cX4_course 8 = .ok (.bipush (-2), 2) := by decide +kernel
theorem dX4_course_10 : decode cX4_course 10 = .ok (.ireturn, 1) := by decide +kernel
theorem dX4_course_11 : decode cX4_course 11 = .ok (.iload_n 2, 1) := by decide +kernel
theorem dX4_course_12 : decode cX4_course 12 = .ok (.iconst 0, 1) := by decide +kernel
theorem dX4_course_13 : decode cX4_course 13 = .ok (.iconst 3, 1) := by decide +kernel
theorem dX4_course_14 : decode cX4_course 14 = .ok (.invokestatic 30, 3) := by decide +kernel
theorem dX4_course_17 : decode cX4_course 17 = .ok (.ifCond .eq 12, 3) := by decide +kernel
theorem dX4_course_20 : decode cX4_course 20 = .ok (.aload_n 0, 1) := by decide +kernel
theorem dX4_course_21 : decode cX4_course 21 = .ok (.iload_n 1, 1) := by decide +kernel
theorem dX4_course_22 : decode cX4_course 22 = .ok (.iload_n 2, 1) := by decide +kernel
theorem dX4_course_23 : decode cX4_course 23 = .ok (.invokevirtual 96, 3) := by decide +kernel
theorem dX4_course_26 : decode cX4_course 26 = .ok (.goto 5, 3) := by decide +kernel
theorem dX4_course_29 : decode cX4_course 29 = .ok (.bipush (-3), 2) := by decide +kernel
theorem dX4_course_31 : decode cX4_course 31 = .ok (.ireturn, 1) := by decide +kernel
theorem dX4_late_0 : decode cX4_late 0 = .ok (.aload_n 0, 1) := by decide +kernel
theorem dX4_late_1 : decode cX4_late 1 = .ok (.iload_n 1, 1) := by decide +kernel
theorem dX4_late_2 : decode cX4_late 2 = .ok (.iconst 1, 1) := by decide +kernel
theorem dX4_late_3 : decode cX4_late 3 = .ok (.invokevirtual 55, 3) := by decide +kernel
theorem dX4_late_6 : decode cX4_late 6 = .ok (.ifCond .eq 34, 3) := by decide +kernel
theorem dX4_late_9 : decode cX4_late 9 = .ok (.aload_n 0, 1) := by decide +kernel
theorem dX4_late_10 : decode cX4_late 10 = .ok (.getfield 7, 3) := by decide +kernel
theorem dX4_late_13 : decode cX4_late 13 = .ok (.iconst 3, 1) := by decide +kernel
theorem dX4_late_14 : decode cX4_late 14 = .ok (.iaload, 1) := by decide +kernel
theorem dX4_late_15 : decode cX4_late 15 = .ok (.aload_n 0, 1) := by decide +kernel
theorem dX4_late_16 : decode cX4_late 16 = .ok (.iload_n 1, 1) := by decide +kernel
theorem dX4_late_17 : decode cX4_late 17 = .ok (.iconst 5, 1) := by decide +kernel
theorem dX4_late_18 : decode cX4_late 18 = .ok (.invokevirtual 34, 3) := by decide +kernel
theorem dX4_late_21 : decode cX4_late 21 = .ok (.if_icmp .le 19, 3) := by decide +kernel
theorem dX4_late_24 : decode cX4_late 24 = .ok (.aload_n 0, 1) := by decide +kernel
theorem dX4_late_25 : decode cX4_late 25 = .ok (.getfield 7, 3) := by decide +kernel
theorem dX4_late_28 : decode cX4_late 28 = .ok (.iconst 3, 1) := by decide +kernel
theorem dX4_late_29 : decode cX4_late 29 = .ok (.iaload, 1) := by decide +kernel
theorem dX4_late_30 : decode cX4_late 30 = .ok (.aload_n 0, 1) := by decide +kernel
theorem dX4_late_31 : decode cX4_late 31 = .ok (.iload_n 1, 1) := by decide +kernel
theorem dX4_late_32 : decode cX4_late 32 = .ok (.iconst 5, 1) := by decide +kernel
theorem dX4_late_33 : decode cX4_late 33 = .ok (.invokevirtual 34, 3) := by decide +kernel
theorem dX4_late_36 : decode cX4_late 36 = .ok (.isub, 1) := by decide +kernel
theorem dX4_late_37 : decode cX4_late 37 = .ok (.goto 4, 3) := by decide +kernel
theorem dX4_late_40 : decode cX4_late 40 = .ok (.iconst 0, 1) := by decide +kernel
theorem dX4_late_41 : decode cX4_late 41 = .ok (.ireturn, 1) := by decide +kernel
theorem dX4_copyNow_0 : decode cX4_copyNow 0 = .ok (.iload_n 2, 1) := by decide +kernel
theorem dX4_copyNow_1 : decode cX4_copyNow 1 = .ok (.tableswitch 96 6 10 #[35, 41, 53, 65, 90], 35) := by decide +kernel
theorem dX4_copyNow_36 : decode cX4_copyNow 36 = .ok (.aload_n 0, 1) := by decide +kernel
theorem dX4_copyNow_37 : decode cX4_copyNow 37 = .ok (.iload_n 1, 1) := by decide +kernel
theorem dX4_copyNow_38 : decode cX4_copyNow 38 = .ok (.invokevirtual 99, 3) := by decide +kernel
theorem dX4_copyNow_41 : decode cX4_copyNow 41 = .ok (.ireturn, 1) := by decide +kernel
theorem dX4_copyNow_42 : decode cX4_copyNow 42 = .ok (.aload_n 0, 1) := by decide +kernel
theorem dX4_copyNow_43 : decode cX4_copyNow 43 = .ok (.iload_n 1, 1) := by decide +kernel
theorem dX4_copyNow_44 : decode cX4_copyNow 44 = .ok (.invokevirtual 99, 3) := by decide +kernel
theorem dX4_copyNow_47 : decode cX4_copyNow 47 = .ok (.bipush 30, 2) := by decide +kernel
theorem dX4_copyNow_49 : decode cX4_copyNow 49 = .ok (.imul, 1) := by decide +kernel
theorem dX4_copyNow_50 : decode cX4_copyNow 50 = .ok (.bipush 100, 2) := by decide +kernel
theorem dX4_copyNow_52 : decode cX4_copyNow 52 = .ok (.idiv, 1) := by decide +kernel
theorem dX4_copyNow_53 : decode cX4_copyNow 53 = .ok (.ireturn, 1) := by decide +kernel
theorem dX4_copyNow_54 : decode cX4_copyNow 54 = .ok (.aload_n 0, 1) := by decide +kernel
theorem dX4_copyNow_55 : decode cX4_copyNow 55 = .ok (.iload_n 1, 1) := by decide +kernel
theorem dX4_copyNow_56 : decode cX4_copyNow 56 = .ok (.invokevirtual 99, 3) := by decide +kernel
theorem dX4_copyNow_59 : decode cX4_copyNow 59 = .ok (.bipush 75, 2) := by decide +kernel
theorem dX4_copyNow_61 : decode cX4_copyNow 61 = .ok (.imul, 1) := by decide +kernel
theorem dX4_copyNow_62 : decode cX4_copyNow 62 = .ok (.bipush 100, 2) := by decide +kernel
theorem dX4_copyNow_64 : decode cX4_copyNow 64 = .ok (.idiv, 1) := by decide +kernel
theorem dX4_copyNow_65 : decode cX4_copyNow 65 = .ok (.ireturn, 1) := by decide +kernel
theorem dX4_copyNow_66 : decode cX4_copyNow 66 = .ok (.aload_n 0, 1) := by decide +kernel
theorem dX4_copyNow_67 : decode cX4_copyNow 67 = .ok (.aload_n 0, 1) := by decide +kernel
theorem dX4_copyNow_68 : decode cX4_copyNow 68 = .ok (.iload_n 1, 1) := by decide +kernel
theorem dX4_copyNow_69 : decode cX4_copyNow 69 = .ok (.iconst 0, 1) := by decide +kernel
theorem dX4_copyNow_70 : decode cX4_copyNow 70 = .ok (.invokevirtual 34, 3) := by decide +kernel
theorem dX4_copyNow_73 : decode cX4_copyNow 73 = .ok (.aload_n 0, 1) := by decide +kernel
theorem dX4_copyNow_74 : decode cX4_copyNow 74 = .ok (.iload_n 1, 1) := by decide +kernel
theorem dX4_copyNow_75 : decode cX4_copyNow 75 = .ok (.iconst 1, 1) := by decide +kernel
theorem dX4_copyNow_76 : decode cX4_copyNow 76 = .ok (.invokevirtual 34, 3) := by decide +kernel
theorem dX4_copyNow_79 : decode cX4_copyNow 79 = .ok (.invokevirtual 59, 3) := by decide +kernel
theorem dX4_copyNow_82 : decode cX4_copyNow 82 = .ok (.ifCond .eq 7, 3) := by decide +kernel
theorem dX4_copyNow_85 : decode cX4_copyNow 85 = .ok (.iconst 1, 1) := by decide +kernel
theorem dX4_copyNow_86 : decode cX4_copyNow 86 = .ok (.goto 4, 3) := by decide +kernel
theorem dX4_copyNow_89 : decode cX4_copyNow 89 = .ok (.iconst 0, 1) := by decide +kernel
theorem dX4_copyNow_90 : decode cX4_copyNow 90 = .ok (.ireturn, 1) := by decide +kernel
theorem dX4_copyNow_91 : decode cX4_copyNow 91 = .ok (.aload_n 0, 1) := by decide +kernel
theorem dX4_copyNow_92 : decode cX4_copyNow 92 = .ok (.iload_n 1, 1) := by decide +kernel
theorem dX4_copyNow_93 : decode cX4_copyNow 93 = .ok (.invokevirtual 102, 3) := by decide +kernel
theorem dX4_copyNow_96 : decode cX4_copyNow 96 = .ok (.ireturn, 1) := by decide +kernel
theorem dX4_copyNow_97 : decode cX4_copyNow 97 = .ok (.aload_n 0, 1) := by decide +kernel
theorem dX4_copyNow_98 : decode cX4_copyNow 98 = .ok (.iload_n 1, 1) := by decide +kernel
theorem dX4_copyNow_99 : decode cX4_copyNow 99 = .ok (.iload_n 2, 1) := by decide +kernel
theorem dX4_copyNow_100 : decode cX4_copyNow 100 = .ok (.invokevirtual 34, 3) := by decide +kernel
theorem dX4_copyNow_103 : decode cX4_copyNow 103 = .ok (.ireturn, 1) := by decide +kernel
theorem dX4_copy_0 : decode cX4_copy 0 = .ok (.aload_n 0, 1) := by decide +kernel
theorem dX4_copy_1 : decode cX4_copy 1 = .ok (.iload_n 1, 1) := by decide +kernel
theorem dX4_copy_2 : decode cX4_copy 2 = .ok (.invokevirtual 105, 3) := by decide +kernel
theorem dX4_copy_5 : decode cX4_copy 5 = .ok (.ifCond .ne 6, 3) := by decide +kernel
theorem dX4_copy_8 : decode cX4_copy 8 = .ok (.bipush (-2), 2) := by decide +kernel
theorem dX4_copy_10 : decode cX4_copy 10 = .ok (.ireturn, 1) := by decide +kernel
theorem dX4_copy_11 : decode cX4_copy 11 = .ok (.iload_n 2, 1) := by decide +kernel
theorem dX4_copy_12 : decode cX4_copy 12 = .ok (.iconst 0, 1) := by decide +kernel
theorem dX4_copy_13 : decode cX4_copy 13 = .ok (.bipush 10, 2) := by decide +kernel
theorem dX4_copy_15 : decode cX4_copy 15 = .ok (.invokestatic 30, 3) := by decide +kernel
theorem dX4_copy_18 : decode cX4_copy 18 = .ok (.ifCond .eq 12, 3) := by decide +kernel
theorem dX4_copy_21 : decode cX4_copy 21 = .ok (.aload_n 0, 1) := by decide +kernel
theorem dX4_copy_22 : decode cX4_copy 22 = .ok (.iload_n 1, 1) := by decide +kernel
theorem dX4_copy_23 : decode cX4_copy 23 = .ok (.iload_n 2, 1) := by decide +kernel
theorem dX4_copy_24 : decode cX4_copy 24 = .ok (.invokevirtual 108, 3) := by decide +kernel
theorem dX4_copy_27 : decode cX4_copy 27 = .ok (.goto 5, 3) := by decide +kernel
theorem dX4_copy_30 : decode cX4_copy 30 = .ok (.bipush (-3), 2) := by decide +kernel
theorem dX4_copy_32 : decode cX4_copy 32 = .ok (.ireturn, 1) := by decide +kernel
theorem dX4_sum_0 : decode cX4_sum 0 = .ok (.iload_n 1, 1) := by decide +kernel
theorem dX4_sum_1 : decode cX4_sum 1 = .ok (.bipush 7, 2) := by decide +kernel
theorem dX4_sum_3 : decode cX4_sum 3 = .ok (.if_icmp .ge 13, 3) := by decide +kernel
theorem dX4_sum_6 : decode cX4_sum 6 = .ok (.aload_n 0, 1) := by decide +kernel
theorem dX4_sum_7 : decode cX4_sum 7 = .ok (.getfield 7, 3) := by decide +kernel
theorem dX4_sum_10 : decode cX4_sum 10 = .ok (.bipush 8, 2) := by decide +kernel
theorem dX4_sum_12 : decode cX4_sum 12 = .ok (.iload_n 1, 1) := by decide +kernel
theorem dX4_sum_13 : decode cX4_sum 13 = .ok (.iadd, 1) := by decide +kernel
theorem dX4_sum_14 : decode cX4_sum 14 = .ok (.iaload, 1) := by decide +kernel
theorem dX4_sum_15 : decode cX4_sum 15 = .ok (.ireturn, 1) := by decide +kernel
theorem dX4_sum_16 : decode cX4_sum 16 = .ok (.iconst 0, 1) := by decide +kernel
theorem dX4_sum_17 : decode cX4_sum 17 = .ok (.istore_n 2, 1) := by decide +kernel
theorem dX4_sum_18 : decode cX4_sum 18 = .ok (.iconst 0, 1) := by decide +kernel
theorem dX4_sum_19 : decode cX4_sum 19 = .ok (.istore_n 3, 1) := by decide +kernel
theorem dX4_sum_20 : decode cX4_sum 20 = .ok (.iload_n 3, 1) := by decide +kernel
theorem dX4_sum_21 : decode cX4_sum 21 = .ok (.iconst 5, 1) := by decide +kernel
theorem dX4_sum_22 : decode cX4_sum 22 = .ok (.if_icmp .ge 21, 3) := by decide +kernel
theorem dX4_sum_25 : decode cX4_sum 25 = .ok (.iload_n 2, 1) := by decide +kernel
theorem dX4_sum_26 : decode cX4_sum 26 = .ok (.aload_n 0, 1) := by decide +kernel
theorem dX4_sum_27 : decode cX4_sum 27 = .ok (.getfield 7, 3) := by decide +kernel
theorem dX4_sum_30 : decode cX4_sum 30 = .ok (.bipush 8, 2) := by decide +kernel
theorem dX4_sum_32 : decode cX4_sum 32 = .ok (.iload_n 3, 1) := by decide +kernel
theorem dX4_sum_33 : decode cX4_sum 33 = .ok (.iadd, 1) := by decide +kernel
theorem dX4_sum_34 : decode cX4_sum 34 = .ok (.iaload, 1) := by decide +kernel
theorem dX4_sum_35 : decode cX4_sum 35 = .ok (.iadd, 1) := by decide +kernel
theorem dX4_sum_36 : decode cX4_sum 36 = .ok (.istore_n 2, 1) := by decide +kernel
theorem dX4_sum_37 : decode cX4_sum 37 = .ok (.iinc 3 1, 3) := by decide +kernel
theorem dX4_sum_40 : decode cX4_sum 40 = .ok (.goto (-20), 3) := by decide +kernel
theorem dX4_sum_43 : decode cX4_sum 43 = .ok (.ldc 111, 2) := by decide +kernel
theorem dX4_sum_45 : decode cX4_sum 45 = .ok (.iload_n 2, 1) := by decide +kernel
theorem dX4_sum_46 : decode cX4_sum 46 = .ok (.iadd, 1) := by decide +kernel
theorem dX4_sum_47 : decode cX4_sum 47 = .ok (.aload_n 0, 1) := by decide +kernel
theorem dX4_sum_48 : decode cX4_sum 48 = .ok (.getfield 7, 3) := by decide +kernel
theorem dX4_sum_51 : decode cX4_sum 51 = .ok (.bipush 13, 2) := by decide +kernel
theorem dX4_sum_53 : decode cX4_sum 53 = .ok (.iaload, 1) := by decide +kernel
theorem dX4_sum_54 : decode cX4_sum 54 = .ok (.isub, 1) := by decide +kernel
theorem dX4_sum_55 : decode cX4_sum 55 = .ok (.aload_n 0, 1) := by decide +kernel
theorem dX4_sum_56 : decode cX4_sum 56 = .ok (.getfield 7, 3) := by decide +kernel
theorem dX4_sum_59 : decode cX4_sum 59 = .ok (.bipush 14, 2) := by decide +kernel
theorem dX4_sum_61 : decode cX4_sum 61 = .ok (.iaload, 1) := by decide +kernel
theorem dX4_sum_62 : decode cX4_sum 62 = .ok (.isub, 1) := by decide +kernel
theorem dX4_sum_63 : decode cX4_sum 63 = .ok (.ireturn, 1) := by decide +kernel
theorem dX4_book_0 : decode cX4_book 0 = .ok (.iload_n 1, 1) := by decide +kernel
theorem dX4_book_1 : decode cX4_book 1 = .ok (.iconst 0, 1) := by decide +kernel
theorem dX4_book_2 : decode cX4_book 2 = .ok (.bipush 7, 2) := by decide +kernel
theorem dX4_book_4 : decode cX4_book 4 = .ok (.invokestatic 30, 3) := by decide +kernel
theorem dX4_book_7 : decode cX4_book 7 = .ok (.ifCond .eq 11, 3) := by decide +kernel
theorem dX4_book_10 : decode cX4_book 10 = .ok (.aload_n 0, 1) := by decide +kernel
theorem dX4_book_11 : decode cX4_book 11 = .ok (.iload_n 1, 1) := by decide +kernel
theorem dX4_book_12 : decode cX4_book 12 = .ok (.invokevirtual 112, 3) := by decide +kernel
theorem dX4_book_15 : decode cX4_book 15 = .ok (.goto 5, 3) := by decide +kernel
theorem dX4_book_18 : decode cX4_book 18 = .ok (.bipush (-3), 2) := by decide +kernel
theorem dX4_book_20 : decode cX4_book 20 = .ok (.ireturn, 1) := by decide +kernel
theorem dX4_comes_0 : decode cX4_comes 0 = .ok (.aload_n 0, 1) := by decide +kernel
theorem dX4_comes_1 : decode cX4_comes 1 = .ok (.getfield 7, 3) := by decide +kernel
theorem dX4_comes_4 : decode cX4_comes 4 = .ok (.iconst 1, 1) := by decide +kernel
theorem dX4_comes_5 : decode cX4_comes 5 = .ok (.iaload, 1) := by decide +kernel
theorem dX4_comes_6 : decode cX4_comes 6 = .ok (.istore 4, 2) := by decide +kernel
theorem dX4_comes_8 : decode cX4_comes 8 = .ok (.aload_n 0, 1) := by decide +kernel
theorem dX4_comes_9 : decode cX4_comes 9 = .ok (.iload 4, 2) := by decide +kernel
theorem dX4_comes_11 : decode cX4_comes 11 = .ok (.iconst 0, 1) := by decide +kernel
theorem dX4_comes_12 : decode cX4_comes 12 = .ok (.iload_n 1, 1) := by decide +kernel
theorem dX4_comes_13 : decode cX4_comes 13 = .ok (.invokevirtual 115, 3) := by decide +kernel
theorem dX4_comes_16 : decode cX4_comes 16 = .ok (.aload_n 0, 1) := by decide +kernel
theorem dX4_comes_17 : decode cX4_comes 17 = .ok (.iload 4, 2) := by decide +kernel
theorem dX4_comes_19 : decode cX4_comes 19 = .ok (.iconst 1, 1) := by decide +kernel
theorem dX4_comes_20 : decode cX4_comes 20 = .ok (.iload_n 2, 1) := by decide +kernel
theorem dX4_comes_21 : decode cX4_comes 21 = .ok (.invokevirtual 115, 3) := by decide +kernel
theorem dX4_comes_24 : decode cX4_comes 24 = .ok (.aload_n 0, 1) := by decide +kernel
theorem dX4_comes_25 : decode cX4_comes 25 = .ok (.iload 4, 2) := by decide +kernel
theorem dX4_comes_27 : decode cX4_comes 27 = .ok (.iconst 2, 1) := by decide +kernel
theorem dX4_comes_28 : decode cX4_comes 28 = .ok (.iload_n 3, 1) := by decide +kernel
theorem dX4_comes_29 : decode cX4_comes 29 = .ok (.invokevirtual 115, 3) := by decide +kernel
theorem dX4_comes_32 : decode cX4_comes 32 = .ok (.aload_n 0, 1) := by decide +kernel
theorem dX4_comes_33 : decode cX4_comes 33 = .ok (.iload 4, 2) := by decide +kernel
theorem dX4_comes_35 : decode cX4_comes 35 = .ok (.iconst 3, 1) := by decide +kernel
theorem dX4_comes_36 : decode cX4_comes 36 = .ok (.iconst 0, 1) := by decide +kernel
theorem dX4_comes_37 : decode cX4_comes 37 = .ok (.invokevirtual 115, 3) := by decide +kernel
theorem dX4_comes_40 : decode cX4_comes 40 = .ok (.aload_n 0, 1) := by decide +kernel
theorem dX4_comes_41 : decode cX4_comes 41 = .ok (.iload 4, 2) := by decide +kernel
theorem dX4_comes_43 : decode cX4_comes 43 = .ok (.iconst 4, 1) := by decide +kernel
theorem dX4_comes_44 : decode cX4_comes 44 = .ok (.iconst (-1), 1) := by decide +kernel
theorem dX4_comes_45 : decode cX4_comes 45 = .ok (.invokevirtual 115, 3) := by decide +kernel
theorem dX4_comes_48 : decode cX4_comes 48 = .ok (.aload_n 0, 1) := by decide +kernel
theorem dX4_comes_49 : decode cX4_comes 49 = .ok (.iload 4, 2) := by decide +kernel
theorem dX4_comes_51 : decode cX4_comes 51 = .ok (.iconst 5, 1) := by decide +kernel
theorem dX4_comes_52 : decode cX4_comes 52 = .ok (.iconst (-1), 1) := by decide +kernel
theorem dX4_comes_53 : decode cX4_comes 53 = .ok (.invokevirtual 115, 3) := by decide +kernel
theorem dX4_comes_56 : decode cX4_comes 56 = .ok (.aload_n 0, 1) := by decide +kernel
theorem dX4_comes_57 : decode cX4_comes 57 = .ok (.getfield 7, 3) := by decide +kernel
theorem dX4_comes_60 : decode cX4_comes 60 = .ok (.iconst 1, 1) := by decide +kernel
theorem dX4_comes_61 : decode cX4_comes 61 = .ok (.dup2, 1) := by decide +kernel
theorem dX4_comes_62 : decode cX4_comes 62 = .ok (.iaload, 1) := by decide +kernel
theorem dX4_comes_63 : decode cX4_comes 63 = .ok (.iconst 1, 1) := by decide +kernel
theorem dX4_comes_64 : decode cX4_comes 64 = .ok (.iadd, 1) := by decide +kernel
theorem dX4_comes_65 : decode cX4_comes 65 = .ok (.iastore, 1) := by decide +kernel
theorem dX4_comes_66 : decode cX4_comes 66 = .ok (.return_, 1) := by decide +kernel
theorem dX4_goes_0 : decode cX4_goes 0 = .ok (.aload_n 0, 1) := by decide +kernel
theorem dX4_goes_1 : decode cX4_goes 1 = .ok (.iload_n 1, 1) := by decide +kernel
theorem dX4_goes_2 : decode cX4_goes 2 = .ok (.iconst 3, 1) := by decide +kernel
theorem dX4_goes_3 : decode cX4_goes 3 = .ok (.iload_n 2, 1) := by decide +kernel
theorem dX4_goes_4 : decode cX4_goes 4 = .ok (.invokevirtual 115, 3) := by decide +kernel
theorem dX4_goes_7 : decode cX4_goes 7 = .ok (.aload_n 0, 1) := by decide +kernel
theorem dX4_goes_8 : decode cX4_goes 8 = .ok (.iload_n 1, 1) := by decide +kernel
theorem dX4_goes_9 : decode cX4_goes 9 = .ok (.iconst 4, 1) := by decide +kernel
theorem dX4_goes_10 : decode cX4_goes 10 = .ok (.iconst (-1), 1) := by decide +kernel
theorem dX4_goes_11 : decode cX4_goes 11 = .ok (.invokevirtual 115, 3) := by decide +kernel
theorem dX4_goes_14 : decode cX4_goes 14 = .ok (.aload_n 0, 1) := by decide +kernel
theorem dX4_goes_15 : decode cX4_goes 15 = .ok (.iload_n 1, 1) := by decide +kernel
theorem dX4_goes_16 : decode cX4_goes 16 = .ok (.iconst 5, 1) := by decide +kernel
theorem dX4_goes_17 : decode cX4_goes 17 = .ok (.iconst (-1), 1) := by decide +kernel
theorem dX4_goes_18 : decode cX4_goes 18 = .ok (.invokevirtual 115, 3) := by decide +kernel
theorem dX4_goes_21 : decode cX4_goes 21 = .ok (.return_, 1) := by decide +kernel
theorem dX4_cannotBuy_0 : decode cX4_cannotBuy 0 = .ok (.aload_n 0, 1) := by decide +kernel
theorem dX4_cannotBuy_1 : decode cX4_cannotBuy 1 = .ok (.iload_n 1, 1) := by decide +kernel
theorem dX4_cannotBuy_2 : decode cX4_cannotBuy 2 = .ok (.invokevirtual 65, 3) := by decide +kernel
theorem dX4_cannotBuy_5 : decode cX4_cannotBuy 5 = .ok (.ifCond .ne 6, 3) := by decide +kernel
theorem dX4_cannotBuy_8 : decode cX4_cannotBuy 8 = .ok (.bipush (-2), 2) := by decide +kernel
theorem dX4_cannotBuy_10 : decode cX4_cannotBuy 10 = .ok (.ireturn, 1) := by decide +kernel
theorem dX4_cannotBuy_11 : decode cX4_cannotBuy 11 = .ok (.iload_n 2, 1) := by decide +kernel
theorem dX4_cannotBuy_12 : decode cX4_cannotBuy 12 = .ok (.iconst 1, 1) := by decide +kernel
theorem dX4_cannotBuy_13 : decode cX4_cannotBuy 13 = .ok (.bipush 20, 2) := by decide +kernel
theorem dX4_cannotBuy_15 : decode cX4_cannotBuy 15 = .ok (.invokestatic 30, 3) := by decide +kernel
theorem dX4_cannotBuy_18 : decode cX4_cannotBuy 18 = .ok (.ifCond .ne 6, 3) := by decide +kernel
theorem dX4_cannotBuy_21 : decode cX4_cannotBuy 21 = .ok (.bipush (-3), 2) := by decide +kernel
theorem dX4_cannotBuy_23 : decode cX4_cannotBuy 23 = .ok (.ireturn, 1) := by decide +kernel
theorem dX4_cannotBuy_24 : decode cX4_cannotBuy 24 = .ok (.aload_n 0, 1) := by decide +kernel
theorem dX4_cannotBuy_25 : decode cX4_cannotBuy 25 = .ok (.getfield 7, 3) := by decide +kernel
theorem dX4_cannotBuy_28 : decode cX4_cannotBuy 28 = .ok (.iconst 1, 1) := by decide +kernel
theorem dX4_cannotBuy_29 : decode cX4_cannotBuy 29 = .ok (.iaload, 1) := by decide +kernel
theorem dX4_cannotBuy_30 : decode cX4_cannotBuy 30 = .ok (.iload_n 2, 1) := by decide +kernel
theorem dX4_cannotBuy_31 : decode cX4_cannotBuy 31 = .ok (.iadd, 1) := by decide +kernel
theorem dX4_cannotBuy_32 : decode cX4_cannotBuy 32 = .ok (.bipush 60, 2) := by decide +kernel
theorem dX4_cannotBuy_34 : decode cX4_cannotBuy 34 = .ok (.if_icmp .le 8, 3) := by decide +kernel
theorem dX4_cannotBuy_37 : decode cX4_cannotBuy 37 = .ok (.bipush (-5), 2) := by decide +kernel
theorem dX4_cannotBuy_39 : decode cX4_cannotBuy 39 = .ok (.goto 4, 3) := by decide +kernel
theorem dX4_cannotBuy_42 : decode cX4_cannotBuy 42 = .ok (.iconst 0, 1) := by decide +kernel
theorem dX4_cannotBuy_43 : decode cX4_cannotBuy 43 = .ok (.ireturn, 1) := by decide +kernel
theorem dX4_buys_0 : decode cX4_buys 0 = .ok (.aload_n 0, 1) := by decide +kernel
theorem dX4_buys_1 : decode cX4_buys 1 = .ok (.getfield 7, 3) := by decide +kernel
theorem dX4_buys_4 : decode cX4_buys 4 = .ok (.iconst 1, 1) := by decide +kernel
theorem dX4_buys_5 : decode cX4_buys 5 = .ok (.iaload, 1) := by decide +kernel
theorem dX4_buys_6 : decode cX4_buys 6 = .ok (.istore_n 3, 1) := by decide +kernel
theorem dX4_buys_7 : decode cX4_buys 7 = .ok (.iconst 0, 1) := by decide +kernel
theorem dX4_buys_8 : decode cX4_buys 8 = .ok (.istore 4, 2) := by decide +kernel
theorem dX4_buys_10 : decode cX4_buys 10 = .ok (.iload 4, 2) := by decide +kernel
theorem dX4_buys_12 : decode cX4_buys 12 = .ok (.iload_n 2, 1) := by decide +kernel
theorem dX4_buys_13 : decode cX4_buys 13 = .ok (.if_icmp .ge 20, 3) := by decide +kernel
theorem dX4_buys_16 : decode cX4_buys 16 = .ok (.aload_n 0, 1) := by decide +kernel
theorem dX4_buys_17 : decode cX4_buys 17 = .ok (.iload_n 1, 1) := by decide +kernel
theorem dX4_buys_18 : decode cX4_buys 18 = .ok (.aload_n 0, 1) := by decide +kernel
theorem dX4_buys_19 : decode cX4_buys 19 = .ok (.iload_n 1, 1) := by decide +kernel
theorem dX4_buys_20 : decode cX4_buys 20 = .ok (.invokevirtual 42, 3) := by decide +kernel
theorem dX4_buys_23 : decode cX4_buys 23 = .ok (.iconst 0, 1) := by decide +kernel
theorem dX4_buys_24 : decode cX4_buys 24 = .ok (.invokevirtual 119, 3) := by decide +kernel
theorem dX4_buys_27 : decode cX4_buys 27 = .ok (.iinc 4 1, 3) := by decide +kernel
theorem dX4_buys_30 : decode cX4_buys 30 = .ok (.goto (-20), 3) := by decide +kernel
theorem dX4_buys_33 : decode cX4_buys 33 = .ok (.aload_n 0, 1) := by decide +kernel
theorem dX4_buys_34 : decode cX4_buys 34 = .ok (.getfield 7, 3) := by decide +kernel
theorem dX4_buys_37 : decode cX4_buys 37 = .ok (.bipush 13, 2) := by decide +kernel
theorem dX4_buys_39 : decode cX4_buys 39 = .ok (.dup2, 1) := by decide +kernel
theorem dX4_buys_40 : decode cX4_buys 40 = .ok (.iaload, 1) := by decide +kernel
theorem dX4_buys_41 : decode cX4_buys 41 = .ok (.iload_n 2, 1) := by decide +kernel
theorem dX4_buys_42 : decode cX4_buys 42 = .ok (.aload_n 0, 1) := by decide +kernel
theorem dX4_buys_43 : decode cX4_buys 43 = .ok (.iload_n 1, 1) := by decide +kernel
theorem dX4_buys_44 : decode cX4_buys 44 = .ok (.invokevirtual 38, 3) := by decide +kernel
theorem dX4_buys_47 : decode cX4_buys 47 = .ok (.imul, 1) := by decide +kernel
theorem dX4_buys_48 : decode cX4_buys 48 = .ok (.iadd, 1) := by decide +kernel
theorem dX4_buys_49 : decode cX4_buys 49 = .ok (.iastore, 1) := by decide +kernel
theorem dX4_buys_50 : decode cX4_buys 50 = .ok (.iload_n 3, 1) := by decide +kernel
theorem dX4_buys_51 : decode cX4_buys 51 = .ok (.ireturn, 1) := by decide +kernel
theorem dX4_buy_0 : decode cX4_buy 0 = .ok (.aload_n 0, 1) := by decide +kernel
theorem dX4_buy_1 : decode cX4_buy 1 = .ok (.iload_n 1, 1) := by decide +kernel
theorem dX4_buy_2 : decode cX4_buy 2 = .ok (.iload_n 2, 1) := by decide +kernel
theorem dX4_buy_3 : decode cX4_buy 3 = .ok (.invokevirtual 122, 3) := by decide +kernel
theorem dX4_buy_6 : decode cX4_buy 6 = .ok (.istore_n 3, 1) := by decide +kernel
theorem dX4_buy_7 : decode cX4_buy 7 = .ok (.iload_n 3, 1) := by decide +kernel
theorem dX4_buy_8 : decode cX4_buy 8 = .ok (.ifCond .eq 5, 3) := by decide +kernel
theorem dX4_buy_11 : decode cX4_buy 11 = .ok (.iload_n 3, 1) := by decide +kernel
theorem dX4_buy_12 : decode cX4_buy 12 = .ok (.ireturn, 1) := by decide +kernel
theorem dX4_buy_13 : decode cX4_buy 13 = .ok (.aload_n 0, 1) := by decide +kernel
theorem dX4_buy_14 : decode cX4_buy 14 = .ok (.invokevirtual 62, 3) := by decide +kernel
theorem dX4_buy_17 : decode cX4_buy 17 = .ok (.aload_n 0, 1) := by decide +kernel
theorem dX4_buy_18 : decode cX4_buy 18 = .ok (.iload_n 1, 1) := by decide +kernel
theorem dX4_buy_19 : decode cX4_buy 19 = .ok (.iload_n 2, 1) := by decide +kernel
theorem dX4_buy_20 : decode cX4_buy 20 = .ok (.invokevirtual 125, 3) := by decide +kernel
theorem dX4_buy_23 : decode cX4_buy 23 = .ok (.ireturn, 1) := by decide +kernel
theorem dX4_offered_0 : decode cX4_offered 0 = .ok (.aload_n 0, 1) := by decide +kernel
theorem dX4_offered_1 : decode cX4_offered 1 = .ok (.iload_n 1, 1) := by decide +kernel
theorem dX4_offered_2 : decode cX4_offered 2 = .ok (.iload_n 2, 1) := by decide +kernel
theorem dX4_offered_3 : decode cX4_offered 3 = .ok (.iload_n 3, 1) := by decide +kernel
theorem dX4_offered_4 : decode cX4_offered 4 = .ok (.invokevirtual 48, 3) := by decide +kernel
theorem dX4_offered_7 : decode cX4_offered 7 = .ok (.bipush 40, 2) := by decide +kernel
theorem dX4_offered_9 : decode cX4_offered 9 = .ok (.imul, 1) := by decide +kernel
theorem dX4_offered_10 : decode cX4_offered 10 = .ok (.bipush 100, 2) := by decide +kernel
theorem dX4_offered_12 : decode cX4_offered 12 = .ok (.idiv, 1) := by decide +kernel
theorem dX4_offered_13 : decode cX4_offered 13 = .ok (.istore 4, 2) := by decide +kernel
theorem dX4_offered_15 : decode cX4_offered 15 = .ok (.aload_n 0, 1) := by decide +kernel
theorem dX4_offered_16 : decode cX4_offered 16 = .ok (.iload_n 1, 1) := by decide +kernel
theorem dX4_offered_17 : decode cX4_offered 17 = .ok (.iload_n 2, 1) := by decide +kernel
theorem dX4_offered_18 : decode cX4_offered 18 = .ok (.invokevirtual 59, 3) := by decide +kernel
theorem dX4_offered_21 : decode cX4_offered 21 = .ok (.ifCond .ne 7, 3) := by decide +kernel
theorem dX4_offered_24 : decode cX4_offered 24 = .ok (.iconst 0, 1) := by decide +kernel
theorem dX4_offered_25 : decode cX4_offered 25 = .ok (.goto 25, 3) := by decide +kernel
theorem dX4_offered_28 : decode cX4_offered 28 = .ok (.aload_n 0, 1) := by decide +kernel
theorem dX4_offered_29 : decode cX4_offered 29 = .ok (.iload_n 1, 1) := by decide +kernel
theorem dX4_offered_30 : decode cX4_offered 30 = .ok (.invokevirtual 84, 3) := by decide +kernel
theorem dX4_offered_33 : decode cX4_offered 33 = .ok (.aload_n 0, 1) := by decide +kernel
theorem dX4_offered_34 : decode cX4_offered 34 = .ok (.iload_n 1, 1) := by decide +kernel
theorem dX4_offered_35 : decode cX4_offered 35 = .ok (.invokevirtual 81, 3) := by decide +kernel
theorem dX4_offered_38 : decode cX4_offered 38 = .ok (.if_icmp .lt 10, 3) := by decide +kernel
theorem dX4_offered_41 : decode cX4_offered 41 = .ok (.iload 4, 2) := by decide +kernel
theorem dX4_offered_43 : decode cX4_offered 43 = .ok (.iconst 2, 1) := by decide +kernel
theorem dX4_offered_44 : decode cX4_offered 44 = .ok (.idiv, 1) := by decide +kernel
theorem dX4_offered_45 : decode cX4_offered 45 = .ok (.goto 5, 3) := by decide +kernel
theorem dX4_offered_48 : decode cX4_offered 48 = .ok (.iload 4, 2) := by decide +kernel
theorem dX4_offered_50 : decode cX4_offered 50 = .ok (.ireturn, 1) := by decide +kernel
theorem dX4_cannotOffer_0 : decode cX4_cannotOffer 0 = .ok (.aload_n 0, 1) := by decide +kernel
theorem dX4_cannotOffer_1 : decode cX4_cannotOffer 1 = .ok (.iload_n 1, 1) := by decide +kernel
theorem dX4_cannotOffer_2 : decode cX4_cannotOffer 2 = .ok (.invokevirtual 65, 3) := by decide +kernel
theorem dX4_cannotOffer_5 : decode cX4_cannotOffer 5 = .ok (.ifCond .ne 6, 3) := by decide +kernel
theorem dX4_cannotOffer_8 : decode cX4_cannotOffer 8 = .ok (.bipush (-2), 2) := by decide +kernel
theorem dX4_cannotOffer_10 : decode cX4_cannotOffer 10 = .ok (.ireturn, 1) := by decide +kernel
theorem dX4_cannotOffer_11 : decode cX4_cannotOffer 11 = .ok (.iload_n 2, 1) := by decide +kernel
theorem dX4_cannotOffer_12 : decode cX4_cannotOffer 12 = .ok (.iconst 1, 1) := by decide +kernel
theorem dX4_cannotOffer_13 : decode cX4_cannotOffer 13 = .ok (.bipush 30, 2) := by decide +kernel
theorem dX4_cannotOffer_15 : decode cX4_cannotOffer 15 = .ok (.invokestatic 30, 3) := by decide +kernel
theorem dX4_cannotOffer_18 : decode cX4_cannotOffer 18 = .ok (.ifCond .eq 16, 3) := by decide +kernel
theorem dX4_cannotOffer_21 : decode cX4_cannotOffer 21 = .ok (.iload_n 3, 1) := by decide +kernel
theorem dX4_cannotOffer_22 : decode cX4_cannotOffer 22 = .ok (.iconst 0, 1) := by decide +kernel
theorem dX4_cannotOffer_23 : decode cX4_cannotOffer 23 = .ok (.iconst 4, 1) := by decide +kernel
theorem dX4_cannotOffer_24 : decode cX4_cannotOffer 24 = .ok (.invokestatic 30, 3) := by decide +kernel
theorem dX4_cannotOffer_27 : decode cX4_cannotOffer 27 = .ok (.ifCond .eq 7, 3) := by decide +kernel
theorem dX4_cannotOffer_30 : decode cX4_cannotOffer 30 = .ok (.iconst 0, 1) := by decide +kernel
theorem dX4_cannotOffer_31 : decode cX4_cannotOffer 31 = .ok (.goto 5, 3) := by decide +kernel
theorem dX4_cannotOffer_34 : decode cX4_cannotOffer 34 = .ok (.bipush (-3), 2) := by decide +kernel
theorem dX4_cannotOffer_36 : decode cX4_cannotOffer 36 = .ok (.ireturn, 1) := by decide +kernel
theorem dX4_offer_0 : decode cX4_offer 0 = .ok (.aload_n 0, 1) := by decide +kernel
theorem dX4_offer_1 : decode cX4_offer 1 = .ok (.iload_n 1, 1) := by decide +kernel
theorem dX4_offer_2 : decode cX4_offer 2 = .ok (.iload_n 2, 1) := by decide +kernel
theorem dX4_offer_3 : decode cX4_offer 3 = .ok (.iload_n 3, 1) := by decide +kernel
theorem dX4_offer_4 : decode cX4_offer 4 = .ok (.invokevirtual 128, 3) := by decide +kernel
theorem dX4_offer_7 : decode cX4_offer 7 = .ok (.istore 4, 2) := by decide +kernel
theorem dX4_offer_9 : decode cX4_offer 9 = .ok (.iload 4, 2) := by decide +kernel
theorem dX4_offer_11 : decode cX4_offer 11 = .ok (.ifCond .eq 8, 3) := by decide +kernel
theorem dX4_offer_14 : decode cX4_offer 14 = .ok (.iload 4, 2) := by decide +kernel
theorem dX4_offer_16 : decode cX4_offer 16 = .ok (.goto 10, 3) := by decide +kernel
theorem dX4_offer_19 : decode cX4_offer 19 = .ok (.aload_n 0, 1) := by decide +kernel
theorem dX4_offer_20 : decode cX4_offer 20 = .ok (.iload_n 1, 1) := by decide +kernel
theorem dX4_offer_21 : decode cX4_offer 21 = .ok (.iload_n 2, 1) := by decide +kernel
theorem dX4_offer_22 : decode cX4_offer 22 = .ok (.iload_n 3, 1) := by decide +kernel
theorem dX4_offer_23 : decode cX4_offer 23 = .ok (.invokevirtual 131, 3) := by decide +kernel
theorem dX4_offer_26 : decode cX4_offer 26 = .ok (.ireturn, 1) := by decide +kernel
theorem dX4_buyBack_0 : decode cX4_buyBack 0 = .ok (.aload_n 0, 1) := by decide +kernel
theorem dX4_buyBack_1 : decode cX4_buyBack 1 = .ok (.iload_n 1, 1) := by decide +kernel
theorem dX4_buyBack_2 : decode cX4_buyBack 2 = .ok (.iload_n 2, 1) := by decide +kernel
theorem dX4_buyBack_3 : decode cX4_buyBack 3 = .ok (.iload_n 3, 1) := by decide +kernel
theorem dX4_buyBack_4 : decode cX4_buyBack 4 = .ok (.invokevirtual 128, 3) := by decide +kernel
theorem dX4_buyBack_7 : decode cX4_buyBack 7 = .ok (.istore 4, 2) := by decide +kernel
theorem dX4_buyBack_9 : decode cX4_buyBack 9 = .ok (.iload 4, 2) := by decide +kernel
theorem dX4_buyBack_11 : decode cX4_buyBack 11 = .ok (.ifCond .eq 6, 3) := by decide +kernel
theorem dX4_buyBack_14 : decode cX4_buyBack 14 = .ok (.iload 4, 2) := by decide +kernel
theorem dX4_buyBack_16 : decode cX4_buyBack 16 = .ok (.ireturn, 1) := by decide +kernel
theorem dX4_buyBack_17 : decode cX4_buyBack 17 = .ok (.aload_n 0, 1) := by decide +kernel
theorem dX4_buyBack_18 : decode cX4_buyBack 18 = .ok (.iload_n 1, 1) := by decide +kernel
theorem dX4_buyBack_19 : decode cX4_buyBack 19 = .ok (.iload_n 2, 1) := by decide +kernel
theorem dX4_buyBack_20 : decode cX4_buyBack 20 = .ok (.iload_n 3, 1) := by decide +kernel
theorem dX4_buyBack_21 : decode cX4_buyBack 21 = .ok (.invokevirtual 131, 3) := by decide +kernel
theorem dX4_buyBack_24 : decode cX4_buyBack 24 = .ok (.istore 5, 2) := by decide +kernel
theorem dX4_buyBack_26 : decode cX4_buyBack 26 = .ok (.iload 5, 2) := by decide +kernel
theorem dX4_buyBack_28 : decode cX4_buyBack 28 = .ok (.ifCond .ne 6, 3) := by decide +kernel
theorem dX4_buyBack_31 : decode cX4_buyBack 31 = .ok (.bipush (-4), 2) := by decide +kernel
theorem dX4_buyBack_33 : decode cX4_buyBack 33 = .ok (.ireturn, 1) := by decide +kernel
theorem dX4_buyBack_34 : decode cX4_buyBack 34 = .ok (.aload_n 0, 1) := by decide +kernel
theorem dX4_buyBack_35 : decode cX4_buyBack 35 = .ok (.getfield 7, 3) := by decide +kernel
theorem dX4_buyBack_38 : decode cX4_buyBack 38 = .ok (.iconst 1, 1) := by decide +kernel
theorem dX4_buyBack_39 : decode cX4_buyBack 39 = .ok (.iaload, 1) := by decide +kernel
theorem dX4_buyBack_40 : decode cX4_buyBack 40 = .ok (.bipush 60, 2) := by decide +kernel
theorem dX4_buyBack_42 : decode cX4_buyBack 42 = .ok (.if_icmp .ne 6, 3) := by decide +kernel
theorem dX4_buyBack_45 : decode cX4_buyBack 45 = .ok (.bipush (-5), 2) := by decide +kernel
theorem dX4_buyBack_47 : decode cX4_buyBack 47 = .ok (.ireturn, 1) := by decide +kernel
theorem dX4_buyBack_48 : decode cX4_buyBack 48 = .ok (.aload_n 0, 1) := by decide +kernel
theorem dX4_buyBack_49 : decode cX4_buyBack 49 = .ok (.invokevirtual 62, 3) := by decide +kernel
theorem dX4_buyBack_52 : decode cX4_buyBack 52 = .ok (.aload_n 0, 1) := by decide +kernel
theorem dX4_buyBack_53 : decode cX4_buyBack 53 = .ok (.iload_n 1, 1) := by decide +kernel
theorem dX4_buyBack_54 : decode cX4_buyBack 54 = .ok (.iload_n 2, 1) := by decide +kernel
theorem dX4_buyBack_55 : decode cX4_buyBack 55 = .ok (.iload_n 3, 1) := by decide +kernel
theorem dX4_buyBack_56 : decode cX4_buyBack 56 = .ok (.invokevirtual 119, 3) := by decide +kernel
theorem dX4_buyBack_59 : decode cX4_buyBack 59 = .ok (.aload_n 0, 1) := by decide +kernel
theorem dX4_buyBack_60 : decode cX4_buyBack 60 = .ok (.getfield 7, 3) := by decide +kernel
theorem dX4_buyBack_63 : decode cX4_buyBack 63 = .ok (.bipush 14, 2) := by decide +kernel
theorem dX4_buyBack_65 : decode cX4_buyBack 65 = .ok (.dup2, 1) := by decide +kernel
theorem dX4_buyBack_66 : decode cX4_buyBack 66 = .ok (.iaload, 1) := by decide +kernel
theorem dX4_buyBack_67 : decode cX4_buyBack 67 = .ok (.iload 5, 2) := by decide +kernel
theorem dX4_buyBack_69 : decode cX4_buyBack 69 = .ok (.iadd, 1) := by decide +kernel
theorem dX4_buyBack_70 : decode cX4_buyBack 70 = .ok (.iastore, 1) := by decide +kernel
theorem dX4_buyBack_71 : decode cX4_buyBack 71 = .ok (.aload_n 0, 1) := by decide +kernel
theorem dX4_buyBack_72 : decode cX4_buyBack 72 = .ok (.getfield 7, 3) := by decide +kernel
theorem dX4_buyBack_75 : decode cX4_buyBack 75 = .ok (.iconst 1, 1) := by decide +kernel
theorem dX4_buyBack_76 : decode cX4_buyBack 76 = .ok (.iaload, 1) := by decide +kernel
theorem dX4_buyBack_77 : decode cX4_buyBack 77 = .ok (.iconst 1, 1) := by decide +kernel
theorem dX4_buyBack_78 : decode cX4_buyBack 78 = .ok (.isub, 1) := by decide +kernel
theorem dX4_buyBack_79 : decode cX4_buyBack 79 = .ok (.ireturn, 1) := by decide +kernel
theorem dX4_cannotSell_0 : decode cX4_cannotSell 0 = .ok (.aload_n 0, 1) := by decide +kernel
theorem dX4_cannotSell_1 : decode cX4_cannotSell 1 = .ok (.iload_n 1, 1) := by decide +kernel
theorem dX4_cannotSell_2 : decode cX4_cannotSell 2 = .ok (.invokevirtual 105, 3) := by decide +kernel
theorem dX4_cannotSell_5 : decode cX4_cannotSell 5 = .ok (.ifCond .ne 8, 3) := by decide +kernel
theorem dX4_cannotSell_8 : decode cX4_cannotSell 8 = .ok (.bipush (-2), 2) := by decide +kernel
theorem dX4_cannotSell_10 : decode cX4_cannotSell 10 = .ok (.goto 18, 3) := by decide +kernel
theorem dX4_cannotSell_13 : decode cX4_cannotSell 13 = .ok (.aload_n 0, 1) := by decide +kernel
theorem dX4_cannotSell_14 : decode cX4_cannotSell 14 = .ok (.iload_n 1, 1) := by decide +kernel
theorem dX4_cannotSell_15 : decode cX4_cannotSell 15 = .ok (.iconst 0, 1) := by decide +kernel
theorem dX4_cannotSell_16 : decode cX4_cannotSell 16 = .ok (.invokevirtual 55, 3) := by decide +kernel
theorem dX4_cannotSell_19 : decode cX4_cannotSell 19 = .ok (.ifCond .eq 7, 3) := by decide +kernel
theorem dX4_cannotSell_22 : decode cX4_cannotSell 22 = .ok (.iconst 0, 1) := by decide +kernel
theorem dX4_cannotSell_23 : decode cX4_cannotSell 23 = .ok (.goto 5, 3) := by decide +kernel
theorem dX4_cannotSell_26 : decode cX4_cannotSell 26 = .ok (.bipush (-4), 2) := by decide +kernel
theorem dX4_cannotSell_28 : decode cX4_cannotSell 28 = .ok (.ireturn, 1) := by decide +kernel
theorem dX4_sells_0 : decode cX4_sells 0 = .ok (.aload_n 0, 1) := by decide +kernel
theorem dX4_sells_1 : decode cX4_sells 1 = .ok (.iload_n 1, 1) := by decide +kernel
theorem dX4_sells_2 : decode cX4_sells 2 = .ok (.bipush 8, 2) := by decide +kernel
theorem dX4_sells_4 : decode cX4_sells 4 = .ok (.invokevirtual 108, 3) := by decide +kernel
theorem dX4_sells_7 : decode cX4_sells 7 = .ok (.istore_n 2, 1) := by decide +kernel
theorem dX4_sells_8 : decode cX4_sells 8 = .ok (.aload_n 0, 1) := by decide +kernel
theorem dX4_sells_9 : decode cX4_sells 9 = .ok (.iload_n 1, 1) := by decide +kernel
theorem dX4_sells_10 : decode cX4_sells 10 = .ok (.iconst 2, 1) := by decide +kernel
theorem dX4_sells_11 : decode cX4_sells 11 = .ok (.invokevirtual 134, 3) := by decide +kernel
theorem dX4_sells_14 : decode cX4_sells 14 = .ok (.aload_n 0, 1) := by decide +kernel
theorem dX4_sells_15 : decode cX4_sells 15 = .ok (.getfield 7, 3) := by decide +kernel
theorem dX4_sells_18 : decode cX4_sells 18 = .ok (.bipush 12, 2) := by decide +kernel
theorem dX4_sells_20 : decode cX4_sells 20 = .ok (.dup2, 1) := by decide +kernel
theorem dX4_sells_21 : decode cX4_sells 21 = .ok (.iaload, 1) := by decide +kernel
theorem dX4_sells_22 : decode cX4_sells 22 = .ok (.iload_n 2, 1) := by decide +kernel
theorem dX4_sells_23 : decode cX4_sells 23 = .ok (.iadd, 1) := by decide +kernel
theorem dX4_sells_24 : decode cX4_sells 24 = .ok (.iastore, 1) := by decide +kernel
theorem dX4_sells_25 : decode cX4_sells 25 = .ok (.iload_n 2, 1) := by decide +kernel
theorem dX4_sells_26 : decode cX4_sells 26 = .ok (.ireturn, 1) := by decide +kernel
theorem dX4_sell_0 : decode cX4_sell 0 = .ok (.aload_n 0, 1) := by decide +kernel
theorem dX4_sell_1 : decode cX4_sell 1 = .ok (.iload_n 1, 1) := by decide +kernel
theorem dX4_sell_2 : decode cX4_sell 2 = .ok (.invokevirtual 137, 3) := by decide +kernel
theorem dX4_sell_5 : decode cX4_sell 5 = .ok (.istore_n 2, 1) := by decide +kernel
theorem dX4_sell_6 : decode cX4_sell 6 = .ok (.iload_n 2, 1) := by decide +kernel
theorem dX4_sell_7 : decode cX4_sell 7 = .ok (.ifCond .eq 5, 3) := by decide +kernel
theorem dX4_sell_10 : decode cX4_sell 10 = .ok (.iload_n 2, 1) := by decide +kernel
theorem dX4_sell_11 : decode cX4_sell 11 = .ok (.ireturn, 1) := by decide +kernel
theorem dX4_sell_12 : decode cX4_sell 12 = .ok (.aload_n 0, 1) := by decide +kernel
theorem dX4_sell_13 : decode cX4_sell 13 = .ok (.invokevirtual 62, 3) := by decide +kernel
theorem dX4_sell_16 : decode cX4_sell 16 = .ok (.aload_n 0, 1) := by decide +kernel
theorem dX4_sell_17 : decode cX4_sell 17 = .ok (.iload_n 1, 1) := by decide +kernel
theorem dX4_sell_18 : decode cX4_sell 18 = .ok (.invokevirtual 140, 3) := by decide +kernel
theorem dX4_sell_21 : decode cX4_sell 21 = .ok (.ireturn, 1) := by decide +kernel
theorem dX4_nextOf_0 : decode cX4_nextOf 0 = .ok (.iconst (-1), 1) := by decide +kernel
theorem dX4_nextOf_1 : decode cX4_nextOf 1 = .ok (.istore_n 2, 1) := by decide +kernel
theorem dX4_nextOf_2 : decode cX4_nextOf 2 = .ok (.iconst 0, 1) := by decide +kernel
theorem dX4_nextOf_3 : decode cX4_nextOf 3 = .ok (.istore_n 3, 1) := by decide +kernel
theorem dX4_nextOf_4 : decode cX4_nextOf 4 = .ok (.iload_n 3, 1) := by decide +kernel
theorem dX4_nextOf_5 : decode cX4_nextOf 5 = .ok (.aload_n 0, 1) := by decide +kernel
theorem dX4_nextOf_6 : decode cX4_nextOf 6 = .ok (.getfield 7, 3) := by decide +kernel
theorem dX4_nextOf_9 : decode cX4_nextOf 9 = .ok (.iconst 1, 1) := by decide +kernel
theorem dX4_nextOf_10 : decode cX4_nextOf 10 = .ok (.iaload, 1) := by decide +kernel
theorem dX4_nextOf_11 : decode cX4_nextOf 11 = .ok (.if_icmp .ge 86, 3) := by decide +kernel
theorem dX4_nextOf_14 : decode cX4_nextOf 14 = .ok (.aload_n 0, 1) := by decide +kernel
theorem dX4_nextOf_15 : decode cX4_nextOf 15 = .ok (.iload_n 1, 1) := by decide +kernel
theorem dX4_nextOf_16 : decode cX4_nextOf 16 = .ok (.iload_n 3, 1) := by decide +kernel
theorem dX4_nextOf_17 : decode cX4_nextOf 17 = .ok (.invokevirtual 93, 3) := by decide +kernel
theorem dX4_nextOf_20 : decode cX4_nextOf 20 = .ok (.ifCond .eq 71, 3) := by decide +kernel
theorem dX4_nextOf_23 : decode cX4_nextOf 23 = .ok (.iload_n 2, 1) := by decide +kernel
theorem dX4_nextOf_24 : decode cX4_nextOf 24 = .ok (.iconst (-1), 1) := by decide +kernel
theorem dX4_nextOf_25 : decode cX4_nextOf 25 = .ok (.if_icmp .eq 48, 3) := by decide +kernel
theorem dX4_nextOf_28 : decode cX4_nextOf 28 = .ok (.aload_n 0, 1) := by decide +kernel
theorem dX4_nextOf_29 : decode cX4_nextOf 29 = .ok (.iload_n 3, 1) := by decide +kernel
theorem dX4_nextOf_30 : decode cX4_nextOf 30 = .ok (.iconst 2, 1) := by decide +kernel
theorem dX4_nextOf_31 : decode cX4_nextOf 31 = .ok (.invokevirtual 34, 3) := by decide +kernel
theorem dX4_nextOf_34 : decode cX4_nextOf 34 = .ok (.aload_n 0, 1) := by decide +kernel
theorem dX4_nextOf_35 : decode cX4_nextOf 35 = .ok (.iload_n 2, 1) := by decide +kernel
theorem dX4_nextOf_36 : decode cX4_nextOf 36 = .ok (.iconst 2, 1) := by decide +kernel
theorem dX4_nextOf_37 : decode cX4_nextOf 37 = .ok (.invokevirtual 34, 3) := by decide +kernel
theorem dX4_nextOf_40 : decode cX4_nextOf 40 = .ok (.if_icmp .gt 33, 3) := by decide +kernel
theorem dX4_nextOf_43 : decode cX4_nextOf 43 = .ok (.aload_n 0, 1) := by decide +kernel
theorem dX4_nextOf_44 : decode cX4_nextOf 44 = .ok (.iload_n 3, 1) := by decide +kernel
theorem dX4_nextOf_45 : decode cX4_nextOf 45 = .ok (.iconst 2, 1) := by decide +kernel
theorem dX4_nextOf_46 : decode cX4_nextOf 46 = .ok (.invokevirtual 34, 3) := by decide +kernel
theorem dX4_nextOf_49 : decode cX4_nextOf 49 = .ok (.aload_n 0, 1) := by decide +kernel
theorem dX4_nextOf_50 : decode cX4_nextOf 50 = .ok (.iload_n 2, 1) := by decide +kernel
theorem dX4_nextOf_51 : decode cX4_nextOf 51 = .ok (.iconst 2, 1) := by decide +kernel
theorem dX4_nextOf_52 : decode cX4_nextOf 52 = .ok (.invokevirtual 34, 3) := by decide +kernel
theorem dX4_nextOf_55 : decode cX4_nextOf 55 = .ok (.if_icmp .ne 22, 3) := by decide +kernel
theorem dX4_nextOf_58 : decode cX4_nextOf 58 = .ok (.aload_n 0, 1) := by decide +kernel
theorem dX4_nextOf_59 : decode cX4_nextOf 59 = .ok (.iload_n 3, 1) := by decide +kernel
theorem dX4_nextOf_60 : decode cX4_nextOf 60 = .ok (.iconst 1, 1) := by decide +kernel
theorem dX4_nextOf_61 : decode cX4_nextOf 61 = .ok (.invokevirtual 34, 3) := by decide +kernel
theorem dX4_nextOf_64 : decode cX4_nextOf 64 = .ok (.aload_n 0, 1) := by decide +kernel
theorem dX4_nextOf_65 : decode cX4_nextOf 65 = .ok (.iload_n 2, 1) := by decide +kernel
theorem dX4_nextOf_66 : decode cX4_nextOf 66 = .ok (.iconst 1, 1) := by decide +kernel
theorem dX4_nextOf_67 : decode cX4_nextOf 67 = .ok (.invokevirtual 34, 3) := by decide +kernel
theorem dX4_nextOf_70 : decode cX4_nextOf 70 = .ok (.if_icmp .ge 7, 3) := by decide +kernel
theorem dX4_nextOf_73 : decode cX4_nextOf 73 = .ok (.iconst 1, 1) := by decide +kernel
theorem dX4_nextOf_74 : decode cX4_nextOf 74 = .ok (.goto 4, 3) := by decide +kernel
theorem dX4_nextOf_77 : decode cX4_nextOf 77 = .ok (.iconst 0, 1) := by decide +kernel
theorem dX4_nextOf_78 : decode cX4_nextOf 78 = .ok (.istore 4, 2) := by decide +kernel
theorem dX4_nextOf_80 : decode cX4_nextOf 80 = .ok (.iload 4, 2) := by decide +kernel
theorem dX4_nextOf_82 : decode cX4_nextOf 82 = .ok (.ifCond .eq 7, 3) := by decide +kernel
theorem dX4_nextOf_85 : decode cX4_nextOf 85 = .ok (.iload_n 3, 1) := by decide +kernel
theorem dX4_nextOf_86 : decode cX4_nextOf 86 = .ok (.goto 4, 3) := by decide +kernel
theorem dX4_nextOf_89 : decode cX4_nextOf 89 = .ok (.iload_n 2, 1) := by decide +kernel
theorem dX4_nextOf_90 : decode cX4_nextOf 90 = .ok (.istore_n 2, 1) := by decide +kernel
theorem dX4_nextOf_91 : decode cX4_nextOf 91 = .ok (.iinc 3 1, 3) := by decide +kernel
theorem dX4_nextOf_94 : decode cX4_nextOf 94 = .ok (.goto (-90), 3) := by decide +kernel
theorem dX4_nextOf_97 : decode cX4_nextOf 97 = .ok (.iload_n 2, 1) := by decide +kernel
theorem dX4_nextOf_98 : decode cX4_nextOf 98 = .ok (.ireturn, 1) := by decide +kernel
theorem dX4_canRent_0 : decode cX4_canRent 0 = .ok (.iconst 0, 1) := by decide +kernel
theorem dX4_canRent_1 : decode cX4_canRent 1 = .ok (.istore_n 3, 1) := by decide +kernel
theorem dX4_canRent_2 : decode cX4_canRent 2 = .ok (.iconst 0, 1) := by decide +kernel
theorem dX4_canRent_3 : decode cX4_canRent 3 = .ok (.istore 4, 2) := by decide +kernel
theorem dX4_canRent_5 : decode cX4_canRent 5 = .ok (.iconst 0, 1) := by decide +kernel
theorem dX4_canRent_6 : decode cX4_canRent 6 = .ok (.istore 5, 2) := by decide +kernel
theorem dX4_canRent_8 : decode cX4_canRent 8 = .ok (.iload 5, 2) := by decide +kernel
theorem dX4_canRent_10 : decode cX4_canRent 10 = .ok (.aload_n 0, 1) := by decide +kernel
theorem dX4_canRent_11 : decode cX4_canRent 11 = .ok (.getfield 7, 3) := by decide +kernel
theorem dX4_canRent_14 : decode cX4_canRent 14 = .ok (.iconst 1, 1) := by decide +kernel
theorem dX4_canRent_15 : decode cX4_canRent 15 = .ok (.iaload, 1) := by decide +kernel
theorem dX4_canRent_16 : decode cX4_canRent 16 = .ok (.if_icmp .ge 56, 3) := by decide +kernel
theorem dX4_canRent_19 : decode cX4_canRent 19 = .ok (.aload_n 0, 1) := by decide +kernel
theorem dX4_canRent_20 : decode cX4_canRent 20 = .ok (.iload 5, 2) := by decide +kernel
theorem dX4_canRent_22 : decode cX4_canRent 22 = .ok (.iconst 1, 1) := by decide +kernel
theorem dX4_canRent_23 : decode cX4_canRent 23 = .ok (.invokevirtual 55, 3) := by decide +kernel
theorem dX4_canRent_26 : decode cX4_canRent 26 = .ok (.ifCond .eq 40, 3) := by decide +kernel
theorem dX4_canRent_29 : decode cX4_canRent 29 = .ok (.aload_n 0, 1) := by decide +kernel
theorem dX4_canRent_30 : decode cX4_canRent 30 = .ok (.iload 5, 2) := by decide +kernel
theorem dX4_canRent_32 : decode cX4_canRent 32 = .ok (.iconst 4, 1) := by decide +kernel
theorem dX4_canRent_33 : decode cX4_canRent 33 = .ok (.invokevirtual 34, 3) := by decide +kernel
theorem dX4_canRent_36 : decode cX4_canRent 36 = .ok (.iload_n 1, 1) := by decide +kernel
theorem dX4_canRent_37 : decode cX4_canRent 37 = .ok (.if_icmp .ne 29, 3) := by decide +kernel
theorem dX4_canRent_40 : decode cX4_canRent 40 = .ok (.iinc 3 1, 3) := by decide +kernel
theorem dX4_canRent_43 : decode cX4_canRent 43 = .ok (.iload 4, 2) := by decide +kernel
theorem dX4_canRent_45 : decode cX4_canRent 45 = .ok (.ifCond .ne 14, 3) := by decide +kernel
theorem dX4_canRent_48 : decode cX4_canRent 48 = .ok (.aload_n 0, 1) := by decide +kernel
theorem dX4_canRent_49 : decode cX4_canRent 49 = .ok (.iload 5, 2) := by decide +kernel
theorem dX4_canRent_51 : decode cX4_canRent 51 = .ok (.iconst 0, 1) := by decide +kernel
theorem dX4_canRent_52 : decode cX4_canRent 52 = .ok (.invokevirtual 34, 3) := by decide +kernel
theorem dX4_canRent_55 : decode cX4_canRent 55 = .ok (.iload_n 2, 1) := by decide +kernel
theorem dX4_canRent_56 : decode cX4_canRent 56 = .ok (.if_icmp .ne 7, 3) := by decide +kernel
theorem dX4_canRent_59 : decode cX4_canRent 59 = .ok (.iconst 1, 1) := by decide +kernel
theorem dX4_canRent_60 : decode cX4_canRent 60 = .ok (.goto 4, 3) := by decide +kernel
theorem dX4_canRent_63 : decode cX4_canRent 63 = .ok (.iconst 0, 1) := by decide +kernel
theorem dX4_canRent_64 : decode cX4_canRent 64 = .ok (.istore 4, 2) := by decide +kernel
theorem dX4_canRent_66 : decode cX4_canRent 66 = .ok (.iinc 5 1, 3) := by decide +kernel
theorem dX4_canRent_69 : decode cX4_canRent 69 = .ok (.goto (-61), 3) := by decide +kernel
theorem dX4_canRent_72 : decode cX4_canRent 72 = .ok (.iload_n 3, 1) := by decide +kernel
theorem dX4_canRent_73 : decode cX4_canRent 73 = .ok (.iconst 4, 1) := by decide +kernel
theorem dX4_canRent_74 : decode cX4_canRent 74 = .ok (.if_icmp .ge 12, 3) := by decide +kernel
theorem dX4_canRent_77 : decode cX4_canRent 77 = .ok (.iload 4, 2) := by decide +kernel
theorem dX4_canRent_79 : decode cX4_canRent 79 = .ok (.ifCond .ne 7, 3) := by decide +kernel
theorem dX4_canRent_82 : decode cX4_canRent 82 = .ok (.iconst 1, 1) := by decide +kernel
theorem dX4_canRent_83 : decode cX4_canRent 83 = .ok (.goto 4, 3) := by decide +kernel
theorem dX4_canRent_86 : decode cX4_canRent 86 = .ok (.iconst 0, 1) := by decide +kernel
theorem dX4_canRent_87 : decode cX4_canRent 87 = .ok (.ireturn, 1) := by decide +kernel
theorem dX4_cannotRent_0 : decode cX4_cannotRent 0 = .ok (.iload_n 1, 1) := by decide +kernel
theorem dX4_cannotRent_1 : decode cX4_cannotRent 1 = .ok (.invokestatic 143, 3) := by decide +kernel
theorem dX4_cannotRent_4 : decode cX4_cannotRent 4 = .ok (.ifCond .eq 11, 3) := by decide +kernel
theorem dX4_cannotRent_7 : decode cX4_cannotRent 7 = .ok (.aload_n 0, 1) := by decide +kernel
theorem dX4_cannotRent_8 : decode cX4_cannotRent 8 = .ok (.iload_n 2, 1) := by decide +kernel
theorem dX4_cannotRent_9 : decode cX4_cannotRent 9 = .ok (.invokevirtual 72, 3) := by decide +kernel
theorem dX4_cannotRent_12 : decode cX4_cannotRent 12 = .ok (.ifCond .ne 6, 3) := by decide +kernel
theorem dX4_cannotRent_15 : decode cX4_cannotRent 15 = .ok (.bipush (-2), 2) := by decide +kernel
theorem dX4_cannotRent_17 : decode cX4_cannotRent 17 = .ok (.ireturn, 1) := by decide +kernel
theorem dX4_cannotRent_18 : decode cX4_cannotRent 18 = .ok (.aload_n 0, 1) := by decide +kernel
theorem dX4_cannotRent_19 : decode cX4_cannotRent 19 = .ok (.iload_n 1, 1) := by decide +kernel
theorem dX4_cannotRent_20 : decode cX4_cannotRent 20 = .ok (.aload_n 0, 1) := by decide +kernel
theorem dX4_cannotRent_21 : decode cX4_cannotRent 21 = .ok (.iload_n 2, 1) := by decide +kernel
theorem dX4_cannotRent_22 : decode cX4_cannotRent 22 = .ok (.iconst 0, 1) := by decide +kernel
theorem dX4_cannotRent_23 : decode cX4_cannotRent 23 = .ok (.invokevirtual 52, 3) := by decide +kernel
theorem dX4_cannotRent_26 : decode cX4_cannotRent 26 = .ok (.invokevirtual 146, 3) := by decide +kernel
theorem dX4_cannotRent_29 : decode cX4_cannotRent 29 = .ok (.ifCond .eq 16, 3) := by decide +kernel
theorem dX4_cannotRent_32 : decode cX4_cannotRent 32 = .ok (.aload_n 0, 1) := by decide +kernel
theorem dX4_cannotRent_33 : decode cX4_cannotRent 33 = .ok (.iload_n 2, 1) := by decide +kernel
theorem dX4_cannotRent_34 : decode cX4_cannotRent 34 = .ok (.invokevirtual 149, 3) := by decide +kernel
theorem dX4_cannotRent_37 : decode cX4_cannotRent 37 = .ok (.iconst (-1), 1) := by decide +kernel
theorem dX4_cannotRent_38 : decode cX4_cannotRent 38 = .ok (.if_icmp .eq 7, 3) := by decide +kernel
theorem dX4_cannotRent_41 : decode cX4_cannotRent 41 = .ok (.iconst 0, 1) := by decide +kernel
theorem dX4_cannotRent_42 : decode cX4_cannotRent 42 = .ok (.goto 5, 3) := by decide +kernel
theorem dX4_cannotRent_45 : decode cX4_cannotRent 45 = .ok (.bipush (-4), 2) := by decide +kernel
theorem dX4_cannotRent_47 : decode cX4_cannotRent 47 = .ok (.ireturn, 1) := by decide +kernel
theorem dX4_charges_0 : decode cX4_charges 0 = .ok (.aload_n 0, 1) := by decide +kernel
theorem dX4_charges_1 : decode cX4_charges 1 = .ok (.getfield 7, 3) := by decide +kernel
theorem dX4_charges_4 : decode cX4_charges 4 = .ok (.bipush 8, 2) := by decide +kernel
theorem dX4_charges_6 : decode cX4_charges 6 = .ok (.iload_n 2, 1) := by decide +kernel
theorem dX4_charges_7 : decode cX4_charges 7 = .ok (.iadd, 1) := by decide +kernel
theorem dX4_charges_8 : decode cX4_charges 8 = .ok (.dup2, 1) := by decide +kernel
theorem dX4_charges_9 : decode cX4_charges 9 = .ok (.iaload, 1) := by decide +kernel
theorem dX4_charges_10 : decode cX4_charges 10 = .ok (.iload_n 3, 1) := by decide +kernel
theorem dX4_charges_11 : decode cX4_charges 11 = .ok (.iadd, 1) := by decide +kernel
theorem dX4_charges_12 : decode cX4_charges 12 = .ok (.iastore, 1) := by decide +kernel
theorem dX4_charges_13 : decode cX4_charges 13 = .ok (.aload_n 0, 1) := by decide +kernel
theorem dX4_charges_14 : decode cX4_charges 14 = .ok (.getfield 7, 3) := by decide +kernel
theorem dX4_charges_17 : decode cX4_charges 17 = .ok (.bipush 15, 2) := by decide +kernel
theorem dX4_charges_19 : decode cX4_charges 19 = .ok (.iload_n 1, 1) := by decide +kernel
theorem dX4_charges_20 : decode cX4_charges 20 = .ok (.iadd, 1) := by decide +kernel
theorem dX4_charges_21 : decode cX4_charges 21 = .ok (.dup2, 1) := by decide +kernel
theorem dX4_charges_22 : decode cX4_charges 22 = .ok (.iaload, 1) := by decide +kernel
theorem dX4_charges_23 : decode cX4_charges 23 = .ok (.iload_n 3, 1) := by decide +kernel
theorem dX4_charges_24 : decode cX4_charges 24 = .ok (.iadd, 1) := by decide +kernel
theorem dX4_charges_25 : decode cX4_charges 25 = .ok (.iastore, 1) := by decide +kernel
theorem dX4_charges_26 : decode cX4_charges 26 = .ok (.return_, 1) := by decide +kernel
theorem dX4_rents_0 : decode cX4_rents 0 = .ok (.aload_n 0, 1) := by decide +kernel
theorem dX4_rents_1 : decode cX4_rents 1 = .ok (.iload_n 2, 1) := by decide +kernel
theorem dX4_rents_2 : decode cX4_rents 2 = .ok (.invokevirtual 149, 3) := by decide +kernel
theorem dX4_rents_5 : decode cX4_rents 5 = .ok (.istore_n 3, 1) := by decide +kernel
theorem dX4_rents_6 : decode cX4_rents 6 = .ok (.aload_n 0, 1) := by decide +kernel
theorem dX4_rents_7 : decode cX4_rents 7 = .ok (.iload_n 1, 1) := by decide +kernel
theorem dX4_rents_8 : decode cX4_rents 8 = .ok (.iconst 0, 1) := by decide +kernel
theorem dX4_rents_9 : decode cX4_rents 9 = .ok (.aload_n 0, 1) := by decide +kernel
theorem dX4_rents_10 : decode cX4_rents 10 = .ok (.iload_n 3, 1) := by decide +kernel
theorem dX4_rents_11 : decode cX4_rents 11 = .ok (.bipush 7, 2) := by decide +kernel
theorem dX4_rents_13 : decode cX4_rents 13 = .ok (.invokevirtual 108, 3) := by decide +kernel
theorem dX4_rents_16 : decode cX4_rents 16 = .ok (.invokevirtual 152, 3) := by decide +kernel
theorem dX4_rents_19 : decode cX4_rents 19 = .ok (.aload_n 0, 1) := by decide +kernel
theorem dX4_rents_20 : decode cX4_rents 20 = .ok (.iload_n 3, 1) := by decide +kernel
theorem dX4_rents_21 : decode cX4_rents 21 = .ok (.iconst 3, 1) := by decide +kernel
theorem dX4_rents_22 : decode cX4_rents 22 = .ok (.iconst 1, 1) := by decide +kernel
theorem dX4_rents_23 : decode cX4_rents 23 = .ok (.invokevirtual 115, 3) := by decide +kernel
theorem dX4_rents_26 : decode cX4_rents 26 = .ok (.aload_n 0, 1) := by decide +kernel
theorem dX4_rents_27 : decode cX4_rents 27 = .ok (.iload_n 3, 1) := by decide +kernel
theorem dX4_rents_28 : decode cX4_rents 28 = .ok (.iconst 4, 1) := by decide +kernel
theorem dX4_rents_29 : decode cX4_rents 29 = .ok (.iload_n 1, 1) := by decide +kernel
theorem dX4_rents_30 : decode cX4_rents 30 = .ok (.invokevirtual 115, 3) := by decide +kernel
theorem dX4_rents_33 : decode cX4_rents 33 = .ok (.aload_n 0, 1) := by decide +kernel
theorem dX4_rents_34 : decode cX4_rents 34 = .ok (.iload_n 3, 1) := by decide +kernel
theorem dX4_rents_35 : decode cX4_rents 35 = .ok (.iconst 5, 1) := by decide +kernel
theorem dX4_rents_36 : decode cX4_rents 36 = .ok (.aload_n 0, 1) := by decide +kernel
theorem dX4_rents_37 : decode cX4_rents 37 = .ok (.getfield 7, 3) := by decide +kernel
theorem dX4_rents_40 : decode cX4_rents 40 = .ok (.iconst 3, 1) := by decide +kernel
theorem dX4_rents_41 : decode cX4_rents 41 = .ok (.iaload, 1) := by decide +kernel
theorem dX4_rents_42 : decode cX4_rents 42 = .ok (.aload_n 0, 1) := by decide +kernel
theorem dX4_rents_43 : decode cX4_rents 43 = .ok (.getfield 7, 3) := by decide +kernel
theorem dX4_rents_46 : decode cX4_rents 46 = .ok (.iconst 4, 1) := by decide +kernel
theorem dX4_rents_47 : decode cX4_rents 47 = .ok (.iaload, 1) := by decide +kernel
theorem dX4_rents_48 : decode cX4_rents 48 = .ok (.iadd, 1) := by decide +kernel
theorem dX4_rents_49 : decode cX4_rents 49 = .ok (.invokevirtual 115, 3) := by decide +kernel
theorem dX4_rents_52 : decode cX4_rents 52 = .ok (.iload_n 3, 1) := by decide +kernel
theorem dX4_rents_53 : decode cX4_rents 53 = .ok (.ireturn, 1) := by decide +kernel
theorem dX4_rent_0 : decode cX4_rent 0 = .ok (.aload_n 0, 1) := by decide +kernel
theorem dX4_rent_1 : decode cX4_rent 1 = .ok (.iload_n 1, 1) := by decide +kernel
theorem dX4_rent_2 : decode cX4_rent 2 = .ok (.iload_n 2, 1) := by decide +kernel
theorem dX4_rent_3 : decode cX4_rent 3 = .ok (.invokevirtual 155, 3) := by decide +kernel
theorem dX4_rent_6 : decode cX4_rent 6 = .ok (.istore_n 3, 1) := by decide +kernel
theorem dX4_rent_7 : decode cX4_rent 7 = .ok (.iload_n 3, 1) := by decide +kernel
theorem dX4_rent_8 : decode cX4_rent 8 = .ok (.ifCond .eq 5, 3) := by decide +kernel
theorem dX4_rent_11 : decode cX4_rent 11 = .ok (.iload_n 3, 1) := by decide +kernel
theorem dX4_rent_12 : decode cX4_rent 12 = .ok (.ireturn, 1) := by decide +kernel
theorem dX4_rent_13 : decode cX4_rent 13 = .ok (.aload_n 0, 1) := by decide +kernel
theorem dX4_rent_14 : decode cX4_rent 14 = .ok (.invokevirtual 62, 3) := by decide +kernel
theorem dX4_rent_17 : decode cX4_rent 17 = .ok (.aload_n 0, 1) := by decide +kernel
theorem dX4_rent_18 : decode cX4_rent 18 = .ok (.iload_n 1, 1) := by decide +kernel
theorem dX4_rent_19 : decode cX4_rent 19 = .ok (.iload_n 2, 1) := by decide +kernel
theorem dX4_rent_20 : decode cX4_rent 20 = .ok (.invokevirtual 158, 3) := by decide +kernel
theorem dX4_rent_23 : decode cX4_rent 23 = .ok (.ireturn, 1) := by decide +kernel
theorem dX4_next_0 : decode cX4_next 0 = .ok (.aload_n 0, 1) := by decide +kernel
theorem dX4_next_1 : decode cX4_next 1 = .ok (.iload_n 1, 1) := by decide +kernel
theorem dX4_next_2 : decode cX4_next 2 = .ok (.invokevirtual 72, 3) := by decide +kernel
theorem dX4_next_5 : decode cX4_next 5 = .ok (.ifCond .eq 11, 3) := by decide +kernel
theorem dX4_next_8 : decode cX4_next 8 = .ok (.aload_n 0, 1) := by decide +kernel
theorem dX4_next_9 : decode cX4_next 9 = .ok (.iload_n 1, 1) := by decide +kernel
theorem dX4_next_10 : decode cX4_next 10 = .ok (.invokevirtual 149, 3) := by decide +kernel
theorem dX4_next_13 : decode cX4_next 13 = .ok (.goto 5, 3) := by decide +kernel
theorem dX4_next_16 : decode cX4_next 16 = .ok (.bipush (-2), 2) := by decide +kernel
theorem dX4_next_18 : decode cX4_next 18 = .ok (.ireturn, 1) := by decide +kernel
theorem dX4_lateCharge_0 : decode cX4_lateCharge 0 = .ok (.aload_n 0, 1) := by decide +kernel
theorem dX4_lateCharge_1 : decode cX4_lateCharge 1 = .ok (.iload_n 1, 1) := by decide +kernel
theorem dX4_lateCharge_2 : decode cX4_lateCharge 2 = .ok (.invokevirtual 102, 3) := by decide +kernel
theorem dX4_lateCharge_5 : decode cX4_lateCharge 5 = .ok (.aload_n 0, 1) := by decide +kernel
theorem dX4_lateCharge_6 : decode cX4_lateCharge 6 = .ok (.getfield 7, 3) := by decide +kernel
theorem dX4_lateCharge_9 : decode cX4_lateCharge 9 = .ok (.iconst 5, 1) := by decide +kernel
theorem dX4_lateCharge_10 : decode cX4_lateCharge 10 = .ok (.iaload, 1) := by decide +kernel
theorem dX4_lateCharge_11 : decode cX4_lateCharge 11 = .ok (.imul, 1) := by decide +kernel
theorem dX4_lateCharge_12 : decode cX4_lateCharge 12 = .ok (.aload_n 0, 1) := by decide +kernel
theorem dX4_lateCharge_13 : decode cX4_lateCharge 13 = .ok (.iload_n 1, 1) := by decide +kernel
theorem dX4_lateCharge_14 : decode cX4_lateCharge 14 = .ok (.invokevirtual 99, 3) := by decide +kernel
theorem dX4_lateCharge_17 : decode cX4_lateCharge 17 = .ok (.invokestatic 45, 3) := by decide +kernel
theorem dX4_lateCharge_20 : decode cX4_lateCharge 20 = .ok (.ireturn, 1) := by decide +kernel
theorem dX4_damageCharge_0 : decode cX4_damageCharge 0 = .ok (.aload_n 0, 1) := by decide +kernel
theorem dX4_damageCharge_1 : decode cX4_damageCharge 1 = .ok (.iload_n 1, 1) := by decide +kernel
theorem dX4_damageCharge_2 : decode cX4_damageCharge 2 = .ok (.iconst 2, 1) := by decide +kernel
theorem dX4_damageCharge_3 : decode cX4_damageCharge 3 = .ok (.invokevirtual 34, 3) := by decide +kernel
theorem dX4_damageCharge_6 : decode cX4_damageCharge 6 = .ok (.istore_n 3, 1) := by decide +kernel
theorem dX4_damageCharge_7 : decode cX4_damageCharge 7 = .ok (.iload_n 3, 1) := by decide +kernel
theorem dX4_damageCharge_8 : decode cX4_damageCharge 8 = .ok (.iload_n 2, 1) := by decide +kernel
theorem dX4_damageCharge_9 : decode cX4_damageCharge 9 = .ok (.iadd, 1) := by decide +kernel
theorem dX4_damageCharge_10 : decode cX4_damageCharge 10 = .ok (.iconst 4, 1) := by decide +kernel
theorem dX4_damageCharge_11 : decode cX4_damageCharge 11 = .ok (.if_icmp .le 9, 3) := by decide +kernel
theorem dX4_damageCharge_14 : decode cX4_damageCharge 14 = .ok (.aload_n 0, 1) := by decide +kernel
theorem dX4_damageCharge_15 : decode cX4_damageCharge 15 = .ok (.iload_n 1, 1) := by decide +kernel
theorem dX4_damageCharge_16 : decode cX4_damageCharge 16 = .ok (.invokevirtual 99, 3) := by decide +kernel
theorem dX4_damageCharge_19 : decode cX4_damageCharge 19 = .ok (.ireturn, 1) := by decide +kernel
theorem dX4_damageCharge_20 : decode cX4_damageCharge 20 = .ok (.iload_n 2, 1) := by decide +kernel
theorem dX4_damageCharge_21 : decode cX4_damageCharge 21 = .ok (.iconst 2, 1) := by decide +kernel
theorem dX4_damageCharge_22 : decode cX4_damageCharge 22 = .ok (.if_icmp .ge 7, 3) := by decide +kernel
theorem dX4_damageCharge_25 : decode cX4_damageCharge 25 = .ok (.iconst 0, 1) := by decide +kernel
theorem dX4_damageCharge_26 : decode cX4_damageCharge 26 = .ok (.goto 42, 3) := by decide +kernel
theorem dX4_damageCharge_29 : decode cX4_damageCharge 29 = .ok (.aload_n 0, 1) := by decide +kernel
theorem dX4_damageCharge_30 : decode cX4_damageCharge 30 = .ok (.aload_n 0, 1) := by decide +kernel
theorem dX4_damageCharge_31 : decode cX4_damageCharge 31 = .ok (.iload_n 1, 1) := by decide +kernel
theorem dX4_damageCharge_32 : decode cX4_damageCharge 32 = .ok (.iconst 0, 1) := by decide +kernel
theorem dX4_damageCharge_33 : decode cX4_damageCharge 33 = .ok (.invokevirtual 34, 3) := by decide +kernel
theorem dX4_damageCharge_36 : decode cX4_damageCharge 36 = .ok (.aload_n 0, 1) := by decide +kernel
theorem dX4_damageCharge_37 : decode cX4_damageCharge 37 = .ok (.iload_n 1, 1) := by decide +kernel
theorem dX4_damageCharge_38 : decode cX4_damageCharge 38 = .ok (.iconst 1, 1) := by decide +kernel
theorem dX4_damageCharge_39 : decode cX4_damageCharge 39 = .ok (.invokevirtual 34, 3) := by decide +kernel
theorem dX4_damageCharge_42 : decode cX4_damageCharge 42 = .ok (.iload_n 3, 1) := by decide +kernel
theorem dX4_damageCharge_43 : decode cX4_damageCharge 43 = .ok (.iconst 1, 1) := by decide +kernel
theorem dX4_damageCharge_44 : decode cX4_damageCharge 44 = .ok (.iadd, 1) := by decide +kernel
theorem dX4_damageCharge_45 : decode cX4_damageCharge 45 = .ok (.invokevirtual 48, 3) := by decide +kernel
theorem dX4_damageCharge_48 : decode cX4_damageCharge 48 = .ok (.aload_n 0, 1) := by decide +kernel
theorem dX4_damageCharge_49 : decode cX4_damageCharge 49 = .ok (.aload_n 0, 1) := by decide +kernel
theorem dX4_damageCharge_50 : decode cX4_damageCharge 50 = .ok (.iload_n 1, 1) := by decide +kernel
theorem dX4_damageCharge_51 : decode cX4_damageCharge 51 = .ok (.iconst 0, 1) := by decide +kernel
theorem dX4_damageCharge_52 : decode cX4_damageCharge 52 = .ok (.invokevirtual 34, 3) := by decide +kernel
theorem dX4_damageCharge_55 : decode cX4_damageCharge 55 = .ok (.aload_n 0, 1) := by decide +kernel
theorem dX4_damageCharge_56 : decode cX4_damageCharge 56 = .ok (.iload_n 1, 1) := by decide +kernel
theorem dX4_damageCharge_57 : decode cX4_damageCharge 57 = .ok (.iconst 1, 1) := by decide +kernel
theorem dX4_damageCharge_58 : decode cX4_damageCharge 58 = .ok (.invokevirtual 34, 3) := by decide +kernel
theorem dX4_damageCharge_61 : decode cX4_damageCharge 61 = .ok (.iload_n 3, 1) := by decide +kernel
theorem dX4_damageCharge_62 : decode cX4_damageCharge 62 = .ok (.iload_n 2, 1) := by decide +kernel
theorem dX4_damageCharge_63 : decode cX4_damageCharge 63 = .ok (.iadd, 1) := by decide +kernel
theorem dX4_damageCharge_64 : decode cX4_damageCharge 64 = .ok (.invokevirtual 48, 3) := by decide +kernel
theorem dX4_damageCharge_67 : decode cX4_damageCharge 67 = .ok (.isub, 1) := by decide +kernel
theorem dX4_damageCharge_68 : decode cX4_damageCharge 68 = .ok (.ireturn, 1) := by decide +kernel
theorem dX4_cannotGive_0 : decode cX4_cannotGive 0 = .ok (.aload_n 0, 1) := by decide +kernel
theorem dX4_cannotGive_1 : decode cX4_cannotGive 1 = .ok (.iload_n 1, 1) := by decide +kernel
theorem dX4_cannotGive_2 : decode cX4_cannotGive 2 = .ok (.invokevirtual 105, 3) := by decide +kernel
theorem dX4_cannotGive_5 : decode cX4_cannotGive 5 = .ok (.ifCond .ne 6, 3) := by decide +kernel
theorem dX4_cannotGive_8 : decode cX4_cannotGive 8 = .ok (.bipush (-2), 2) := by decide +kernel
theorem dX4_cannotGive_10 : decode cX4_cannotGive 10 = .ok (.ireturn, 1) := by decide +kernel
theorem dX4_cannotGive_11 : decode cX4_cannotGive 11 = .ok (.iload_n 2, 1) := by decide +kernel
theorem dX4_cannotGive_12 : decode cX4_cannotGive 12 = .ok (.iconst 0, 1) := by decide +kernel
theorem dX4_cannotGive_13 : decode cX4_cannotGive 13 = .ok (.iconst 4, 1) := by decide +kernel
theorem dX4_cannotGive_14 : decode cX4_cannotGive 14 = .ok (.invokestatic 30, 3) := by decide +kernel
theorem dX4_cannotGive_17 : decode cX4_cannotGive 17 = .ok (.ifCond .ne 8, 3) := by decide +kernel
theorem dX4_cannotGive_20 : decode cX4_cannotGive 20 = .ok (.bipush (-3), 2) := by decide +kernel
theorem dX4_cannotGive_22 : decode cX4_cannotGive 22 = .ok (.goto 18, 3) := by decide +kernel
theorem dX4_cannotGive_25 : decode cX4_cannotGive 25 = .ok (.aload_n 0, 1) := by decide +kernel
theorem dX4_cannotGive_26 : decode cX4_cannotGive 26 = .ok (.iload_n 1, 1) := by decide +kernel
theorem dX4_cannotGive_27 : decode cX4_cannotGive 27 = .ok (.iconst 1, 1) := by decide +kernel
theorem dX4_cannotGive_28 : decode cX4_cannotGive 28 = .ok (.invokevirtual 55, 3) := by decide +kernel
theorem dX4_cannotGive_31 : decode cX4_cannotGive 31 = .ok (.ifCond .eq 7, 3) := by decide +kernel
theorem dX4_cannotGive_34 : decode cX4_cannotGive 34 = .ok (.iconst 0, 1) := by decide +kernel
theorem dX4_cannotGive_35 : decode cX4_cannotGive 35 = .ok (.goto 5, 3) := by decide +kernel
theorem dX4_cannotGive_38 : decode cX4_cannotGive 38 = .ok (.bipush (-4), 2) := by decide +kernel
theorem dX4_cannotGive_40 : decode cX4_cannotGive 40 = .ok (.ireturn, 1) := by decide +kernel
theorem dX4_gives_0 : decode cX4_gives 0 = .ok (.aload_n 0, 1) := by decide +kernel
theorem dX4_gives_1 : decode cX4_gives 1 = .ok (.iload_n 1, 1) := by decide +kernel
theorem dX4_gives_2 : decode cX4_gives 2 = .ok (.invokevirtual 161, 3) := by decide +kernel
theorem dX4_gives_5 : decode cX4_gives 5 = .ok (.istore_n 3, 1) := by decide +kernel
theorem dX4_gives_6 : decode cX4_gives 6 = .ok (.aload_n 0, 1) := by decide +kernel
theorem dX4_gives_7 : decode cX4_gives 7 = .ok (.iload_n 1, 1) := by decide +kernel
theorem dX4_gives_8 : decode cX4_gives 8 = .ok (.iload_n 2, 1) := by decide +kernel
theorem dX4_gives_9 : decode cX4_gives 9 = .ok (.invokevirtual 164, 3) := by decide +kernel
theorem dX4_gives_12 : decode cX4_gives 12 = .ok (.istore 4, 2) := by decide +kernel
theorem dX4_gives_14 : decode cX4_gives 14 = .ok (.aload_n 0, 1) := by decide +kernel
theorem dX4_gives_15 : decode cX4_gives 15 = .ok (.iload_n 1, 1) := by decide +kernel
theorem dX4_gives_16 : decode cX4_gives 16 = .ok (.iconst 2, 1) := by decide +kernel
theorem dX4_gives_17 : decode cX4_gives 17 = .ok (.invokevirtual 34, 3) := by decide +kernel
theorem dX4_gives_20 : decode cX4_gives 20 = .ok (.iload_n 2, 1) := by decide +kernel
theorem dX4_gives_21 : decode cX4_gives 21 = .ok (.iadd, 1) := by decide +kernel
theorem dX4_gives_22 : decode cX4_gives 22 = .ok (.iconst 4, 1) := by decide +kernel
theorem dX4_gives_23 : decode cX4_gives 23 = .ok (.if_icmp .le 7, 3) := by decide +kernel
theorem dX4_gives_26 : decode cX4_gives 26 = .ok (.iconst 1, 1) := by decide +kernel
theorem dX4_gives_27 : decode cX4_gives 27 = .ok (.goto 4, 3) := by decide +kernel
theorem dX4_gives_30 : decode cX4_gives 30 = .ok (.iconst 0, 1) := by decide +kernel
theorem dX4_gives_31 : decode cX4_gives 31 = .ok (.istore 5, 2) := by decide +kernel
theorem dX4_gives_33 : decode cX4_gives 33 = .ok (.aload_n 0, 1) := by decide +kernel
theorem dX4_gives_34 : decode cX4_gives 34 = .ok (.aload_n 0, 1) := by decide +kernel
theorem dX4_gives_35 : decode cX4_gives 35 = .ok (.iload_n 1, 1) := by decide +kernel
theorem dX4_gives_36 : decode cX4_gives 36 = .ok (.iconst 4, 1) := by decide +kernel
theorem dX4_gives_37 : decode cX4_gives 37 = .ok (.invokevirtual 34, 3) := by decide +kernel
theorem dX4_gives_40 : decode cX4_gives 40 = .ok (.iconst 1, 1) := by decide +kernel
theorem dX4_gives_41 : decode cX4_gives 41 = .ok (.iload_n 3, 1) := by decide +kernel
theorem dX4_gives_42 : decode cX4_gives 42 = .ok (.invokevirtual 152, 3) := by decide +kernel
theorem dX4_gives_45 : decode cX4_gives 45 = .ok (.aload_n 0, 1) := by decide +kernel
theorem dX4_gives_46 : decode cX4_gives 46 = .ok (.aload_n 0, 1) := by decide +kernel
theorem dX4_gives_47 : decode cX4_gives 47 = .ok (.iload_n 1, 1) := by decide +kernel
theorem dX4_gives_48 : decode cX4_gives 48 = .ok (.iconst 4, 1) := by decide +kernel
theorem dX4_gives_49 : decode cX4_gives 49 = .ok (.invokevirtual 34, 3) := by decide +kernel
theorem dX4_gives_52 : decode cX4_gives 52 = .ok (.iload 5, 2) := by decide +kernel
theorem dX4_gives_54 : decode cX4_gives 54 = .ok (.ifCond .eq 7, 3) := by decide +kernel
theorem dX4_gives_57 : decode cX4_gives 57 = .ok (.iconst 3, 1) := by decide +kernel
theorem dX4_gives_58 : decode cX4_gives 58 = .ok (.goto 4, 3) := by decide +kernel
theorem dX4_gives_61 : decode cX4_gives 61 = .ok (.iconst 2, 1) := by decide +kernel
theorem dX4_gives_62 : decode cX4_gives 62 = .ok (.iload 4, 2) := by decide +kernel
theorem dX4_gives_64 : decode cX4_gives 64 = .ok (.invokevirtual 152, 3) := by decide +kernel
theorem dX4_gives_67 : decode cX4_gives 67 = .ok (.aload_n 0, 1) := by decide +kernel
theorem dX4_gives_68 : decode cX4_gives 68 = .ok (.iload_n 1, 1) := by decide +kernel
theorem dX4_gives_69 : decode cX4_gives 69 = .ok (.iconst 2, 1) := by decide +kernel
theorem dX4_gives_70 : decode cX4_gives 70 = .ok (.iload 5, 2) := by decide +kernel
theorem dX4_gives_72 : decode cX4_gives 72 = .ok (.ifCond .eq 12, 3) := by decide +kernel
theorem dX4_gives_75 : decode cX4_gives 75 = .ok (.aload_n 0, 1) := by decide +kernel
theorem dX4_gives_76 : decode cX4_gives 76 = .ok (.iload_n 1, 1) := by decide +kernel
theorem dX4_gives_77 : decode cX4_gives 77 = .ok (.iconst 2, 1) := by decide +kernel
theorem dX4_gives_78 : decode cX4_gives 78 = .ok (.invokevirtual 34, 3) := by decide +kernel
theorem dX4_gives_81 : decode cX4_gives 81 = .ok (.goto 11, 3) := by decide +kernel
theorem dX4_gives_84 : decode cX4_gives 84 = .ok (.aload_n 0, 1) := by decide +kernel
theorem dX4_gives_85 : decode cX4_gives 85 = .ok (.iload_n 1, 1) := by decide +kernel
theorem dX4_gives_86 : decode cX4_gives 86 = .ok (.iconst 2, 1) := by decide +kernel
theorem dX4_gives_87 : decode cX4_gives 87 = .ok (.invokevirtual 34, 3) := by decide +kernel
theorem dX4_gives_90 : decode cX4_gives 90 = .ok (.iload_n 2, 1) := by decide +kernel
theorem dX4_gives_91 : decode cX4_gives 91 = .ok (.iadd, 1) := by decide +kernel
theorem dX4_gives_92 : decode cX4_gives 92 = .ok (.invokevirtual 115, 3) := by decide +kernel
theorem dX4_gives_95 : decode cX4_gives 95 = .ok (.aload_n 0, 1) := by decide +kernel
theorem dX4_gives_96 : decode cX4_gives 96 = .ok (.iload_n 1, 1) := by decide +kernel
theorem dX4_gives_97 : decode cX4_gives 97 = .ok (.iload 5, 2) := by decide +kernel
theorem dX4_gives_99 : decode cX4_gives 99 = .ok (.ifCond .eq 7, 3) := by decide +kernel
theorem dX4_gives_102 : decode cX4_gives 102 = .ok (.iconst 3, 1) := by decide +kernel
theorem dX4_gives_103 : decode cX4_gives 103 = .ok (.goto 4, 3) := by decide +kernel
theorem dX4_gives_106 : decode cX4_gives 106 = .ok (.iconst 0, 1) := by decide +kernel
theorem dX4_gives_107 : decode cX4_gives 107 = .ok (.invokevirtual 134, 3) := by decide +kernel
theorem dX4_gives_110 : decode cX4_gives 110 = .ok (.iload_n 3, 1) := by decide +kernel
theorem dX4_gives_111 : decode cX4_gives 111 = .ok (.iload 4, 2) := by decide +kernel
theorem dX4_gives_113 : decode cX4_gives 113 = .ok (.iadd, 1) := by decide +kernel
theorem dX4_gives_114 : decode cX4_gives 114 = .ok (.ireturn, 1) := by decide +kernel
theorem dX4_giveBack_0 : decode cX4_giveBack 0 = .ok (.aload_n 0, 1) := by decide +kernel
theorem dX4_giveBack_1 : decode cX4_giveBack 1 = .ok (.iload_n 1, 1) := by decide +kernel
theorem dX4_giveBack_2 : decode cX4_giveBack 2 = .ok (.iload_n 2, 1) := by decide +kernel
theorem dX4_giveBack_3 : decode cX4_giveBack 3 = .ok (.invokevirtual 167, 3) := by decide +kernel
theorem dX4_giveBack_6 : decode cX4_giveBack 6 = .ok (.istore_n 3, 1) := by decide +kernel
theorem dX4_giveBack_7 : decode cX4_giveBack 7 = .ok (.iload_n 3, 1) := by decide +kernel
theorem dX4_giveBack_8 : decode cX4_giveBack 8 = .ok (.ifCond .eq 5, 3) := by decide +kernel
theorem dX4_giveBack_11 : decode cX4_giveBack 11 = .ok (.iload_n 3, 1) := by decide +kernel
theorem dX4_giveBack_12 : decode cX4_giveBack 12 = .ok (.ireturn, 1) := by decide +kernel
theorem dX4_giveBack_13 : decode cX4_giveBack 13 = .ok (.aload_n 0, 1) := by decide +kernel
theorem dX4_giveBack_14 : decode cX4_giveBack 14 = .ok (.invokevirtual 62, 3) := by decide +kernel
theorem dX4_giveBack_17 : decode cX4_giveBack 17 = .ok (.aload_n 0, 1) := by decide +kernel
theorem dX4_giveBack_18 : decode cX4_giveBack 18 = .ok (.iload_n 1, 1) := by decide +kernel
theorem dX4_giveBack_19 : decode cX4_giveBack 19 = .ok (.iload_n 2, 1) := by decide +kernel
theorem dX4_giveBack_20 : decode cX4_giveBack 20 = .ok (.invokevirtual 170, 3) := by decide +kernel
theorem dX4_giveBack_23 : decode cX4_giveBack 23 = .ok (.ireturn, 1) := by decide +kernel
theorem dX4_charge_0 : decode cX4_charge 0 = .ok (.aload_n 0, 1) := by decide +kernel
theorem dX4_charge_1 : decode cX4_charge 1 = .ok (.iload_n 1, 1) := by decide +kernel
theorem dX4_charge_2 : decode cX4_charge 2 = .ok (.invokevirtual 105, 3) := by decide +kernel
theorem dX4_charge_5 : decode cX4_charge 5 = .ok (.ifCond .ne 6, 3) := by decide +kernel
theorem dX4_charge_8 : decode cX4_charge 8 = .ok (.bipush (-2), 2) := by decide +kernel
theorem dX4_charge_10 : decode cX4_charge 10 = .ok (.ireturn, 1) := by decide +kernel
theorem dX4_charge_11 : decode cX4_charge 11 = .ok (.iload_n 2, 1) := by decide +kernel
theorem dX4_charge_12 : decode cX4_charge 12 = .ok (.iconst 0, 1) := by decide +kernel
theorem dX4_charge_13 : decode cX4_charge 13 = .ok (.iconst 4, 1) := by decide +kernel
theorem dX4_charge_14 : decode cX4_charge 14 = .ok (.invokestatic 30, 3) := by decide +kernel
theorem dX4_charge_17 : decode cX4_charge 17 = .ok (.ifCond .eq 12, 3) := by decide +kernel
theorem dX4_charge_20 : decode cX4_charge 20 = .ok (.iload_n 3, 1) := by decide +kernel
theorem dX4_charge_21 : decode cX4_charge 21 = .ok (.iconst 0, 1) := by decide +kernel
theorem dX4_charge_22 : decode cX4_charge 22 = .ok (.iconst 2, 1) := by decide +kernel
theorem dX4_charge_23 : decode cX4_charge 23 = .ok (.invokestatic 30, 3) := by decide +kernel
theorem dX4_charge_26 : decode cX4_charge 26 = .ok (.ifCond .ne 6, 3) := by decide +kernel
theorem dX4_charge_29 : decode cX4_charge 29 = .ok (.bipush (-3), 2) := by decide +kernel
theorem dX4_charge_31 : decode cX4_charge 31 = .ok (.ireturn, 1) := by decide +kernel
theorem dX4_charge_32 : decode cX4_charge 32 = .ok (.aload_n 0, 1) := by decide +kernel
theorem dX4_charge_33 : decode cX4_charge 33 = .ok (.iload_n 1, 1) := by decide +kernel
theorem dX4_charge_34 : decode cX4_charge 34 = .ok (.iconst 1, 1) := by decide +kernel
theorem dX4_charge_35 : decode cX4_charge 35 = .ok (.invokevirtual 55, 3) := by decide +kernel
theorem dX4_charge_38 : decode cX4_charge 38 = .ok (.ifCond .ne 6, 3) := by decide +kernel
theorem dX4_charge_41 : decode cX4_charge 41 = .ok (.bipush (-4), 2) := by decide +kernel
theorem dX4_charge_43 : decode cX4_charge 43 = .ok (.ireturn, 1) := by decide +kernel
theorem dX4_charge_44 : decode cX4_charge 44 = .ok (.iload_n 3, 1) := by decide +kernel
theorem dX4_charge_45 : decode cX4_charge 45 = .ok (.iconst 1, 1) := by decide +kernel
theorem dX4_charge_46 : decode cX4_charge 46 = .ok (.if_icmp .eq 11, 3) := by decide +kernel
theorem dX4_charge_49 : decode cX4_charge 49 = .ok (.aload_n 0, 1) := by decide +kernel
theorem dX4_charge_50 : decode cX4_charge 50 = .ok (.iload_n 1, 1) := by decide +kernel
theorem dX4_charge_51 : decode cX4_charge 51 = .ok (.invokevirtual 161, 3) := by decide +kernel
theorem dX4_charge_54 : decode cX4_charge 54 = .ok (.goto 4, 3) := by decide +kernel
theorem dX4_charge_57 : decode cX4_charge 57 = .ok (.iconst 0, 1) := by decide +kernel
theorem dX4_charge_58 : decode cX4_charge 58 = .ok (.iload_n 3, 1) := by decide +kernel
theorem dX4_charge_59 : decode cX4_charge 59 = .ok (.ifCond .eq 12, 3) := by decide +kernel
theorem dX4_charge_62 : decode cX4_charge 62 = .ok (.aload_n 0, 1) := by decide +kernel
theorem dX4_charge_63 : decode cX4_charge 63 = .ok (.iload_n 1, 1) := by decide +kernel
theorem dX4_charge_64 : decode cX4_charge 64 = .ok (.iload_n 2, 1) := by decide +kernel
theorem dX4_charge_65 : decode cX4_charge 65 = .ok (.invokevirtual 164, 3) := by decide +kernel
theorem dX4_charge_68 : decode cX4_charge 68 = .ok (.goto 4, 3) := by decide +kernel
theorem dX4_charge_71 : decode cX4_charge 71 = .ok (.iconst 0, 1) := by decide +kernel
theorem dX4_charge_72 : decode cX4_charge 72 = .ok (.iadd, 1) := by decide +kernel
theorem dX4_charge_73 : decode cX4_charge 73 = .ok (.ireturn, 1) := by decide +kernel
theorem dX4_cannotPass_0 : decode cX4_cannotPass 0 = .ok (.iload_n 1, 1) := by decide +kernel
theorem dX4_cannotPass_1 : decode cX4_cannotPass 1 = .ok (.iconst 1, 1) := by decide +kernel
theorem dX4_cannotPass_2 : decode cX4_cannotPass 2 = .ok (.sipush 400, 3) := by decide +kernel
theorem dX4_cannotPass_5 : decode cX4_cannotPass 5 = .ok (.invokestatic 30, 3) := by decide +kernel
theorem dX4_cannotPass_8 : decode cX4_cannotPass 8 = .ok (.ifCond .ne 8, 3) := by decide +kernel
theorem dX4_cannotPass_11 : decode cX4_cannotPass 11 = .ok (.bipush (-3), 2) := by decide +kernel
theorem dX4_cannotPass_13 : decode cX4_cannotPass 13 = .ok (.goto 22, 3) := by decide +kernel
theorem dX4_cannotPass_16 : decode cX4_cannotPass 16 = .ok (.aload_n 0, 1) := by decide +kernel
theorem dX4_cannotPass_17 : decode cX4_cannotPass 17 = .ok (.getfield 7, 3) := by decide +kernel
theorem dX4_cannotPass_20 : decode cX4_cannotPass 20 = .ok (.iconst 3, 1) := by decide +kernel
theorem dX4_cannotPass_21 : decode cX4_cannotPass 21 = .ok (.iaload, 1) := by decide +kernel
theorem dX4_cannotPass_22 : decode cX4_cannotPass 22 = .ok (.iload_n 1, 1) := by decide +kernel
theorem dX4_cannotPass_23 : decode cX4_cannotPass 23 = .ok (.iadd, 1) := by decide +kernel
theorem dX4_cannotPass_24 : decode cX4_cannotPass 24 = .ok (.ldc 173, 2) := by decide +kernel
theorem dX4_cannotPass_26 : decode cX4_cannotPass 26 = .ok (.if_icmp .le 8, 3) := by decide +kernel
theorem dX4_cannotPass_29 : decode cX4_cannotPass 29 = .ok (.bipush (-5), 2) := by decide +kernel
theorem dX4_cannotPass_31 : decode cX4_cannotPass 31 = .ok (.goto 4, 3) := by decide +kernel
theorem dX4_cannotPass_34 : decode cX4_cannotPass 34 = .ok (.iconst 0, 1) := by decide +kernel
theorem dX4_cannotPass_35 : decode cX4_cannotPass 35 = .ok (.ireturn, 1) := by decide +kernel
theorem dX4_passes_0 : decode cX4_passes 0 = .ok (.aload_n 0, 1) := by decide +kernel
theorem dX4_passes_1 : decode cX4_passes 1 = .ok (.getfield 7, 3) := by decide +kernel
theorem dX4_passes_4 : decode cX4_passes 4 = .ok (.iconst 3, 1) := by decide +kernel
theorem dX4_passes_5 : decode cX4_passes 5 = .ok (.dup2, 1) := by decide +kernel
theorem dX4_passes_6 : decode cX4_passes 6 = .ok (.iaload, 1) := by decide +kernel
theorem dX4_passes_7 : decode cX4_passes 7 = .ok (.iload_n 1, 1) := by decide +kernel
theorem dX4_passes_8 : decode cX4_passes 8 = .ok (.iadd, 1) := by decide +kernel
theorem dX4_passes_9 : decode cX4_passes 9 = .ok (.iastore, 1) := by decide +kernel
theorem dX4_passes_10 : decode cX4_passes 10 = .ok (.iconst 0, 1) := by decide +kernel
theorem dX4_passes_11 : decode cX4_passes 11 = .ok (.istore_n 2, 1) := by decide +kernel
theorem dX4_passes_12 : decode cX4_passes 12 = .ok (.iconst 0, 1) := by decide +kernel
theorem dX4_passes_13 : decode cX4_passes 13 = .ok (.istore_n 3, 1) := by decide +kernel
theorem dX4_passes_14 : decode cX4_passes 14 = .ok (.iload_n 3, 1) := by decide +kernel
theorem dX4_passes_15 : decode cX4_passes 15 = .ok (.aload_n 0, 1) := by decide +kernel
theorem dX4_passes_16 : decode cX4_passes 16 = .ok (.getfield 7, 3) := by decide +kernel
theorem dX4_passes_19 : decode cX4_passes 19 = .ok (.iconst 1, 1) := by decide +kernel
theorem dX4_passes_20 : decode cX4_passes 20 = .ok (.iaload, 1) := by decide +kernel
theorem dX4_passes_21 : decode cX4_passes 21 = .ok (.if_icmp .ge 49, 3) := by decide +kernel
theorem dX4_passes_24 : decode cX4_passes 24 = .ok (.aload_n 0, 1) := by decide +kernel
theorem dX4_passes_25 : decode cX4_passes 25 = .ok (.iload_n 3, 1) := by decide +kernel
theorem dX4_passes_26 : decode cX4_passes 26 = .ok (.invokevirtual 102, 3) := by decide +kernel
theorem dX4_passes_29 : decode cX4_passes 29 = .ok (.aload_n 0, 1) := by decide +kernel
theorem dX4_passes_30 : decode cX4_passes 30 = .ok (.getfield 7, 3) := by decide +kernel
theorem dX4_passes_33 : decode cX4_passes 33 = .ok (.bipush 6, 2) := by decide +kernel
theorem dX4_passes_35 : decode cX4_passes 35 = .ok (.iaload, 1) := by decide +kernel
theorem dX4_passes_36 : decode cX4_passes 36 = .ok (.if_icmp .le 28, 3) := by decide +kernel
theorem dX4_passes_39 : decode cX4_passes 39 = .ok (.aload_n 0, 1) := by decide +kernel
theorem dX4_passes_40 : decode cX4_passes 40 = .ok (.aload_n 0, 1) := by decide +kernel
theorem dX4_passes_41 : decode cX4_passes 41 = .ok (.iload_n 3, 1) := by decide +kernel
theorem dX4_passes_42 : decode cX4_passes 42 = .ok (.iconst 4, 1) := by decide +kernel
theorem dX4_passes_43 : decode cX4_passes 43 = .ok (.invokevirtual 34, 3) := by decide +kernel
theorem dX4_passes_46 : decode cX4_passes 46 = .ok (.iconst 3, 1) := by decide +kernel
theorem dX4_passes_47 : decode cX4_passes 47 = .ok (.aload_n 0, 1) := by decide +kernel
theorem dX4_passes_48 : decode cX4_passes 48 = .ok (.iload_n 3, 1) := by decide +kernel
theorem dX4_passes_49 : decode cX4_passes 49 = .ok (.invokevirtual 99, 3) := by decide +kernel
theorem dX4_passes_52 : decode cX4_passes 52 = .ok (.invokevirtual 152, 3) := by decide +kernel
theorem dX4_passes_55 : decode cX4_passes 55 = .ok (.aload_n 0, 1) := by decide +kernel
theorem dX4_passes_56 : decode cX4_passes 56 = .ok (.iload_n 3, 1) := by decide +kernel
theorem dX4_passes_57 : decode cX4_passes 57 = .ok (.iconst 3, 1) := by decide +kernel
theorem dX4_passes_58 : decode cX4_passes 58 = .ok (.invokevirtual 134, 3) := by decide +kernel
theorem dX4_passes_61 : decode cX4_passes 61 = .ok (.iinc 2 1, 3) := by decide +kernel
theorem dX4_passes_64 : decode cX4_passes 64 = .ok (.iinc 3 1, 3) := by decide +kernel
theorem dX4_passes_67 : decode cX4_passes 67 = .ok (.goto (-53), 3) := by decide +kernel
theorem dX4_passes_70 : decode cX4_passes 70 = .ok (.iload_n 2, 1) := by decide +kernel
theorem dX4_passes_71 : decode cX4_passes 71 = .ok (.ireturn, 1) := by decide +kernel
theorem dX4_pass_0 : decode cX4_pass 0 = .ok (.aload_n 0, 1) := by decide +kernel
theorem dX4_pass_1 : decode cX4_pass 1 = .ok (.iload_n 1, 1) := by decide +kernel
theorem dX4_pass_2 : decode cX4_pass 2 = .ok (.invokevirtual 174, 3) := by decide +kernel
theorem dX4_pass_5 : decode cX4_pass 5 = .ok (.istore_n 2, 1) := by decide +kernel
theorem dX4_pass_6 : decode cX4_pass 6 = .ok (.iload_n 2, 1) := by decide +kernel
theorem dX4_pass_7 : decode cX4_pass 7 = .ok (.ifCond .eq 5, 3) := by decide +kernel
theorem dX4_pass_10 : decode cX4_pass 10 = .ok (.iload_n 2, 1) := by decide +kernel
theorem dX4_pass_11 : decode cX4_pass 11 = .ok (.ireturn, 1) := by decide +kernel
theorem dX4_pass_12 : decode cX4_pass 12 = .ok (.aload_n 0, 1) := by decide +kernel
theorem dX4_pass_13 : decode cX4_pass 13 = .ok (.invokevirtual 62, 3) := by decide +kernel
theorem dX4_pass_16 : decode cX4_pass 16 = .ok (.aload_n 0, 1) := by decide +kernel
theorem dX4_pass_17 : decode cX4_pass 17 = .ok (.iload_n 1, 1) := by decide +kernel
theorem dX4_pass_18 : decode cX4_pass 18 = .ok (.invokevirtual 177, 3) := by decide +kernel
theorem dX4_pass_21 : decode cX4_pass 21 = .ok (.ireturn, 1) := by decide +kernel
theorem dX4_shelf_0 : decode cX4_shelf 0 = .ok (.aload_n 0, 1) := by decide +kernel
theorem dX4_shelf_1 : decode cX4_shelf 1 = .ok (.iload_n 1, 1) := by decide +kernel
theorem dX4_shelf_2 : decode cX4_shelf 2 = .ok (.invokevirtual 65, 3) := by decide +kernel
theorem dX4_shelf_5 : decode cX4_shelf 5 = .ok (.ifCond .ne 6, 3) := by decide +kernel
theorem dX4_shelf_8 : decode cX4_shelf 8 = .ok (.bipush (-2), 2) := by decide +kernel
theorem dX4_shelf_10 : decode cX4_shelf 10 = .ok (.ireturn, 1) := by decide +kernel
theorem dX4_shelf_11 : decode cX4_shelf 11 = .ok (.iload_n 2, 1) := by decide +kernel
theorem dX4_shelf_12 : decode cX4_shelf 12 = .ok (.iconst 0, 1) := by decide +kernel
theorem dX4_shelf_13 : decode cX4_shelf 13 = .ok (.bipush 60, 2) := by decide +kernel
theorem dX4_shelf_15 : decode cX4_shelf 15 = .ok (.invokestatic 30, 3) := by decide +kernel
theorem dX4_shelf_18 : decode cX4_shelf 18 = .ok (.ifCond .ne 6, 3) := by decide +kernel
theorem dX4_shelf_21 : decode cX4_shelf 21 = .ok (.bipush (-3), 2) := by decide +kernel
theorem dX4_shelf_23 : decode cX4_shelf 23 = .ok (.ireturn, 1) := by decide +kernel
theorem dX4_shelf_24 : decode cX4_shelf 24 = .ok (.aload_n 0, 1) := by decide +kernel
theorem dX4_shelf_25 : decode cX4_shelf 25 = .ok (.iload_n 1, 1) := by decide +kernel
theorem dX4_shelf_26 : decode cX4_shelf 26 = .ok (.iconst 0, 1) := by decide +kernel
theorem dX4_shelf_27 : decode cX4_shelf 27 = .ok (.invokevirtual 87, 3) := by decide +kernel
theorem dX4_shelf_30 : decode cX4_shelf 30 = .ok (.iload_n 2, 1) := by decide +kernel
theorem dX4_shelf_31 : decode cX4_shelf 31 = .ok (.isub, 1) := by decide +kernel
theorem dX4_shelf_32 : decode cX4_shelf 32 = .ok (.istore_n 3, 1) := by decide +kernel
theorem dX4_shelf_33 : decode cX4_shelf 33 = .ok (.iload_n 3, 1) := by decide +kernel
theorem dX4_shelf_34 : decode cX4_shelf 34 = .ok (.ineg, 1) := by decide +kernel
theorem dX4_shelf_35 : decode cX4_shelf 35 = .ok (.aload_n 0, 1) := by decide +kernel
theorem dX4_shelf_36 : decode cX4_shelf 36 = .ok (.iload_n 1, 1) := by decide +kernel
theorem dX4_shelf_37 : decode cX4_shelf 37 = .ok (.iconst 4, 1) := by decide +kernel
theorem dX4_shelf_38 : decode cX4_shelf 38 = .ok (.invokevirtual 87, 3) := by decide +kernel
theorem dX4_shelf_41 : decode cX4_shelf 41 = .ok (.if_icmp .le 6, 3) := by decide +kernel
theorem dX4_shelf_44 : decode cX4_shelf 44 = .ok (.bipush (-4), 2) := by decide +kernel
theorem dX4_shelf_46 : decode cX4_shelf 46 = .ok (.ireturn, 1) := by decide +kernel
theorem dX4_shelf_47 : decode cX4_shelf 47 = .ok (.aload_n 0, 1) := by decide +kernel
theorem dX4_shelf_48 : decode cX4_shelf 48 = .ok (.invokevirtual 62, 3) := by decide +kernel
theorem dX4_shelf_51 : decode cX4_shelf 51 = .ok (.aload_n 0, 1) := by decide +kernel
theorem dX4_shelf_52 : decode cX4_shelf 52 = .ok (.getfield 7, 3) := by decide +kernel
theorem dX4_shelf_55 : decode cX4_shelf 55 = .ok (.iconst 1, 1) := by decide +kernel
theorem dX4_shelf_56 : decode cX4_shelf 56 = .ok (.iaload, 1) := by decide +kernel
theorem dX4_shelf_57 : decode cX4_shelf 57 = .ok (.iconst 1, 1) := by decide +kernel
theorem dX4_shelf_58 : decode cX4_shelf 58 = .ok (.isub, 1) := by decide +kernel
theorem dX4_shelf_59 : decode cX4_shelf 59 = .ok (.istore 4, 2) := by decide +kernel
theorem dX4_shelf_61 : decode cX4_shelf 61 = .ok (.iload 4, 2) := by decide +kernel
theorem dX4_shelf_63 : decode cX4_shelf 63 = .ok (.ifCond .lt 45, 3) := by decide +kernel
theorem dX4_shelf_66 : decode cX4_shelf 66 = .ok (.iload_n 3, 1) := by decide +kernel
theorem dX4_shelf_67 : decode cX4_shelf 67 = .ok (.ifCond .le 35, 3) := by decide +kernel
theorem dX4_shelf_70 : decode cX4_shelf 70 = .ok (.aload_n 0, 1) := by decide +kernel
theorem dX4_shelf_71 : decode cX4_shelf 71 = .ok (.iload 4, 2) := by decide +kernel
theorem dX4_shelf_73 : decode cX4_shelf 73 = .ok (.iconst 0, 1) := by decide +kernel
theorem dX4_shelf_74 : decode cX4_shelf 74 = .ok (.invokevirtual 34, 3) := by decide +kernel
theorem dX4_shelf_77 : decode cX4_shelf 77 = .ok (.iload_n 1, 1) := by decide +kernel
theorem dX4_shelf_78 : decode cX4_shelf 78 = .ok (.if_icmp .ne 24, 3) := by decide +kernel
theorem dX4_shelf_81 : decode cX4_shelf 81 = .ok (.aload_n 0, 1) := by decide +kernel
theorem dX4_shelf_82 : decode cX4_shelf 82 = .ok (.iload 4, 2) := by decide +kernel
theorem dX4_shelf_84 : decode cX4_shelf 84 = .ok (.iconst 0, 1) := by decide +kernel
theorem dX4_shelf_85 : decode cX4_shelf 85 = .ok (.invokevirtual 55, 3) := by decide +kernel
theorem dX4_shelf_88 : decode cX4_shelf 88 = .ok (.ifCond .eq 14, 3) := by decide +kernel
theorem dX4_shelf_91 : decode cX4_shelf 91 = .ok (.aload_n 0, 1) := by decide +kernel
theorem dX4_shelf_92 : decode cX4_shelf 92 = .ok (.iload 4, 2) := by decide +kernel
theorem dX4_shelf_94 : decode cX4_shelf 94 = .ok (.iconst 3, 1) := by decide +kernel
theorem dX4_shelf_95 : decode cX4_shelf 95 = .ok (.iconst 4, 1) := by decide +kernel
theorem dX4_shelf_96 : decode cX4_shelf 96 = .ok (.invokevirtual 115, 3) := by decide +kernel
theorem dX4_shelf_99 : decode cX4_shelf 99 = .ok (.iinc 3 (-1), 3) := by decide +kernel
theorem dX4_shelf_102 : decode cX4_shelf 102 = .ok (.iinc 4 (-1), 3) := by decide +kernel
theorem dX4_shelf_105 : decode cX4_shelf 105 = .ok (.goto (-44), 3) := by decide +kernel
theorem dX4_shelf_108 : decode cX4_shelf 108 = .ok (.iconst 0, 1) := by decide +kernel
theorem dX4_shelf_109 : decode cX4_shelf 109 = .ok (.istore 4, 2) := by decide +kernel
theorem dX4_shelf_111 : decode cX4_shelf 111 = .ok (.iload 4, 2) := by decide +kernel
theorem dX4_shelf_113 : decode cX4_shelf 113 = .ok (.aload_n 0, 1) := by decide +kernel
theorem dX4_shelf_114 : decode cX4_shelf 114 = .ok (.getfield 7, 3) := by decide +kernel
theorem dX4_shelf_117 : decode cX4_shelf 117 = .ok (.iconst 1, 1) := by decide +kernel
theorem dX4_shelf_118 : decode cX4_shelf 118 = .ok (.iaload, 1) := by decide +kernel
theorem dX4_shelf_119 : decode cX4_shelf 119 = .ok (.if_icmp .ge 45, 3) := by decide +kernel
theorem dX4_shelf_122 : decode cX4_shelf 122 = .ok (.iload_n 3, 1) := by decide +kernel
theorem dX4_shelf_123 : decode cX4_shelf 123 = .ok (.ifCond .ge 35, 3) := by decide +kernel
theorem dX4_shelf_126 : decode cX4_shelf 126 = .ok (.aload_n 0, 1) := by decide +kernel
theorem dX4_shelf_127 : decode cX4_shelf 127 = .ok (.iload 4, 2) := by decide +kernel
theorem dX4_shelf_129 : decode cX4_shelf 129 = .ok (.iconst 0, 1) := by decide +kernel
theorem dX4_shelf_130 : decode cX4_shelf 130 = .ok (.invokevirtual 34, 3) := by decide +kernel
theorem dX4_shelf_133 : decode cX4_shelf 133 = .ok (.iload_n 1, 1) := by decide +kernel
theorem dX4_shelf_134 : decode cX4_shelf 134 = .ok (.if_icmp .ne 24, 3) := by decide +kernel
theorem dX4_shelf_137 : decode cX4_shelf 137 = .ok (.aload_n 0, 1) := by decide +kernel
theorem dX4_shelf_138 : decode cX4_shelf 138 = .ok (.iload 4, 2) := by decide +kernel
theorem dX4_shelf_140 : decode cX4_shelf 140 = .ok (.iconst 4, 1) := by decide +kernel
theorem dX4_shelf_141 : decode cX4_shelf 141 = .ok (.invokevirtual 55, 3) := by decide +kernel
theorem dX4_shelf_144 : decode cX4_shelf 144 = .ok (.ifCond .eq 14, 3) := by decide +kernel
theorem dX4_shelf_147 : decode cX4_shelf 147 = .ok (.aload_n 0, 1) := by decide +kernel
theorem dX4_shelf_148 : decode cX4_shelf 148 = .ok (.iload 4, 2) := by decide +kernel
theorem dX4_shelf_150 : decode cX4_shelf 150 = .ok (.iconst 3, 1) := by decide +kernel
theorem dX4_shelf_151 : decode cX4_shelf 151 = .ok (.iconst 0, 1) := by decide +kernel
theorem dX4_shelf_152 : decode cX4_shelf 152 = .ok (.invokevirtual 115, 3) := by decide +kernel
theorem dX4_shelf_155 : decode cX4_shelf 155 = .ok (.iinc 3 1, 3) := by decide +kernel
theorem dX4_shelf_158 : decode cX4_shelf 158 = .ok (.iinc 4 1, 3) := by decide +kernel
theorem dX4_shelf_161 : decode cX4_shelf 161 = .ok (.goto (-50), 3) := by decide +kernel
theorem dX4_shelf_164 : decode cX4_shelf 164 = .ok (.aload_n 0, 1) := by decide +kernel
theorem dX4_shelf_165 : decode cX4_shelf 165 = .ok (.iload_n 1, 1) := by decide +kernel
theorem dX4_shelf_166 : decode cX4_shelf 166 = .ok (.iconst 4, 1) := by decide +kernel
theorem dX4_shelf_167 : decode cX4_shelf 167 = .ok (.invokevirtual 87, 3) := by decide +kernel
theorem dX4_shelf_170 : decode cX4_shelf 170 = .ok (.ireturn, 1) := by decide +kernel
theorem dX4_customerNow_0 : decode cX4_customerNow 0 = .ok (.iconst 0, 1) := by decide +kernel
theorem dX4_customerNow_1 : decode cX4_customerNow 1 = .ok (.istore_n 3, 1) := by decide +kernel
theorem dX4_customerNow_2 : decode cX4_customerNow 2 = .ok (.iconst 0, 1) := by decide +kernel
theorem dX4_customerNow_3 : decode cX4_customerNow 3 = .ok (.istore 4, 2) := by decide +kernel
theorem dX4_customerNow_5 : decode cX4_customerNow 5 = .ok (.iload 4, 2) := by decide +kernel
theorem dX4_customerNow_7 : decode cX4_customerNow 7 = .ok (.aload_n 0, 1) := by decide +kernel
theorem dX4_customerNow_8 : decode cX4_customerNow 8 = .ok (.getfield 7, 3) := by decide +kernel
theorem dX4_customerNow_11 : decode cX4_customerNow 11 = .ok (.iconst 1, 1) := by decide +kernel
theorem dX4_customerNow_12 : decode cX4_customerNow 12 = .ok (.iaload, 1) := by decide +kernel
theorem dX4_customerNow_13 : decode cX4_customerNow 13 = .ok (.if_icmp .ge 51, 3) := by decide +kernel
theorem dX4_customerNow_16 : decode cX4_customerNow 16 = .ok (.iload_n 3, 1) := by decide +kernel
theorem dX4_customerNow_17 : decode cX4_customerNow 17 = .ok (.aload_n 0, 1) := by decide +kernel
theorem dX4_customerNow_18 : decode cX4_customerNow 18 = .ok (.iload 4, 2) := by decide +kernel
theorem dX4_customerNow_20 : decode cX4_customerNow 20 = .ok (.iconst 1, 1) := by decide +kernel
theorem dX4_customerNow_21 : decode cX4_customerNow 21 = .ok (.invokevirtual 55, 3) := by decide +kernel
theorem dX4_customerNow_24 : decode cX4_customerNow 24 = .ok (.ifCond .eq 31, 3) := by decide +kernel
theorem dX4_customerNow_27 : decode cX4_customerNow 27 = .ok (.aload_n 0, 1) := by decide +kernel
theorem dX4_customerNow_28 : decode cX4_customerNow 28 = .ok (.iload 4, 2) := by decide +kernel
theorem dX4_customerNow_30 : decode cX4_customerNow 30 = .ok (.iconst 4, 1) := by decide +kernel
theorem dX4_customerNow_31 : decode cX4_customerNow 31 = .ok (.invokevirtual 34, 3) := by decide +kernel
theorem dX4_customerNow_34 : decode cX4_customerNow 34 = .ok (.iload_n 1, 1) := by decide +kernel
theorem dX4_customerNow_35 : decode cX4_customerNow 35 = .ok (.if_icmp .ne 20, 3) := by decide +kernel
theorem dX4_customerNow_38 : decode cX4_customerNow 38 = .ok (.iload_n 2, 1) := by decide +kernel
theorem dX4_customerNow_39 : decode cX4_customerNow 39 = .ok (.ifCond .eq 12, 3) := by decide +kernel
theorem dX4_customerNow_42 : decode cX4_customerNow 42 = .ok (.aload_n 0, 1) := by decide +kernel
theorem dX4_customerNow_43 : decode cX4_customerNow 43 = .ok (.iload 4, 2) := by decide +kernel
theorem dX4_customerNow_45 : decode cX4_customerNow 45 = .ok (.invokevirtual 102, 3) := by decide +kernel
theorem dX4_customerNow_48 : decode cX4_customerNow 48 = .ok (.ifCond .le 7, 3) := by decide +kernel
theorem dX4_customerNow_51 : decode cX4_customerNow 51 = .ok (.iconst 1, 1) := by decide +kernel
theorem dX4_customerNow_52 : decode cX4_customerNow 52 = .ok (.goto 4, 3) := by decide +kernel
theorem dX4_customerNow_55 : decode cX4_customerNow 55 = .ok (.iconst 0, 1) := by decide +kernel
theorem dX4_customerNow_56 : decode cX4_customerNow 56 = .ok (.iadd, 1) := by decide +kernel
theorem dX4_customerNow_57 : decode cX4_customerNow 57 = .ok (.istore_n 3, 1) := by decide +kernel
theorem dX4_customerNow_58 : decode cX4_customerNow 58 = .ok (.iinc 4 1, 3) := by decide +kernel
theorem dX4_customerNow_61 : decode cX4_customerNow 61 = .ok (.goto (-56), 3) := by decide +kernel
theorem dX4_customerNow_64 : decode cX4_customerNow 64 = .ok (.iload_n 2, 1) := by decide +kernel
theorem dX4_customerNow_65 : decode cX4_customerNow 65 = .ok (.iconst 2, 1) := by decide +kernel
theorem dX4_customerNow_66 : decode cX4_customerNow 66 = .ok (.if_icmp .ne 15, 3) := by decide +kernel
theorem dX4_customerNow_69 : decode cX4_customerNow 69 = .ok (.aload_n 0, 1) := by decide +kernel
theorem dX4_customerNow_70 : decode cX4_customerNow 70 = .ok (.getfield 7, 3) := by decide +kernel
theorem dX4_customerNow_73 : decode cX4_customerNow 73 = .ok (.bipush 15, 2) := by decide +kernel
theorem dX4_customerNow_75 : decode cX4_customerNow 75 = .ok (.iload_n 1, 1) := by decide +kernel
theorem dX4_customerNow_76 : decode cX4_customerNow 76 = .ok (.iadd, 1) := by decide +kernel
theorem dX4_customerNow_77 : decode cX4_customerNow 77 = .ok (.iaload, 1) := by decide +kernel
theorem dX4_customerNow_78 : decode cX4_customerNow 78 = .ok (.goto 4, 3) := by decide +kernel
theorem dX4_customerNow_81 : decode cX4_customerNow 81 = .ok (.iload_n 3, 1) := by decide +kernel
theorem dX4_customerNow_82 : decode cX4_customerNow 82 = .ok (.ireturn, 1) := by decide +kernel
theorem dX4_customer_0 : decode cX4_customer 0 = .ok (.iload_n 1, 1) := by decide +kernel
theorem dX4_customer_1 : decode cX4_customer 1 = .ok (.invokestatic 143, 3) := by decide +kernel
theorem dX4_customer_4 : decode cX4_customer 4 = .ok (.ifCond .ne 6, 3) := by decide +kernel
theorem dX4_customer_7 : decode cX4_customer 7 = .ok (.bipush (-2), 2) := by decide +kernel
theorem dX4_customer_9 : decode cX4_customer 9 = .ok (.ireturn, 1) := by decide +kernel
theorem dX4_customer_10 : decode cX4_customer 10 = .ok (.iload_n 2, 1) := by decide +kernel
theorem dX4_customer_11 : decode cX4_customer 11 = .ok (.iconst 0, 1) := by decide +kernel
theorem dX4_customer_12 : decode cX4_customer 12 = .ok (.iconst 2, 1) := by decide +kernel
theorem dX4_customer_13 : decode cX4_customer 13 = .ok (.invokestatic 30, 3) := by decide +kernel
theorem dX4_customer_16 : decode cX4_customer 16 = .ok (.ifCond .eq 12, 3) := by decide +kernel
theorem dX4_customer_19 : decode cX4_customer 19 = .ok (.aload_n 0, 1) := by decide +kernel
theorem dX4_customer_20 : decode cX4_customer 20 = .ok (.iload_n 1, 1) := by decide +kernel
theorem dX4_customer_21 : decode cX4_customer 21 = .ok (.iload_n 2, 1) := by decide +kernel
theorem dX4_customer_22 : decode cX4_customer 22 = .ok (.invokevirtual 180, 3) := by decide +kernel
theorem dX4_customer_25 : decode cX4_customer 25 = .ok (.goto 5, 3) := by decide +kernel
theorem dX4_customer_28 : decode cX4_customer 28 = .ok (.bipush (-3), 2) := by decide +kernel
theorem dX4_customer_30 : decode cX4_customer 30 = .ok (.ireturn, 1) := by decide +kernel
theorem dX4_lostIn_0 : decode cX4_lostIn 0 = .ok (.iload_n 1, 1) := by decide +kernel
theorem dX4_lostIn_1 : decode cX4_lostIn 1 = .ok (.iconst 1, 1) := by decide +kernel
theorem dX4_lostIn_2 : decode cX4_lostIn 2 = .ok (.sipush 400, 3) := by decide +kernel
theorem dX4_lostIn_5 : decode cX4_lostIn 5 = .ok (.invokestatic 30, 3) := by decide +kernel
theorem dX4_lostIn_8 : decode cX4_lostIn 8 = .ok (.ifCond .ne 6, 3) := by decide +kernel
theorem dX4_lostIn_11 : decode cX4_lostIn 11 = .ok (.bipush (-3), 2) := by decide +kernel
theorem dX4_lostIn_13 : decode cX4_lostIn 13 = .ok (.ireturn, 1) := by decide +kernel
theorem dX4_lostIn_14 : decode cX4_lostIn 14 = .ok (.iconst 0, 1) := by decide +kernel
theorem dX4_lostIn_15 : decode cX4_lostIn 15 = .ok (.istore_n 2, 1) := by decide +kernel
theorem dX4_lostIn_16 : decode cX4_lostIn 16 = .ok (.iconst 0, 1) := by decide +kernel
theorem dX4_lostIn_17 : decode cX4_lostIn 17 = .ok (.istore_n 3, 1) := by decide +kernel
theorem dX4_lostIn_18 : decode cX4_lostIn 18 = .ok (.iload_n 3, 1) := by decide +kernel
theorem dX4_lostIn_19 : decode cX4_lostIn 19 = .ok (.aload_n 0, 1) := by decide +kernel
theorem dX4_lostIn_20 : decode cX4_lostIn 20 = .ok (.getfield 7, 3) := by decide +kernel
theorem dX4_lostIn_23 : decode cX4_lostIn 23 = .ok (.iconst 1, 1) := by decide +kernel
theorem dX4_lostIn_24 : decode cX4_lostIn 24 = .ok (.iaload, 1) := by decide +kernel
theorem dX4_lostIn_25 : decode cX4_lostIn 25 = .ok (.if_icmp .ge 51, 3) := by decide +kernel
theorem dX4_lostIn_28 : decode cX4_lostIn 28 = .ok (.iload_n 2, 1) := by decide +kernel
theorem dX4_lostIn_29 : decode cX4_lostIn 29 = .ok (.aload_n 0, 1) := by decide +kernel
theorem dX4_lostIn_30 : decode cX4_lostIn 30 = .ok (.iload_n 3, 1) := by decide +kernel
theorem dX4_lostIn_31 : decode cX4_lostIn 31 = .ok (.iconst 1, 1) := by decide +kernel
theorem dX4_lostIn_32 : decode cX4_lostIn 32 = .ok (.invokevirtual 55, 3) := by decide +kernel
theorem dX4_lostIn_35 : decode cX4_lostIn 35 = .ok (.ifCond .eq 32, 3) := by decide +kernel
theorem dX4_lostIn_38 : decode cX4_lostIn 38 = .ok (.aload_n 0, 1) := by decide +kernel
theorem dX4_lostIn_39 : decode cX4_lostIn 39 = .ok (.getfield 7, 3) := by decide +kernel
theorem dX4_lostIn_42 : decode cX4_lostIn 42 = .ok (.iconst 3, 1) := by decide +kernel
theorem dX4_lostIn_43 : decode cX4_lostIn 43 = .ok (.iaload, 1) := by decide +kernel
theorem dX4_lostIn_44 : decode cX4_lostIn 44 = .ok (.iload_n 1, 1) := by decide +kernel
theorem dX4_lostIn_45 : decode cX4_lostIn 45 = .ok (.iadd, 1) := by decide +kernel
theorem dX4_lostIn_46 : decode cX4_lostIn 46 = .ok (.aload_n 0, 1) := by decide +kernel
theorem dX4_lostIn_47 : decode cX4_lostIn 47 = .ok (.iload_n 3, 1) := by decide +kernel
theorem dX4_lostIn_48 : decode cX4_lostIn 48 = .ok (.iconst 5, 1) := by decide +kernel
theorem dX4_lostIn_49 : decode cX4_lostIn 49 = .ok (.invokevirtual 34, 3) := by decide +kernel
theorem dX4_lostIn_52 : decode cX4_lostIn 52 = .ok (.isub, 1) := by decide +kernel
theorem dX4_lostIn_53 : decode cX4_lostIn 53 = .ok (.aload_n 0, 1) := by decide +kernel
theorem dX4_lostIn_54 : decode cX4_lostIn 54 = .ok (.getfield 7, 3) := by decide +kernel
theorem dX4_lostIn_57 : decode cX4_lostIn 57 = .ok (.bipush 6, 2) := by decide +kernel
theorem dX4_lostIn_59 : decode cX4_lostIn 59 = .ok (.iaload, 1) := by decide +kernel
theorem dX4_lostIn_60 : decode cX4_lostIn 60 = .ok (.if_icmp .le 7, 3) := by decide +kernel
theorem dX4_lostIn_63 : decode cX4_lostIn 63 = .ok (.iconst 1, 1) := by decide +kernel
theorem dX4_lostIn_64 : decode cX4_lostIn 64 = .ok (.goto 4, 3) := by decide +kernel
theorem dX4_lostIn_67 : decode cX4_lostIn 67 = .ok (.iconst 0, 1) := by decide +kernel
theorem dX4_lostIn_68 : decode cX4_lostIn 68 = .ok (.iadd, 1) := by decide +kernel
theorem dX4_lostIn_69 : decode cX4_lostIn 69 = .ok (.istore_n 2, 1) := by decide +kernel
theorem dX4_lostIn_70 : decode cX4_lostIn 70 = .ok (.iinc 3 1, 3) := by decide +kernel
theorem dX4_lostIn_73 : decode cX4_lostIn 73 = .ok (.goto (-55), 3) := by decide +kernel
theorem dX4_lostIn_76 : decode cX4_lostIn 76 = .ok (.iload_n 2, 1) := by decide +kernel
theorem dX4_lostIn_77 : decode cX4_lostIn 77 = .ok (.ireturn, 1) := by decide +kernel
theorem dX4_owned_0 : decode cX4_owned 0 = .ok (.iconst 0, 1) := by decide +kernel
theorem dX4_owned_1 : decode cX4_owned 1 = .ok (.istore_n 2, 1) := by decide +kernel
theorem dX4_owned_2 : decode cX4_owned 2 = .ok (.iconst 0, 1) := by decide +kernel
theorem dX4_owned_3 : decode cX4_owned 3 = .ok (.istore_n 3, 1) := by decide +kernel
theorem dX4_owned_4 : decode cX4_owned 4 = .ok (.iload_n 3, 1) := by decide +kernel
theorem dX4_owned_5 : decode cX4_owned 5 = .ok (.aload_n 0, 1) := by decide +kernel
theorem dX4_owned_6 : decode cX4_owned 6 = .ok (.getfield 7, 3) := by decide +kernel
theorem dX4_owned_9 : decode cX4_owned 9 = .ok (.iconst 1, 1) := by decide +kernel
theorem dX4_owned_10 : decode cX4_owned 10 = .ok (.iaload, 1) := by decide +kernel
theorem dX4_owned_11 : decode cX4_owned 11 = .ok (.if_icmp .ge 49, 3) := by decide +kernel
theorem dX4_owned_14 : decode cX4_owned 14 = .ok (.iload_n 2, 1) := by decide +kernel
theorem dX4_owned_15 : decode cX4_owned 15 = .ok (.aload_n 0, 1) := by decide +kernel
theorem dX4_owned_16 : decode cX4_owned 16 = .ok (.iload_n 3, 1) := by decide +kernel
theorem dX4_owned_17 : decode cX4_owned 17 = .ok (.iconst 0, 1) := by decide +kernel
theorem dX4_owned_18 : decode cX4_owned 18 = .ok (.invokevirtual 34, 3) := by decide +kernel
theorem dX4_owned_21 : decode cX4_owned 21 = .ok (.iload_n 1, 1) := by decide +kernel
theorem dX4_owned_22 : decode cX4_owned 22 = .ok (.if_icmp .ne 29, 3) := by decide +kernel
theorem dX4_owned_25 : decode cX4_owned 25 = .ok (.aload_n 0, 1) := by decide +kernel
theorem dX4_owned_26 : decode cX4_owned 26 = .ok (.iload_n 3, 1) := by decide +kernel
theorem dX4_owned_27 : decode cX4_owned 27 = .ok (.iconst 2, 1) := by decide +kernel
theorem dX4_owned_28 : decode cX4_owned 28 = .ok (.invokevirtual 55, 3) := by decide +kernel
theorem dX4_owned_31 : decode cX4_owned 31 = .ok (.ifCond .ne 20, 3) := by decide +kernel
theorem dX4_owned_34 : decode cX4_owned 34 = .ok (.aload_n 0, 1) := by decide +kernel
theorem dX4_owned_35 : decode cX4_owned 35 = .ok (.iload_n 3, 1) := by decide +kernel
theorem dX4_owned_36 : decode cX4_owned 36 = .ok (.iconst 3, 1) := by decide +kernel
theorem dX4_owned_37 : decode cX4_owned 37 = .ok (.invokevirtual 55, 3) := by decide +kernel
theorem dX4_owned_40 : decode cX4_owned 40 = .ok (.ifCond .ne 11, 3) := by decide +kernel
theorem dX4_owned_43 : decode cX4_owned 43 = .ok (.aload_n 0, 1) := by decide +kernel
theorem dX4_owned_44 : decode cX4_owned 44 = .ok (.iload_n 3, 1) := by decide +kernel
theorem dX4_owned_45 : decode cX4_owned 45 = .ok (.invokevirtual 99, 3) := by decide +kernel
theorem dX4_owned_48 : decode cX4_owned 48 = .ok (.goto 4, 3) := by decide +kernel
theorem dX4_owned_51 : decode cX4_owned 51 = .ok (.iconst 0, 1) := by decide +kernel
theorem dX4_owned_52 : decode cX4_owned 52 = .ok (.iadd, 1) := by decide +kernel
theorem dX4_owned_53 : decode cX4_owned 53 = .ok (.istore_n 2, 1) := by decide +kernel
theorem dX4_owned_54 : decode cX4_owned 54 = .ok (.iinc 3 1, 3) := by decide +kernel
theorem dX4_owned_57 : decode cX4_owned 57 = .ok (.goto (-53), 3) := by decide +kernel
theorem dX4_owned_60 : decode cX4_owned 60 = .ok (.iload_n 2, 1) := by decide +kernel
theorem dX4_owned_61 : decode cX4_owned 61 = .ok (.ireturn, 1) := by decide +kernel
theorem dX4_agingOf_0 : decode cX4_agingOf 0 = .ok (.aload_n 0, 1) := by decide +kernel
theorem dX4_agingOf_1 : decode cX4_agingOf 1 = .ok (.iload_n 1, 1) := by decide +kernel
theorem dX4_agingOf_2 : decode cX4_agingOf 2 = .ok (.invokevirtual 65, 3) := by decide +kernel
theorem dX4_agingOf_5 : decode cX4_agingOf 5 = .ok (.ifCond .ne 6, 3) := by decide +kernel
theorem dX4_agingOf_8 : decode cX4_agingOf 8 = .ok (.bipush (-2), 2) := by decide +kernel
theorem dX4_agingOf_10 : decode cX4_agingOf 10 = .ok (.ireturn, 1) := by decide +kernel
theorem dX4_agingOf_11 : decode cX4_agingOf 11 = .ok (.aload_n 0, 1) := by decide +kernel
theorem dX4_agingOf_12 : decode cX4_agingOf 12 = .ok (.iload_n 1, 1) := by decide +kernel
theorem dX4_agingOf_13 : decode cX4_agingOf 13 = .ok (.invokevirtual 42, 3) := by decide +kernel
theorem dX4_agingOf_16 : decode cX4_agingOf 16 = .ok (.bipush 30, 2) := by decide +kernel
theorem dX4_agingOf_18 : decode cX4_agingOf 18 = .ok (.if_icmp .ne 6, 3) := by decide +kernel
theorem dX4_agingOf_21 : decode cX4_agingOf 21 = .ok (.bipush (-5), 2) := by decide +kernel
theorem dX4_agingOf_23 : decode cX4_agingOf 23 = .ok (.ireturn, 1) := by decide +kernel
theorem dX4_agingOf_24 : decode cX4_agingOf 24 = .ok (.aload_n 0, 1) := by decide +kernel
theorem dX4_agingOf_25 : decode cX4_agingOf 25 = .ok (.iload_n 1, 1) := by decide +kernel
theorem dX4_agingOf_26 : decode cX4_agingOf 26 = .ok (.invokevirtual 183, 3) := by decide +kernel
theorem dX4_agingOf_29 : decode cX4_agingOf 29 = .ok (.istore_n 2, 1) := by decide +kernel
theorem dX4_agingOf_30 : decode cX4_agingOf 30 = .ok (.aload_n 0, 1) := by decide +kernel
theorem dX4_agingOf_31 : decode cX4_agingOf 31 = .ok (.getfield 7, 3) := by decide +kernel
theorem dX4_agingOf_34 : decode cX4_agingOf 34 = .ok (.bipush 23, 2) := by decide +kernel
theorem dX4_agingOf_36 : decode cX4_agingOf 36 = .ok (.iconst 2, 1) := by decide +kernel
theorem dX4_agingOf_37 : decode cX4_agingOf 37 = .ok (.iload_n 1, 1) := by decide +kernel
theorem dX4_agingOf_38 : decode cX4_agingOf 38 = .ok (.imul, 1) := by decide +kernel
theorem dX4_agingOf_39 : decode cX4_agingOf 39 = .ok (.iadd, 1) := by decide +kernel
theorem dX4_agingOf_40 : decode cX4_agingOf 40 = .ok (.iconst 1, 1) := by decide +kernel
theorem dX4_agingOf_41 : decode cX4_agingOf 41 = .ok (.iadd, 1) := by decide +kernel
theorem dX4_agingOf_42 : decode cX4_agingOf 42 = .ok (.dup2, 1) := by decide +kernel
theorem dX4_agingOf_43 : decode cX4_agingOf 43 = .ok (.iaload, 1) := by decide +kernel
theorem dX4_agingOf_44 : decode cX4_agingOf 44 = .ok (.iconst 1, 1) := by decide +kernel
theorem dX4_agingOf_45 : decode cX4_agingOf 45 = .ok (.iadd, 1) := by decide +kernel
theorem dX4_agingOf_46 : decode cX4_agingOf 46 = .ok (.iastore, 1) := by decide +kernel
theorem dX4_agingOf_47 : decode cX4_agingOf 47 = .ok (.aload_n 0, 1) := by decide +kernel
theorem dX4_agingOf_48 : decode cX4_agingOf 48 = .ok (.iload_n 1, 1) := by decide +kernel
theorem dX4_agingOf_49 : decode cX4_agingOf 49 = .ok (.invokevirtual 183, 3) := by decide +kernel
theorem dX4_agingOf_52 : decode cX4_agingOf 52 = .ok (.istore_n 3, 1) := by decide +kernel
theorem dX4_agingOf_53 : decode cX4_agingOf 53 = .ok (.aload_n 0, 1) := by decide +kernel
theorem dX4_agingOf_54 : decode cX4_agingOf 54 = .ok (.getfield 7, 3) := by decide +kernel
theorem dX4_agingOf_57 : decode cX4_agingOf 57 = .ok (.bipush 23, 2) := by decide +kernel
theorem dX4_agingOf_59 : decode cX4_agingOf 59 = .ok (.iconst 2, 1) := by decide +kernel
theorem dX4_agingOf_60 : decode cX4_agingOf 60 = .ok (.iload_n 1, 1) := by decide +kernel
theorem dX4_agingOf_61 : decode cX4_agingOf 61 = .ok (.imul, 1) := by decide +kernel
theorem dX4_agingOf_62 : decode cX4_agingOf 62 = .ok (.iadd, 1) := by decide +kernel
theorem dX4_agingOf_63 : decode cX4_agingOf 63 = .ok (.iconst 1, 1) := by decide +kernel
theorem dX4_agingOf_64 : decode cX4_agingOf 64 = .ok (.iadd, 1) := by decide +kernel
theorem dX4_agingOf_65 : decode cX4_agingOf 65 = .ok (.dup2, 1) := by decide +kernel
theorem dX4_agingOf_66 : decode cX4_agingOf 66 = .ok (.iaload, 1) := by decide +kernel
theorem dX4_agingOf_67 : decode cX4_agingOf 67 = .ok (.iconst 1, 1) := by decide +kernel
theorem dX4_agingOf_68 : decode cX4_agingOf 68 = .ok (.isub, 1) := by decide +kernel
theorem dX4_agingOf_69 : decode cX4_agingOf 69 = .ok (.iastore, 1) := by decide +kernel
theorem dX4_agingOf_70 : decode cX4_agingOf 70 = .ok (.iload_n 2, 1) := by decide +kernel
theorem dX4_agingOf_71 : decode cX4_agingOf 71 = .ok (.iload_n 3, 1) := by decide +kernel
theorem dX4_agingOf_72 : decode cX4_agingOf 72 = .ok (.isub, 1) := by decide +kernel
theorem dX4_agingOf_73 : decode cX4_agingOf 73 = .ok (.ireturn, 1) := by decide +kernel
theorem dX4_stockFrom_0 : decode cX4_stockFrom 0 = .ok (.iconst 0, 1) := by decide +kernel
theorem dX4_stockFrom_1 : decode cX4_stockFrom 1 = .ok (.istore_n 3, 1) := by decide +kernel
theorem dX4_stockFrom_2 : decode cX4_stockFrom 2 = .ok (.iconst 0, 1) := by decide +kernel
theorem dX4_stockFrom_3 : decode cX4_stockFrom 3 = .ok (.istore 4, 2) := by decide +kernel
theorem dX4_stockFrom_5 : decode cX4_stockFrom 5 = .ok (.iload 4, 2) := by decide +kernel
theorem dX4_stockFrom_7 : decode cX4_stockFrom 7 = .ok (.aload_n 0, 1) := by decide +kernel
theorem dX4_stockFrom_8 : decode cX4_stockFrom 8 = .ok (.getfield 7, 3) := by decide +kernel
theorem dX4_stockFrom_11 : decode cX4_stockFrom 11 = .ok (.iconst 1, 1) := by decide +kernel
theorem dX4_stockFrom_12 : decode cX4_stockFrom 12 = .ok (.iaload, 1) := by decide +kernel
theorem dX4_stockFrom_13 : decode cX4_stockFrom 13 = .ok (.if_icmp .ge 49, 3) := by decide +kernel
theorem dX4_stockFrom_16 : decode cX4_stockFrom 16 = .ok (.iload_n 3, 1) := by decide +kernel
theorem dX4_stockFrom_17 : decode cX4_stockFrom 17 = .ok (.aload_n 0, 1) := by decide +kernel
theorem dX4_stockFrom_18 : decode cX4_stockFrom 18 = .ok (.iload 4, 2) := by decide +kernel
theorem dX4_stockFrom_20 : decode cX4_stockFrom 20 = .ok (.iconst 0, 1) := by decide +kernel
theorem dX4_stockFrom_21 : decode cX4_stockFrom 21 = .ok (.invokevirtual 34, 3) := by decide +kernel
theorem dX4_stockFrom_24 : decode cX4_stockFrom 24 = .ok (.iload_n 1, 1) := by decide +kernel
theorem dX4_stockFrom_25 : decode cX4_stockFrom 25 = .ok (.if_icmp .ne 28, 3) := by decide +kernel
theorem dX4_stockFrom_28 : decode cX4_stockFrom 28 = .ok (.aload_n 0, 1) := by decide +kernel
theorem dX4_stockFrom_29 : decode cX4_stockFrom 29 = .ok (.iload 4, 2) := by decide +kernel
theorem dX4_stockFrom_31 : decode cX4_stockFrom 31 = .ok (.iconst 0, 1) := by decide +kernel
theorem dX4_stockFrom_32 : decode cX4_stockFrom 32 = .ok (.invokevirtual 55, 3) := by decide +kernel
theorem dX4_stockFrom_35 : decode cX4_stockFrom 35 = .ok (.ifCond .eq 18, 3) := by decide +kernel
theorem dX4_stockFrom_38 : decode cX4_stockFrom 38 = .ok (.aload_n 0, 1) := by decide +kernel
theorem dX4_stockFrom_39 : decode cX4_stockFrom 39 = .ok (.iload 4, 2) := by decide +kernel
theorem dX4_stockFrom_41 : decode cX4_stockFrom 41 = .ok (.iconst 1, 1) := by decide +kernel
theorem dX4_stockFrom_42 : decode cX4_stockFrom 42 = .ok (.invokevirtual 34, 3) := by decide +kernel
theorem dX4_stockFrom_45 : decode cX4_stockFrom 45 = .ok (.iload_n 2, 1) := by decide +kernel
theorem dX4_stockFrom_46 : decode cX4_stockFrom 46 = .ok (.if_icmp .lt 7, 3) := by decide +kernel
theorem dX4_stockFrom_49 : decode cX4_stockFrom 49 = .ok (.iconst 1, 1) := by decide +kernel
theorem dX4_stockFrom_50 : decode cX4_stockFrom 50 = .ok (.goto 4, 3) := by decide +kernel
theorem dX4_stockFrom_53 : decode cX4_stockFrom 53 = .ok (.iconst 0, 1) := by decide +kernel
theorem dX4_stockFrom_54 : decode cX4_stockFrom 54 = .ok (.iadd, 1) := by decide +kernel
theorem dX4_stockFrom_55 : decode cX4_stockFrom 55 = .ok (.istore_n 3, 1) := by decide +kernel
theorem dX4_stockFrom_56 : decode cX4_stockFrom 56 = .ok (.iinc 4 1, 3) := by decide +kernel
theorem dX4_stockFrom_59 : decode cX4_stockFrom 59 = .ok (.goto (-54), 3) := by decide +kernel
theorem dX4_stockFrom_62 : decode cX4_stockFrom 62 = .ok (.iload_n 3, 1) := by decide +kernel
theorem dX4_stockFrom_63 : decode cX4_stockFrom 63 = .ok (.ireturn, 1) := by decide +kernel
theorem dX4_servedOf_0 : decode cX4_servedOf 0 = .ok (.iconst 0, 1) := by decide +kernel
theorem dX4_servedOf_1 : decode cX4_servedOf 1 = .ok (.istore_n 2, 1) := by decide +kernel
theorem dX4_servedOf_2 : decode cX4_servedOf 2 = .ok (.bipush 30, 2) := by decide +kernel
theorem dX4_servedOf_4 : decode cX4_servedOf 4 = .ok (.istore_n 3, 1) := by decide +kernel
theorem dX4_servedOf_5 : decode cX4_servedOf 5 = .ok (.iload_n 3, 1) := by decide +kernel
theorem dX4_servedOf_6 : decode cX4_servedOf 6 = .ok (.ifCond .le 86, 3) := by decide +kernel
theorem dX4_servedOf_9 : decode cX4_servedOf 9 = .ok (.iconst 0, 1) := by decide +kernel
theorem dX4_servedOf_10 : decode cX4_servedOf 10 = .ok (.istore 4, 2) := by decide +kernel
theorem dX4_servedOf_12 : decode cX4_servedOf 12 = .ok (.iconst 0, 1) := by decide +kernel
theorem dX4_servedOf_13 : decode cX4_servedOf 13 = .ok (.istore 5, 2) := by decide +kernel
theorem dX4_servedOf_15 : decode cX4_servedOf 15 = .ok (.iload 5, 2) := by decide +kernel
theorem dX4_servedOf_17 : decode cX4_servedOf 17 = .ok (.aload_n 0, 1) := by decide +kernel
theorem dX4_servedOf_18 : decode cX4_servedOf 18 = .ok (.getfield 7, 3) := by decide +kernel
theorem dX4_servedOf_21 : decode cX4_servedOf 21 = .ok (.iconst 2, 1) := by decide +kernel
theorem dX4_servedOf_22 : decode cX4_servedOf 22 = .ok (.iaload, 1) := by decide +kernel
theorem dX4_servedOf_23 : decode cX4_servedOf 23 = .ok (.if_icmp .ge 47, 3) := by decide +kernel
theorem dX4_servedOf_26 : decode cX4_servedOf 26 = .ok (.iload 4, 2) := by decide +kernel
theorem dX4_servedOf_28 : decode cX4_servedOf 28 = .ok (.aload_n 0, 1) := by decide +kernel
theorem dX4_servedOf_29 : decode cX4_servedOf 29 = .ok (.iload 5, 2) := by decide +kernel
theorem dX4_servedOf_31 : decode cX4_servedOf 31 = .ok (.iconst 0, 1) := by decide +kernel
theorem dX4_servedOf_32 : decode cX4_servedOf 32 = .ok (.invokevirtual 52, 3) := by decide +kernel
theorem dX4_servedOf_35 : decode cX4_servedOf 35 = .ok (.iload_n 1, 1) := by decide +kernel
theorem dX4_servedOf_36 : decode cX4_servedOf 36 = .ok (.if_icmp .ne 24, 3) := by decide +kernel
theorem dX4_servedOf_39 : decode cX4_servedOf 39 = .ok (.aload_n 0, 1) := by decide +kernel
theorem dX4_servedOf_40 : decode cX4_servedOf 40 = .ok (.iload 5, 2) := by decide +kernel
theorem dX4_servedOf_42 : decode cX4_servedOf 42 = .ok (.iconst 1, 1) := by decide +kernel
theorem dX4_servedOf_43 : decode cX4_servedOf 43 = .ok (.invokevirtual 52, 3) := by decide +kernel
theorem dX4_servedOf_46 : decode cX4_servedOf 46 = .ok (.iload_n 3, 1) := by decide +kernel
theorem dX4_servedOf_47 : decode cX4_servedOf 47 = .ok (.if_icmp .ne 13, 3) := by decide +kernel
theorem dX4_servedOf_50 : decode cX4_servedOf 50 = .ok (.aload_n 0, 1) := by decide +kernel
theorem dX4_servedOf_51 : decode cX4_servedOf 51 = .ok (.iload 5, 2) := by decide +kernel
theorem dX4_servedOf_53 : decode cX4_servedOf 53 = .ok (.iconst 2, 1) := by decide +kernel
theorem dX4_servedOf_54 : decode cX4_servedOf 54 = .ok (.invokevirtual 52, 3) := by decide +kernel
theorem dX4_servedOf_57 : decode cX4_servedOf 57 = .ok (.goto 4, 3) := by decide +kernel
theorem dX4_servedOf_60 : decode cX4_servedOf 60 = .ok (.iconst 0, 1) := by decide +kernel
theorem dX4_servedOf_61 : decode cX4_servedOf 61 = .ok (.iadd, 1) := by decide +kernel
theorem dX4_servedOf_62 : decode cX4_servedOf 62 = .ok (.istore 4, 2) := by decide +kernel
theorem dX4_servedOf_64 : decode cX4_servedOf 64 = .ok (.iinc 5 1, 3) := by decide +kernel
theorem dX4_servedOf_67 : decode cX4_servedOf 67 = .ok (.goto (-52), 3) := by decide +kernel
theorem dX4_servedOf_70 : decode cX4_servedOf 70 = .ok (.iload_n 2, 1) := by decide +kernel
theorem dX4_servedOf_71 : decode cX4_servedOf 71 = .ok (.iload 4, 2) := by decide +kernel
theorem dX4_servedOf_73 : decode cX4_servedOf 73 = .ok (.aload_n 0, 1) := by decide +kernel
theorem dX4_servedOf_74 : decode cX4_servedOf 74 = .ok (.iload_n 1, 1) := by decide +kernel
theorem dX4_servedOf_75 : decode cX4_servedOf 75 = .ok (.iload_n 3, 1) := by decide +kernel
theorem dX4_servedOf_76 : decode cX4_servedOf 76 = .ok (.invokevirtual 186, 3) := by decide +kernel
theorem dX4_servedOf_79 : decode cX4_servedOf 79 = .ok (.iload_n 2, 1) := by decide +kernel
theorem dX4_servedOf_80 : decode cX4_servedOf 80 = .ok (.isub, 1) := by decide +kernel
theorem dX4_servedOf_81 : decode cX4_servedOf 81 = .ok (.invokestatic 45, 3) := by decide +kernel
theorem dX4_servedOf_84 : decode cX4_servedOf 84 = .ok (.iadd, 1) := by decide +kernel
theorem dX4_servedOf_85 : decode cX4_servedOf 85 = .ok (.istore_n 2, 1) := by decide +kernel
theorem dX4_servedOf_86 : decode cX4_servedOf 86 = .ok (.iinc 3 (-1), 3) := by decide +kernel
theorem dX4_servedOf_89 : decode cX4_servedOf 89 = .ok (.goto (-84), 3) := by decide +kernel
theorem dX4_servedOf_92 : decode cX4_servedOf 92 = .ok (.iload_n 2, 1) := by decide +kernel
theorem dX4_servedOf_93 : decode cX4_servedOf 93 = .ok (.ireturn, 1) := by decide +kernel
theorem dX4_served_0 : decode cX4_served 0 = .ok (.iconst 0, 1) := by decide +kernel
theorem dX4_served_1 : decode cX4_served 1 = .ok (.istore_n 1, 1) := by decide +kernel
theorem dX4_served_2 : decode cX4_served 2 = .ok (.iconst 0, 1) := by decide +kernel
theorem dX4_served_3 : decode cX4_served 3 = .ok (.istore_n 2, 1) := by decide +kernel
theorem dX4_served_4 : decode cX4_served 4 = .ok (.iload_n 2, 1) := by decide +kernel
theorem dX4_served_5 : decode cX4_served 5 = .ok (.aload_n 0, 1) := by decide +kernel
theorem dX4_served_6 : decode cX4_served 6 = .ok (.getfield 7, 3) := by decide +kernel
theorem dX4_served_9 : decode cX4_served 9 = .ok (.iconst 0, 1) := by decide +kernel
theorem dX4_served_10 : decode cX4_served 10 = .ok (.iaload, 1) := by decide +kernel
theorem dX4_served_11 : decode cX4_served 11 = .ok (.if_icmp .ge 17, 3) := by decide +kernel
theorem dX4_served_14 : decode cX4_served 14 = .ok (.iload_n 1, 1) := by decide +kernel
theorem dX4_served_15 : decode cX4_served 15 = .ok (.aload_n 0, 1) := by decide +kernel
theorem dX4_served_16 : decode cX4_served 16 = .ok (.iload_n 2, 1) := by decide +kernel
theorem dX4_served_17 : decode cX4_served 17 = .ok (.invokevirtual 189, 3) := by decide +kernel
theorem dX4_served_20 : decode cX4_served 20 = .ok (.iadd, 1) := by decide +kernel
theorem dX4_served_21 : decode cX4_served 21 = .ok (.istore_n 1, 1) := by decide +kernel
theorem dX4_served_22 : decode cX4_served 22 = .ok (.iinc 2 1, 3) := by decide +kernel
theorem dX4_served_25 : decode cX4_served 25 = .ok (.goto (-21), 3) := by decide +kernel
theorem dX4_served_28 : decode cX4_served 28 = .ok (.iload_n 1, 1) := by decide +kernel
theorem dX4_served_29 : decode cX4_served 29 = .ok (.ireturn, 1) := by decide +kernel
theorem dX4_undo_0 : decode cX4_undo 0 = .ok (.aload_n 0, 1) := by decide +kernel
theorem dX4_undo_1 : decode cX4_undo 1 = .ok (.getfield 22, 3) := by decide +kernel
theorem dX4_undo_4 : decode cX4_undo 4 = .ok (.ifCond .ne 6, 3) := by decide +kernel
theorem dX4_undo_7 : decode cX4_undo 7 = .ok (.bipush (-4), 2) := by decide +kernel
theorem dX4_undo_9 : decode cX4_undo 9 = .ok (.ireturn, 1) := by decide +kernel
theorem dX4_undo_10 : decode cX4_undo 10 = .ok (.aload_n 0, 1) := by decide +kernel
theorem dX4_undo_11 : decode cX4_undo 11 = .ok (.aload_n 0, 1) := by decide +kernel
theorem dX4_undo_12 : decode cX4_undo 12 = .ok (.getfield 22, 3) := by decide +kernel
theorem dX4_undo_15 : decode cX4_undo 15 = .ok (.iconst 0, 1) := by decide +kernel
theorem dX4_undo_16 : decode cX4_undo 16 = .ok (.invokevirtual 26, 3) := by decide +kernel
theorem dX4_undo_19 : decode cX4_undo 19 = .ok (.aload_n 0, 1) := by decide +kernel
theorem dX4_undo_20 : decode cX4_undo 20 = .ok (.dup, 1) := by decide +kernel
theorem dX4_undo_21 : decode cX4_undo 21 = .ok (.getfield 22, 3) := by decide +kernel
theorem dX4_undo_24 : decode cX4_undo 24 = .ok (.iconst 1, 1) := by decide +kernel
theorem dX4_undo_25 : decode cX4_undo 25 = .ok (.isub, 1) := by decide +kernel
theorem dX4_undo_26 : decode cX4_undo 26 = .ok (.putfield 22, 3) := by decide +kernel
theorem dX4_undo_29 : decode cX4_undo 29 = .ok (.aload_n 0, 1) := by decide +kernel
theorem dX4_undo_30 : decode cX4_undo 30 = .ok (.getfield 22, 3) := by decide +kernel
theorem dX4_undo_33 : decode cX4_undo 33 = .ok (.ireturn, 1) := by decide +kernel
theorem dX4_type_0 : decode cX4_type 0 = .ok (.iload_n 1, 1) := by decide +kernel
theorem dX4_type_1 : decode cX4_type 1 = .ok (.iconst 0, 1) := by decide +kernel
theorem dX4_type_2 : decode cX4_type 2 = .ok (.sipush 255, 3) := by decide +kernel
theorem dX4_type_5 : decode cX4_type 5 = .ok (.invokestatic 30, 3) := by decide +kernel
theorem dX4_type_8 : decode cX4_type 8 = .ok (.ifCond .ne 6, 3) := by decide +kernel
theorem dX4_type_11 : decode cX4_type 11 = .ok (.bipush (-3), 2) := by decide +kernel
theorem dX4_type_13 : decode cX4_type 13 = .ok (.ireturn, 1) := by decide +kernel
theorem dX4_type_14 : decode cX4_type 14 = .ok (.aload_n 0, 1) := by decide +kernel
theorem dX4_type_15 : decode cX4_type 15 = .ok (.getfield 192, 3) := by decide +kernel
theorem dX4_type_18 : decode cX4_type 18 = .ok (.bipush 100, 2) := by decide +kernel
theorem dX4_type_20 : decode cX4_type 20 = .ok (.if_icmp .ne 6, 3) := by decide +kernel
theorem dX4_type_23 : decode cX4_type 23 = .ok (.bipush (-5), 2) := by decide +kernel
theorem dX4_type_25 : decode cX4_type 25 = .ok (.ireturn, 1) := by decide +kernel
theorem dX4_type_26 : decode cX4_type 26 = .ok (.aload_n 0, 1) := by decide +kernel
theorem dX4_type_27 : decode cX4_type 27 = .ok (.getfield 19, 3) := by decide +kernel
theorem dX4_type_30 : decode cX4_type 30 = .ok (.aload_n 0, 1) := by decide +kernel
theorem dX4_type_31 : decode cX4_type 31 = .ok (.getfield 192, 3) := by decide +kernel
theorem dX4_type_34 : decode cX4_type 34 = .ok (.iload_n 1, 1) := by decide +kernel
theorem dX4_type_35 : decode cX4_type 35 = .ok (.iastore, 1) := by decide +kernel
theorem dX4_type_36 : decode cX4_type 36 = .ok (.aload_n 0, 1) := by decide +kernel
theorem dX4_type_37 : decode cX4_type 37 = .ok (.dup, 1) := by decide +kernel
theorem dX4_type_38 : decode cX4_type 38 = .ok (.getfield 192, 3) := by decide +kernel
theorem dX4_type_41 : decode cX4_type 41 = .ok (.iconst 1, 1) := by decide +kernel
theorem dX4_type_42 : decode cX4_type 42 = .ok (.iadd, 1) := by decide +kernel
theorem dX4_type_43 : decode cX4_type 43 = .ok (.putfield 192, 3) := by decide +kernel
theorem dX4_type_46 : decode cX4_type 46 = .ok (.aload_n 0, 1) := by decide +kernel
theorem dX4_type_47 : decode cX4_type 47 = .ok (.getfield 192, 3) := by decide +kernel
theorem dX4_type_50 : decode cX4_type 50 = .ok (.ireturn, 1) := by decide +kernel
theorem dX4_clearText_0 : decode cX4_clearText 0 = .ok (.aload_n 0, 1) := by decide +kernel
theorem dX4_clearText_1 : decode cX4_clearText 1 = .ok (.getfield 192, 3) := by decide +kernel
theorem dX4_clearText_4 : decode cX4_clearText 4 = .ok (.istore_n 1, 1) := by decide +kernel
theorem dX4_clearText_5 : decode cX4_clearText 5 = .ok (.aload_n 0, 1) := by decide +kernel
theorem dX4_clearText_6 : decode cX4_clearText 6 = .ok (.iconst 0, 1) := by decide +kernel
theorem dX4_clearText_7 : decode cX4_clearText 7 = .ok (.putfield 192, 3) := by decide +kernel
theorem dX4_clearText_10 : decode cX4_clearText 10 = .ok (.iload_n 1, 1) := by decide +kernel
theorem dX4_clearText_11 : decode cX4_clearText 11 = .ok (.ireturn, 1) := by decide +kernel
theorem dX4_here_0 : decode cX4_here 0 = .ok (.aload_n 0, 1) := by decide +kernel
theorem dX4_here_1 : decode cX4_here 1 = .ok (.getfield 195, 3) := by decide +kernel
theorem dX4_here_4 : decode cX4_here 4 = .ok (.aload_n 0, 1) := by decide +kernel
theorem dX4_here_5 : decode cX4_here 5 = .ok (.getfield 192, 3) := by decide +kernel
theorem dX4_here_8 : decode cX4_here 8 = .ok (.if_icmp .ge 30, 3) := by decide +kernel
theorem dX4_here_11 : decode cX4_here 11 = .ok (.aload_n 0, 1) := by decide +kernel
theorem dX4_here_12 : decode cX4_here 12 = .ok (.getfield 19, 3) := by decide +kernel
theorem dX4_here_15 : decode cX4_here 15 = .ok (.aload_n 0, 1) := by decide +kernel
theorem dX4_here_16 : decode cX4_here 16 = .ok (.getfield 195, 3) := by decide +kernel
theorem dX4_here_19 : decode cX4_here 19 = .ok (.iaload, 1) := by decide +kernel
theorem dX4_here_20 : decode cX4_here 20 = .ok (.bipush 32, 2) := by decide +kernel
theorem dX4_here_22 : decode cX4_here 22 = .ok (.if_icmp .ne 16, 3) := by decide +kernel
theorem dX4_here_25 : decode cX4_here 25 = .ok (.aload_n 0, 1) := by decide +kernel
theorem dX4_here_26 : decode cX4_here 26 = .ok (.dup, 1) := by decide +kernel
theorem dX4_here_27 : decode cX4_here 27 = .ok (.getfield 195, 3) := by decide +kernel
theorem dX4_here_30 : decode cX4_here 30 = .ok (.iconst 1, 1) := by decide +kernel
theorem dX4_here_31 : decode cX4_here 31 = .ok (.iadd, 1) := by decide +kernel
theorem dX4_here_32 : decode cX4_here 32 = .ok (.putfield 195, 3) := by decide +kernel
theorem dX4_here_35 : decode cX4_here 35 = .ok (.goto (-35), 3) := by decide +kernel
theorem dX4_here_38 : decode cX4_here 38 = .ok (.aload_n 0, 1) := by decide +kernel
theorem dX4_here_39 : decode cX4_here 39 = .ok (.getfield 195, 3) := by decide +kernel
theorem dX4_here_42 : decode cX4_here 42 = .ok (.aload_n 0, 1) := by decide +kernel
theorem dX4_here_43 : decode cX4_here 43 = .ok (.getfield 192, 3) := by decide +kernel
theorem dX4_here_46 : decode cX4_here 46 = .ok (.if_icmp .ge 15, 3) := by decide +kernel
theorem dX4_here_49 : decode cX4_here 49 = .ok (.aload_n 0, 1) := by decide +kernel
theorem dX4_here_50 : decode cX4_here 50 = .ok (.getfield 19, 3) := by decide +kernel
theorem dX4_here_53 : decode cX4_here 53 = .ok (.aload_n 0, 1) := by decide +kernel
theorem dX4_here_54 : decode cX4_here 54 = .ok (.getfield 195, 3) := by decide +kernel
theorem dX4_here_57 : decode cX4_here 57 = .ok (.iaload, 1) := by decide +kernel
theorem dX4_here_58 : decode cX4_here 58 = .ok (.goto 4, 3) := by decide +kernel
theorem dX4_here_61 : decode cX4_here 61 = .ok (.iconst (-1), 1) := by decide +kernel
theorem dX4_here_62 : decode cX4_here 62 = .ok (.ireturn, 1) := by decide +kernel
theorem dX4_reads_0 : decode cX4_reads 0 = .ok (.aload_n 0, 1) := by decide +kernel
theorem dX4_reads_1 : decode cX4_reads 1 = .ok (.invokevirtual 198, 3) := by decide +kernel
theorem dX4_reads_4 : decode cX4_reads 4 = .ok (.istore_n 1, 1) := by decide +kernel
theorem dX4_reads_5 : decode cX4_reads 5 = .ok (.aload_n 0, 1) := by decide +kernel
theorem dX4_reads_6 : decode cX4_reads 6 = .ok (.getfield 195, 3) := by decide +kernel
theorem dX4_reads_9 : decode cX4_reads 9 = .ok (.istore_n 2, 1) := by decide +kernel
theorem dX4_reads_10 : decode cX4_reads 10 = .ok (.iconst 0, 1) := by decide +kernel
theorem dX4_reads_11 : decode cX4_reads 11 = .ok (.istore_n 3, 1) := by decide +kernel
theorem dX4_reads_12 : decode cX4_reads 12 = .ok (.iload_n 1, 1) := by decide +kernel
theorem dX4_reads_13 : decode cX4_reads 13 = .ok (.ifCond .lt 58, 3) := by decide +kernel
theorem dX4_reads_16 : decode cX4_reads 16 = .ok (.iload_n 2, 1) := by decide +kernel
theorem dX4_reads_17 : decode cX4_reads 17 = .ok (.aload_n 0, 1) := by decide +kernel
theorem dX4_reads_18 : decode cX4_reads 18 = .ok (.getfield 192, 3) := by decide +kernel
theorem dX4_reads_21 : decode cX4_reads 21 = .ok (.if_icmp .ge 50, 3) := by decide +kernel
theorem dX4_reads_24 : decode cX4_reads 24 = .ok (.iload_n 2, 1) := by decide +kernel
theorem dX4_reads_25 : decode cX4_reads 25 = .ok (.aload_n 0, 1) := by decide +kernel
theorem dX4_reads_26 : decode cX4_reads 26 = .ok (.getfield 195, 3) := by decide +kernel
theorem dX4_reads_29 : decode cX4_reads 29 = .ok (.iconst 5, 1) := by decide +kernel
theorem dX4_reads_30 : decode cX4_reads 30 = .ok (.iadd, 1) := by decide +kernel
theorem dX4_reads_31 : decode cX4_reads 31 = .ok (.if_icmp .ge 40, 3) := by decide +kernel
theorem dX4_reads_34 : decode cX4_reads 34 = .ok (.aload_n 0, 1) := by decide +kernel
theorem dX4_reads_35 : decode cX4_reads 35 = .ok (.getfield 19, 3) := by decide +kernel
theorem dX4_reads_38 : decode cX4_reads 38 = .ok (.iload_n 2, 1) := by decide +kernel
theorem dX4_reads_39 : decode cX4_reads 39 = .ok (.iaload, 1) := by decide +kernel
theorem dX4_reads_40 : decode cX4_reads 40 = .ok (.bipush 48, 2) := by decide +kernel
theorem dX4_reads_42 : decode cX4_reads 42 = .ok (.bipush 57, 2) := by decide +kernel
theorem dX4_reads_44 : decode cX4_reads 44 = .ok (.invokestatic 30, 3) := by decide +kernel
theorem dX4_reads_47 : decode cX4_reads 47 = .ok (.ifCond .eq 24, 3) := by decide +kernel
theorem dX4_reads_50 : decode cX4_reads 50 = .ok (.bipush 10, 2) := by decide +kernel
theorem dX4_reads_52 : decode cX4_reads 52 = .ok (.iload_n 3, 1) := by decide +kernel
theorem dX4_reads_53 : decode cX4_reads 53 = .ok (.imul, 1) := by decide +kernel
theorem dX4_reads_54 : decode cX4_reads 54 = .ok (.aload_n 0, 1) := by decide +kernel
theorem dX4_reads_55 : decode cX4_reads 55 = .ok (.getfield 19, 3) := by decide +kernel
theorem dX4_reads_58 : decode cX4_reads 58 = .ok (.iload_n 2, 1) := by decide +kernel
theorem dX4_reads_59 : decode cX4_reads 59 = .ok (.iaload, 1) := by decide +kernel
theorem dX4_reads_60 : decode cX4_reads 60 = .ok (.iadd, 1) := by decide +kernel
theorem dX4_reads_61 : decode cX4_reads 61 = .ok (.bipush 48, 2) := by decide +kernel
theorem dX4_reads_63 : decode cX4_reads 63 = .ok (.isub, 1) := by decide +kernel
theorem dX4_reads_64 : decode cX4_reads 64 = .ok (.istore_n 3, 1) := by decide +kernel
theorem dX4_reads_65 : decode cX4_reads 65 = .ok (.iinc 2 1, 3) := by decide +kernel
theorem dX4_reads_68 : decode cX4_reads 68 = .ok (.goto (-56), 3) := by decide +kernel
theorem dX4_reads_71 : decode cX4_reads 71 = .ok (.iload_n 2, 1) := by decide +kernel
theorem dX4_reads_72 : decode cX4_reads 72 = .ok (.aload_n 0, 1) := by decide +kernel
theorem dX4_reads_73 : decode cX4_reads 73 = .ok (.getfield 195, 3) := by decide +kernel
theorem dX4_reads_76 : decode cX4_reads 76 = .ok (.if_icmp .le 41, 3) := by decide +kernel
theorem dX4_reads_79 : decode cX4_reads 79 = .ok (.iload_n 2, 1) := by decide +kernel
theorem dX4_reads_80 : decode cX4_reads 80 = .ok (.aload_n 0, 1) := by decide +kernel
theorem dX4_reads_81 : decode cX4_reads 81 = .ok (.getfield 195, 3) := by decide +kernel
theorem dX4_reads_84 : decode cX4_reads 84 = .ok (.iconst 5, 1) := by decide +kernel
theorem dX4_reads_85 : decode cX4_reads 85 = .ok (.iadd, 1) := by decide +kernel
theorem dX4_reads_86 : decode cX4_reads 86 = .ok (.if_icmp .ne 27, 3) := by decide +kernel
theorem dX4_reads_89 : decode cX4_reads 89 = .ok (.iload_n 2, 1) := by decide +kernel
theorem dX4_reads_90 : decode cX4_reads 90 = .ok (.aload_n 0, 1) := by decide +kernel
theorem dX4_reads_91 : decode cX4_reads 91 = .ok (.getfield 192, 3) := by decide +kernel
theorem dX4_reads_94 : decode cX4_reads 94 = .ok (.if_icmp .ge 19, 3) := by decide +kernel
theorem dX4_reads_97 : decode cX4_reads 97 = .ok (.aload_n 0, 1) := by decide +kernel
theorem dX4_reads_98 : decode cX4_reads 98 = .ok (.getfield 19, 3) := by decide +kernel
theorem dX4_reads_101 : decode cX4_reads 101 = .ok (.iload_n 2, 1) := by decide +kernel
theorem dX4_reads_102 : decode cX4_reads 102 = .ok (.iaload, 1) := by decide +kernel
theorem dX4_reads_103 : decode cX4_reads 103 = .ok (.bipush 48, 2) := by decide +kernel
theorem dX4_reads_105 : decode cX4_reads 105 = .ok (.bipush 57, 2) := by decide +kernel
theorem dX4_reads_107 : decode cX4_reads 107 = .ok (.invokestatic 30, 3) := by decide +kernel
theorem dX4_reads_110 : decode cX4_reads 110 = .ok (.ifCond .ne 7, 3) := by decide +kernel
theorem dX4_reads_113 : decode cX4_reads 113 = .ok (.iconst 1, 1) := by decide +kernel
theorem dX4_reads_114 : decode cX4_reads 114 = .ok (.goto 4, 3) := by decide +kernel
theorem dX4_reads_117 : decode cX4_reads 117 = .ok (.iconst 0, 1) := by decide +kernel
theorem dX4_reads_118 : decode cX4_reads 118 = .ok (.istore 4, 2) := by decide +kernel
theorem dX4_reads_120 : decode cX4_reads 120 = .ok (.aload_n 0, 1) := by decide +kernel
theorem dX4_reads_121 : decode cX4_reads 121 = .ok (.iload_n 2, 1) := by decide +kernel
theorem dX4_reads_122 : decode cX4_reads 122 = .ok (.putfield 195, 3) := by decide +kernel
theorem dX4_reads_125 : decode cX4_reads 125 = .ok (.aload_n 0, 1) := by decide +kernel
theorem dX4_reads_126 : decode cX4_reads 126 = .ok (.iload_n 3, 1) := by decide +kernel
theorem dX4_reads_127 : decode cX4_reads 127 = .ok (.putfield 202, 3) := by decide +kernel
theorem dX4_reads_130 : decode cX4_reads 130 = .ok (.iload 4, 2) := by decide +kernel
theorem dX4_reads_132 : decode cX4_reads 132 = .ok (.ireturn, 1) := by decide +kernel
theorem dX4_word_0 : decode cX4_word 0 = .ok (.aload_n 0, 1) := by decide +kernel
theorem dX4_word_1 : decode cX4_word 1 = .ok (.invokevirtual 198, 3) := by decide +kernel
theorem dX4_word_4 : decode cX4_word 4 = .ok (.istore_n 1, 1) := by decide +kernel
theorem dX4_word_5 : decode cX4_word 5 = .ok (.iconst 0, 1) := by decide +kernel
theorem dX4_word_6 : decode cX4_word 6 = .ok (.istore_n 2, 1) := by decide +kernel
theorem dX4_word_7 : decode cX4_word 7 = .ok (.aload_n 0, 1) := by decide +kernel
theorem dX4_word_8 : decode cX4_word 8 = .ok (.getfield 195, 3) := by decide +kernel
theorem dX4_word_11 : decode cX4_word 11 = .ok (.istore_n 3, 1) := by decide +kernel
theorem dX4_word_12 : decode cX4_word 12 = .ok (.iload_n 1, 1) := by decide +kernel
theorem dX4_word_13 : decode cX4_word 13 = .ok (.ifCond .lt 60, 3) := by decide +kernel
theorem dX4_word_16 : decode cX4_word 16 = .ok (.iload_n 3, 1) := by decide +kernel
theorem dX4_word_17 : decode cX4_word 17 = .ok (.aload_n 0, 1) := by decide +kernel
theorem dX4_word_18 : decode cX4_word 18 = .ok (.getfield 192, 3) := by decide +kernel
theorem dX4_word_21 : decode cX4_word 21 = .ok (.if_icmp .ge 52, 3) := by decide +kernel
theorem dX4_word_24 : decode cX4_word 24 = .ok (.iload_n 3, 1) := by decide +kernel
theorem dX4_word_25 : decode cX4_word 25 = .ok (.aload_n 0, 1) := by decide +kernel
theorem dX4_word_26 : decode cX4_word 26 = .ok (.getfield 195, 3) := by decide +kernel
theorem dX4_word_29 : decode cX4_word 29 = .ok (.iconst 5, 1) := by decide +kernel
theorem dX4_word_30 : decode cX4_word 30 = .ok (.iadd, 1) := by decide +kernel
theorem dX4_word_31 : decode cX4_word 31 = .ok (.if_icmp .ge 42, 3) := by decide +kernel
theorem dX4_word_34 : decode cX4_word 34 = .ok (.aload_n 0, 1) := by decide +kernel
theorem dX4_word_35 : decode cX4_word 35 = .ok (.getfield 19, 3) := by decide +kernel
theorem dX4_word_38 : decode cX4_word 38 = .ok (.iload_n 3, 1) := by decide +kernel
theorem dX4_word_39 : decode cX4_word 39 = .ok (.iaload, 1) := by decide +kernel
theorem dX4_word_40 : decode cX4_word 40 = .ok (.bipush 97, 2) := by decide +kernel
theorem dX4_word_42 : decode cX4_word 42 = .ok (.bipush 122, 2) := by decide +kernel
theorem dX4_word_44 : decode cX4_word 44 = .ok (.invokestatic 30, 3) := by decide +kernel
theorem dX4_word_47 : decode cX4_word 47 = .ok (.ifCond .eq 26, 3) := by decide +kernel
theorem dX4_word_50 : decode cX4_word 50 = .ok (.bipush 27, 2) := by decide +kernel
theorem dX4_word_52 : decode cX4_word 52 = .ok (.iload_n 2, 1) := by decide +kernel
theorem dX4_word_53 : decode cX4_word 53 = .ok (.imul, 1) := by decide +kernel
theorem dX4_word_54 : decode cX4_word 54 = .ok (.aload_n 0, 1) := by decide +kernel
theorem dX4_word_55 : decode cX4_word 55 = .ok (.getfield 19, 3) := by decide +kernel
theorem dX4_word_58 : decode cX4_word 58 = .ok (.iload_n 3, 1) := by decide +kernel
theorem dX4_word_59 : decode cX4_word 59 = .ok (.iaload, 1) := by decide +kernel
theorem dX4_word_60 : decode cX4_word 60 = .ok (.iadd, 1) := by decide +kernel
theorem dX4_word_61 : decode cX4_word 61 = .ok (.bipush 97, 2) := by decide +kernel
theorem dX4_word_63 : decode cX4_word 63 = .ok (.isub, 1) := by decide +kernel
theorem dX4_word_64 : decode cX4_word 64 = .ok (.iconst 1, 1) := by decide +kernel
theorem dX4_word_65 : decode cX4_word 65 = .ok (.iadd, 1) := by decide +kernel
theorem dX4_word_66 : decode cX4_word 66 = .ok (.istore_n 2, 1) := by decide +kernel
theorem dX4_word_67 : decode cX4_word 67 = .ok (.iinc 3 1, 3) := by decide +kernel
theorem dX4_word_70 : decode cX4_word 70 = .ok (.goto (-58), 3) := by decide +kernel
theorem dX4_word_73 : decode cX4_word 73 = .ok (.iload_n 2, 1) := by decide +kernel
theorem dX4_word_74 : decode cX4_word 74 = .ok (.ireturn, 1) := by decide +kernel
theorem dX4_spelt_0 : decode cX4_spelt 0 = .ok (.bipush 27, 2) := by decide +kernel
theorem dX4_spelt_2 : decode cX4_spelt 2 = .ok (.bipush 27, 2) := by decide +kernel
theorem dX4_spelt_4 : decode cX4_spelt 4 = .ok (.iload_n 0, 1) := by decide +kernel
theorem dX4_spelt_5 : decode cX4_spelt 5 = .ok (.bipush 96, 2) := by decide +kernel
theorem dX4_spelt_7 : decode cX4_spelt 7 = .ok (.isub, 1) := by decide +kernel
theorem dX4_spelt_8 : decode cX4_spelt 8 = .ok (.imul, 1) := by decide +kernel
theorem dX4_spelt_9 : decode cX4_spelt 9 = .ok (.iload_n 1, 1) := by decide +kernel
theorem dX4_spelt_10 : decode cX4_spelt 10 = .ok (.iadd, 1) := by decide +kernel
theorem dX4_spelt_11 : decode cX4_spelt 11 = .ok (.bipush 96, 2) := by decide +kernel
theorem dX4_spelt_13 : decode cX4_spelt 13 = .ok (.isub, 1) := by decide +kernel
theorem dX4_spelt_14 : decode cX4_spelt 14 = .ok (.imul, 1) := by decide +kernel
theorem dX4_spelt_15 : decode cX4_spelt 15 = .ok (.iload_n 2, 1) := by decide +kernel
theorem dX4_spelt_16 : decode cX4_spelt 16 = .ok (.iadd, 1) := by decide +kernel
theorem dX4_spelt_17 : decode cX4_spelt 17 = .ok (.bipush 96, 2) := by decide +kernel
theorem dX4_spelt_19 : decode cX4_spelt 19 = .ok (.isub, 1) := by decide +kernel
theorem dX4_spelt_20 : decode cX4_spelt 20 = .ok (.istore 4, 2) := by decide +kernel
theorem dX4_spelt_22 : decode cX4_spelt 22 = .ok (.iload_n 3, 1) := by decide +kernel
theorem dX4_spelt_23 : decode cX4_spelt 23 = .ok (.ifCond .ne 8, 3) := by decide +kernel
theorem dX4_spelt_26 : decode cX4_spelt 26 = .ok (.iload 4, 2) := by decide +kernel
theorem dX4_spelt_28 : decode cX4_spelt 28 = .ok (.goto 13, 3) := by decide +kernel
theorem dX4_spelt_31 : decode cX4_spelt 31 = .ok (.bipush 27, 2) := by decide +kernel
theorem dX4_spelt_33 : decode cX4_spelt 33 = .ok (.iload 4, 2) := by decide +kernel
theorem dX4_spelt_35 : decode cX4_spelt 35 = .ok (.imul, 1) := by decide +kernel
theorem dX4_spelt_36 : decode cX4_spelt 36 = .ok (.iload_n 3, 1) := by decide +kernel
theorem dX4_spelt_37 : decode cX4_spelt 37 = .ok (.iadd, 1) := by decide +kernel
theorem dX4_spelt_38 : decode cX4_spelt 38 = .ok (.bipush 96, 2) := by decide +kernel
theorem dX4_spelt_40 : decode cX4_spelt 40 = .ok (.isub, 1) := by decide +kernel
theorem dX4_spelt_41 : decode cX4_spelt 41 = .ok (.ireturn, 1) := by decide +kernel
theorem dX4_order_0 : decode cX4_order 0 = .ok (.aload_n 0, 1) := by decide +kernel
theorem dX4_order_1 : decode cX4_order 1 = .ok (.invokevirtual 205, 3) := by decide +kernel
theorem dX4_order_4 : decode cX4_order 4 = .ok (.istore_n 1, 1) := by decide +kernel
theorem dX4_order_5 : decode cX4_order 5 = .ok (.iload_n 1, 1) := by decide +kernel
theorem dX4_order_6 : decode cX4_order 6 = .ok (.bipush 114, 2) := by decide +kernel
theorem dX4_order_8 : decode cX4_order 8 = .ok (.bipush 101, 2) := by decide +kernel
theorem dX4_order_10 : decode cX4_order 10 = .ok (.bipush 110, 2) := by decide +kernel
theorem dX4_order_12 : decode cX4_order 12 = .ok (.bipush 116, 2) := by decide +kernel
theorem dX4_order_14 : decode cX4_order 14 = .ok (.invokestatic 208, 3) := by decide +kernel
theorem dX4_order_17 : decode cX4_order 17 = .ok (.if_icmp .ne 7, 3) := by decide +kernel
theorem dX4_order_20 : decode cX4_order 20 = .ok (.iconst 0, 1) := by decide +kernel
theorem dX4_order_21 : decode cX4_order 21 = .ok (.goto 79, 3) := by decide +kernel
theorem dX4_order_24 : decode cX4_order 24 = .ok (.iload_n 1, 1) := by decide +kernel
theorem dX4_order_25 : decode cX4_order 25 = .ok (.bipush 98, 2) := by decide +kernel
theorem dX4_order_27 : decode cX4_order 27 = .ok (.bipush 97, 2) := by decide +kernel
theorem dX4_order_29 : decode cX4_order 29 = .ok (.bipush 99, 2) := by decide +kernel
theorem dX4_order_31 : decode cX4_order 31 = .ok (.bipush 107, 2) := by decide +kernel
theorem dX4_order_33 : decode cX4_order 33 = .ok (.invokestatic 208, 3) := by decide +kernel
theorem dX4_order_36 : decode cX4_order 36 = .ok (.if_icmp .ne 7, 3) := by decide +kernel
theorem dX4_order_39 : decode cX4_order 39 = .ok (.iconst 1, 1) := by decide +kernel
theorem dX4_order_40 : decode cX4_order 40 = .ok (.goto 60, 3) := by decide +kernel
theorem dX4_order_43 : decode cX4_order 43 = .ok (.iload_n 1, 1) := by decide +kernel
theorem dX4_order_44 : decode cX4_order 44 = .ok (.bipush 98, 2) := by decide +kernel
theorem dX4_order_46 : decode cX4_order 46 = .ok (.bipush 117, 2) := by decide +kernel
theorem dX4_order_48 : decode cX4_order 48 = .ok (.bipush 121, 2) := by decide +kernel
theorem dX4_order_50 : decode cX4_order 50 = .ok (.iconst 0, 1) := by decide +kernel
theorem dX4_order_51 : decode cX4_order 51 = .ok (.invokestatic 208, 3) := by decide +kernel
theorem dX4_order_54 : decode cX4_order 54 = .ok (.if_icmp .ne 7, 3) := by decide +kernel
theorem dX4_order_57 : decode cX4_order 57 = .ok (.iconst 2, 1) := by decide +kernel
theorem dX4_order_58 : decode cX4_order 58 = .ok (.goto 42, 3) := by decide +kernel
theorem dX4_order_61 : decode cX4_order 61 = .ok (.iload_n 1, 1) := by decide +kernel
theorem dX4_order_62 : decode cX4_order 62 = .ok (.bipush 115, 2) := by decide +kernel
theorem dX4_order_64 : decode cX4_order 64 = .ok (.bipush 101, 2) := by decide +kernel
theorem dX4_order_66 : decode cX4_order 66 = .ok (.bipush 108, 2) := by decide +kernel
theorem dX4_order_68 : decode cX4_order 68 = .ok (.bipush 108, 2) := by decide +kernel
theorem dX4_order_70 : decode cX4_order 70 = .ok (.invokestatic 208, 3) := by decide +kernel
theorem dX4_order_73 : decode cX4_order 73 = .ok (.if_icmp .ne 7, 3) := by decide +kernel
theorem dX4_order_76 : decode cX4_order 76 = .ok (.iconst 3, 1) := by decide +kernel
theorem dX4_order_77 : decode cX4_order 77 = .ok (.goto 23, 3) := by decide +kernel
theorem dX4_order_80 : decode cX4_order 80 = .ok (.iload_n 1, 1) := by decide +kernel
theorem dX4_order_81 : decode cX4_order 81 = .ok (.bipush 119, 2) := by decide +kernel
theorem dX4_order_83 : decode cX4_order 83 = .ok (.bipush 97, 2) := by decide +kernel
theorem dX4_order_85 : decode cX4_order 85 = .ok (.bipush 105, 2) := by decide +kernel
theorem dX4_order_87 : decode cX4_order 87 = .ok (.bipush 116, 2) := by decide +kernel
theorem dX4_order_89 : decode cX4_order 89 = .ok (.invokestatic 208, 3) := by decide +kernel
theorem dX4_order_92 : decode cX4_order 92 = .ok (.if_icmp .ne 7, 3) := by decide +kernel
theorem dX4_order_95 : decode cX4_order 95 = .ok (.iconst 4, 1) := by decide +kernel
theorem dX4_order_96 : decode cX4_order 96 = .ok (.goto 4, 3) := by decide +kernel
theorem dX4_order_99 : decode cX4_order 99 = .ok (.iconst (-1), 1) := by decide +kernel
theorem dX4_order_100 : decode cX4_order 100 = .ok (.ireturn, 1) := by decide +kernel
theorem dX4_carries_0 : decode cX4_carries 0 = .ok (.iload_n 1, 1) := by decide +kernel
theorem dX4_carries_1 : decode cX4_carries 1 = .ok (.ifCond .ne 12, 3) := by decide +kernel
theorem dX4_carries_4 : decode cX4_carries 4 = .ok (.aload_n 0, 1) := by decide +kernel
theorem dX4_carries_5 : decode cX4_carries 5 = .ok (.iload_n 2, 1) := by decide +kernel
theorem dX4_carries_6 : decode cX4_carries 6 = .ok (.iload_n 3, 1) := by decide +kernel
theorem dX4_carries_7 : decode cX4_carries 7 = .ok (.invokevirtual 155, 3) := by decide +kernel
theorem dX4_carries_10 : decode cX4_carries 10 = .ok (.goto 49, 3) := by decide +kernel
theorem dX4_carries_13 : decode cX4_carries 13 = .ok (.iload_n 1, 1) := by decide +kernel
theorem dX4_carries_14 : decode cX4_carries 14 = .ok (.iconst 1, 1) := by decide +kernel
theorem dX4_carries_15 : decode cX4_carries 15 = .ok (.if_icmp .ne 12, 3) := by decide +kernel
theorem dX4_carries_18 : decode cX4_carries 18 = .ok (.aload_n 0, 1) := by decide +kernel
theorem dX4_carries_19 : decode cX4_carries 19 = .ok (.iload_n 2, 1) := by decide +kernel
theorem dX4_carries_20 : decode cX4_carries 20 = .ok (.iload_n 3, 1) := by decide +kernel
theorem dX4_carries_21 : decode cX4_carries 21 = .ok (.invokevirtual 167, 3) := by decide +kernel
theorem dX4_carries_24 : decode cX4_carries 24 = .ok (.goto 35, 3) := by decide +kernel
theorem dX4_carries_27 : decode cX4_carries 27 = .ok (.iload_n 1, 1) := by decide +kernel
theorem dX4_carries_28 : decode cX4_carries 28 = .ok (.iconst 2, 1) := by decide +kernel
theorem dX4_carries_29 : decode cX4_carries 29 = .ok (.if_icmp .ne 12, 3) := by decide +kernel
theorem dX4_carries_32 : decode cX4_carries 32 = .ok (.aload_n 0, 1) := by decide +kernel
theorem dX4_carries_33 : decode cX4_carries 33 = .ok (.iload_n 2, 1) := by decide +kernel
theorem dX4_carries_34 : decode cX4_carries 34 = .ok (.iload_n 3, 1) := by decide +kernel
theorem dX4_carries_35 : decode cX4_carries 35 = .ok (.invokevirtual 122, 3) := by decide +kernel
theorem dX4_carries_38 : decode cX4_carries 38 = .ok (.goto 21, 3) := by decide +kernel
theorem dX4_carries_41 : decode cX4_carries 41 = .ok (.iload_n 1, 1) := by decide +kernel
theorem dX4_carries_42 : decode cX4_carries 42 = .ok (.iconst 3, 1) := by decide +kernel
theorem dX4_carries_43 : decode cX4_carries 43 = .ok (.if_icmp .ne 11, 3) := by decide +kernel
theorem dX4_carries_46 : decode cX4_carries 46 = .ok (.aload_n 0, 1) := by decide +kernel
theorem dX4_carries_47 : decode cX4_carries 47 = .ok (.iload_n 2, 1) := by decide +kernel
theorem dX4_carries_48 : decode cX4_carries 48 = .ok (.invokevirtual 137, 3) := by decide +kernel
theorem dX4_carries_51 : decode cX4_carries 51 = .ok (.goto 8, 3) := by decide +kernel
theorem dX4_carries_54 : decode cX4_carries 54 = .ok (.aload_n 0, 1) := by decide +kernel
theorem dX4_carries_55 : decode cX4_carries 55 = .ok (.iload_n 2, 1) := by decide +kernel
theorem dX4_carries_56 : decode cX4_carries 56 = .ok (.invokevirtual 174, 3) := by decide +kernel
theorem dX4_carries_59 : decode cX4_carries 59 = .ok (.istore 4, 2) := by decide +kernel
theorem dX4_carries_61 : decode cX4_carries 61 = .ok (.iload 4, 2) := by decide +kernel
theorem dX4_carries_63 : decode cX4_carries 63 = .ok (.ifCond .eq 6, 3) := by decide +kernel
theorem dX4_carries_66 : decode cX4_carries 66 = .ok (.iload 4, 2) := by decide +kernel
theorem dX4_carries_68 : decode cX4_carries 68 = .ok (.ireturn, 1) := by decide +kernel
theorem dX4_carries_69 : decode cX4_carries 69 = .ok (.iload_n 1, 1) := by decide +kernel
theorem dX4_carries_70 : decode cX4_carries 70 = .ok (.ifCond .ne 12, 3) := by decide +kernel
theorem dX4_carries_73 : decode cX4_carries 73 = .ok (.aload_n 0, 1) := by decide +kernel
theorem dX4_carries_74 : decode cX4_carries 74 = .ok (.iload_n 2, 1) := by decide +kernel
theorem dX4_carries_75 : decode cX4_carries 75 = .ok (.iload_n 3, 1) := by decide +kernel
theorem dX4_carries_76 : decode cX4_carries 76 = .ok (.invokevirtual 158, 3) := by decide +kernel
theorem dX4_carries_79 : decode cX4_carries 79 = .ok (.goto 49, 3) := by decide +kernel
theorem dX4_carries_82 : decode cX4_carries 82 = .ok (.iload_n 1, 1) := by decide +kernel
theorem dX4_carries_83 : decode cX4_carries 83 = .ok (.iconst 1, 1) := by decide +kernel
theorem dX4_carries_84 : decode cX4_carries 84 = .ok (.if_icmp .ne 12, 3) := by decide +kernel
theorem dX4_carries_87 : decode cX4_carries 87 = .ok (.aload_n 0, 1) := by decide +kernel
theorem dX4_carries_88 : decode cX4_carries 88 = .ok (.iload_n 2, 1) := by decide +kernel
theorem dX4_carries_89 : decode cX4_carries 89 = .ok (.iload_n 3, 1) := by decide +kernel
theorem dX4_carries_90 : decode cX4_carries 90 = .ok (.invokevirtual 170, 3) := by decide +kernel
theorem dX4_carries_93 : decode cX4_carries 93 = .ok (.goto 35, 3) := by decide +kernel
theorem dX4_carries_96 : decode cX4_carries 96 = .ok (.iload_n 1, 1) := by decide +kernel
theorem dX4_carries_97 : decode cX4_carries 97 = .ok (.iconst 2, 1) := by decide +kernel
theorem dX4_carries_98 : decode cX4_carries 98 = .ok (.if_icmp .ne 12, 3) := by decide +kernel
theorem dX4_carries_101 : decode cX4_carries 101 = .ok (.aload_n 0, 1) := by decide +kernel
theorem dX4_carries_102 : decode cX4_carries 102 = .ok (.iload_n 2, 1) := by decide +kernel
theorem dX4_carries_103 : decode cX4_carries 103 = .ok (.iload_n 3, 1) := by decide +kernel
theorem dX4_carries_104 : decode cX4_carries 104 = .ok (.invokevirtual 125, 3) := by decide +kernel
theorem dX4_carries_107 : decode cX4_carries 107 = .ok (.goto 21, 3) := by decide +kernel
theorem dX4_carries_110 : decode cX4_carries 110 = .ok (.iload_n 1, 1) := by decide +kernel
theorem dX4_carries_111 : decode cX4_carries 111 = .ok (.iconst 3, 1) := by decide +kernel
theorem dX4_carries_112 : decode cX4_carries 112 = .ok (.if_icmp .ne 11, 3) := by decide +kernel
theorem dX4_carries_115 : decode cX4_carries 115 = .ok (.aload_n 0, 1) := by decide +kernel
theorem dX4_carries_116 : decode cX4_carries 116 = .ok (.iload_n 2, 1) := by decide +kernel
theorem dX4_carries_117 : decode cX4_carries 117 = .ok (.invokevirtual 140, 3) := by decide +kernel
theorem dX4_carries_120 : decode cX4_carries 120 = .ok (.goto 8, 3) := by decide +kernel
theorem dX4_carries_123 : decode cX4_carries 123 = .ok (.aload_n 0, 1) := by decide +kernel
theorem dX4_carries_124 : decode cX4_carries 124 = .ok (.iload_n 2, 1) := by decide +kernel
theorem dX4_carries_125 : decode cX4_carries 125 = .ok (.invokevirtual 177, 3) := by decide +kernel
theorem dX4_carries_128 : decode cX4_carries 128 = .ok (.ireturn, 1) := by decide +kernel
theorem dX4_readsOrder_0 : decode cX4_readsOrder 0 = .ok (.aload_n 0, 1) := by decide +kernel
theorem dX4_readsOrder_1 : decode cX4_readsOrder 1 = .ok (.invokevirtual 212, 3) := by decide +kernel
theorem dX4_readsOrder_4 : decode cX4_readsOrder 4 = .ok (.istore_n 2, 1) := by decide +kernel
theorem dX4_readsOrder_5 : decode cX4_readsOrder 5 = .ok (.iload_n 2, 1) := by decide +kernel
theorem dX4_readsOrder_6 : decode cX4_readsOrder 6 = .ok (.iconst (-1), 1) := by decide +kernel
theorem dX4_readsOrder_7 : decode cX4_readsOrder 7 = .ok (.if_icmp .ne 5, 3) := by decide +kernel
theorem dX4_readsOrder_10 : decode cX4_readsOrder 10 = .ok (.iconst 0, 1) := by decide +kernel
theorem dX4_readsOrder_11 : decode cX4_readsOrder 11 = .ok (.ireturn, 1) := by decide +kernel
theorem dX4_readsOrder_12 : decode cX4_readsOrder 12 = .ok (.aload_n 0, 1) := by decide +kernel
theorem dX4_readsOrder_13 : decode cX4_readsOrder 13 = .ok (.dup, 1) := by decide +kernel
theorem dX4_readsOrder_14 : decode cX4_readsOrder 14 = .ok (.getfield 195, 3) := by decide +kernel
theorem dX4_readsOrder_17 : decode cX4_readsOrder 17 = .ok (.iload_n 2, 1) := by decide +kernel
theorem dX4_readsOrder_18 : decode cX4_readsOrder 18 = .ok (.iconst 2, 1) := by decide +kernel
theorem dX4_readsOrder_19 : decode cX4_readsOrder 19 = .ok (.if_icmp .ne 7, 3) := by decide +kernel
theorem dX4_readsOrder_22 : decode cX4_readsOrder 22 = .ok (.iconst 3, 1) := by decide +kernel
theorem dX4_readsOrder_23 : decode cX4_readsOrder 23 = .ok (.goto 4, 3) := by decide +kernel
theorem dX4_readsOrder_26 : decode cX4_readsOrder 26 = .ok (.iconst 4, 1) := by decide +kernel
theorem dX4_readsOrder_27 : decode cX4_readsOrder 27 = .ok (.iadd, 1) := by decide +kernel
theorem dX4_readsOrder_28 : decode cX4_readsOrder 28 = .ok (.putfield 195, 3) := by decide +kernel
theorem dX4_readsOrder_31 : decode cX4_readsOrder 31 = .ok (.aload_n 0, 1) := by decide +kernel
theorem dX4_readsOrder_32 : decode cX4_readsOrder 32 = .ok (.invokevirtual 215, 3) := by decide +kernel
theorem dX4_readsOrder_35 : decode cX4_readsOrder 35 = .ok (.ifCond .ne 5, 3) := by decide +kernel
theorem dX4_readsOrder_38 : decode cX4_readsOrder 38 = .ok (.iconst 0, 1) := by decide +kernel
theorem dX4_readsOrder_39 : decode cX4_readsOrder 39 = .ok (.ireturn, 1) := by decide +kernel
theorem dX4_readsOrder_40 : decode cX4_readsOrder 40 = .ok (.aload_n 0, 1) := by decide +kernel
theorem dX4_readsOrder_41 : decode cX4_readsOrder 41 = .ok (.getfield 202, 3) := by decide +kernel
theorem dX4_readsOrder_44 : decode cX4_readsOrder 44 = .ok (.istore_n 3, 1) := by decide +kernel
theorem dX4_readsOrder_45 : decode cX4_readsOrder 45 = .ok (.iload_n 2, 1) := by decide +kernel
theorem dX4_readsOrder_46 : decode cX4_readsOrder 46 = .ok (.iconst 3, 1) := by decide +kernel
theorem dX4_readsOrder_47 : decode cX4_readsOrder 47 = .ok (.if_icmp .ge 12, 3) := by decide +kernel
theorem dX4_readsOrder_50 : decode cX4_readsOrder 50 = .ok (.aload_n 0, 1) := by decide +kernel
theorem dX4_readsOrder_51 : decode cX4_readsOrder 51 = .ok (.invokevirtual 215, 3) := by decide +kernel
theorem dX4_readsOrder_54 : decode cX4_readsOrder 54 = .ok (.ifCond .ne 5, 3) := by decide +kernel
theorem dX4_readsOrder_57 : decode cX4_readsOrder 57 = .ok (.iconst 0, 1) := by decide +kernel
theorem dX4_readsOrder_58 : decode cX4_readsOrder 58 = .ok (.ireturn, 1) := by decide +kernel
theorem dX4_readsOrder_59 : decode cX4_readsOrder 59 = .ok (.iload_n 1, 1) := by decide +kernel
theorem dX4_readsOrder_60 : decode cX4_readsOrder 60 = .ok (.ifCond .eq 53, 3) := by decide +kernel
theorem dX4_readsOrder_63 : decode cX4_readsOrder 63 = .ok (.aload_n 0, 1) := by decide +kernel
theorem dX4_readsOrder_64 : decode cX4_readsOrder 64 = .ok (.getfield 219, 3) := by decide +kernel
theorem dX4_readsOrder_67 : decode cX4_readsOrder 67 = .ok (.ifCond .eq 46, 3) := by decide +kernel
theorem dX4_readsOrder_70 : decode cX4_readsOrder 70 = .ok (.aload_n 0, 1) := by decide +kernel
theorem dX4_readsOrder_71 : decode cX4_readsOrder 71 = .ok (.aload_n 0, 1) := by decide +kernel
theorem dX4_readsOrder_72 : decode cX4_readsOrder 72 = .ok (.iload_n 2, 1) := by decide +kernel
theorem dX4_readsOrder_73 : decode cX4_readsOrder 73 = .ok (.iload_n 3, 1) := by decide +kernel
theorem dX4_readsOrder_74 : decode cX4_readsOrder 74 = .ok (.aload_n 0, 1) := by decide +kernel
theorem dX4_readsOrder_75 : decode cX4_readsOrder 75 = .ok (.getfield 202, 3) := by decide +kernel
theorem dX4_readsOrder_78 : decode cX4_readsOrder 78 = .ok (.invokevirtual 223, 3) := by decide +kernel
theorem dX4_readsOrder_81 : decode cX4_readsOrder 81 = .ok (.ifCond .lt 7, 3) := by decide +kernel
theorem dX4_readsOrder_84 : decode cX4_readsOrder 84 = .ok (.iconst 1, 1) := by decide +kernel
theorem dX4_readsOrder_85 : decode cX4_readsOrder 85 = .ok (.goto 4, 3) := by decide +kernel
theorem dX4_readsOrder_88 : decode cX4_readsOrder 88 = .ok (.iconst 0, 1) := by decide +kernel
theorem dX4_readsOrder_89 : decode cX4_readsOrder 89 = .ok (.putfield 219, 3) := by decide +kernel
theorem dX4_readsOrder_92 : decode cX4_readsOrder 92 = .ok (.aload_n 0, 1) := by decide +kernel
theorem dX4_readsOrder_93 : decode cX4_readsOrder 93 = .ok (.dup, 1) := by decide +kernel
theorem dX4_readsOrder_94 : decode cX4_readsOrder 94 = .ok (.getfield 226, 3) := by decide +kernel
theorem dX4_readsOrder_97 : decode cX4_readsOrder 97 = .ok (.aload_n 0, 1) := by decide +kernel
theorem dX4_readsOrder_98 : decode cX4_readsOrder 98 = .ok (.getfield 219, 3) := by decide +kernel
theorem dX4_readsOrder_101 : decode cX4_readsOrder 101 = .ok (.ifCond .eq 7, 3) := by decide +kernel
theorem dX4_readsOrder_104 : decode cX4_readsOrder 104 = .ok (.iconst 1, 1) := by decide +kernel
theorem dX4_readsOrder_105 : decode cX4_readsOrder 105 = .ok (.goto 4, 3) := by decide +kernel
theorem dX4_readsOrder_108 : decode cX4_readsOrder 108 = .ok (.iconst 0, 1) := by decide +kernel
theorem dX4_readsOrder_109 : decode cX4_readsOrder 109 = .ok (.iadd, 1) := by decide +kernel
theorem dX4_readsOrder_110 : decode cX4_readsOrder 110 = .ok (.putfield 226, 3) := by decide +kernel
theorem dX4_readsOrder_113 : decode cX4_readsOrder 113 = .ok (.iconst 1, 1) := by decide +kernel
theorem dX4_readsOrder_114 : decode cX4_readsOrder 114 = .ok (.ireturn, 1) := by decide +kernel
theorem dX4_readsText_0 : decode cX4_readsText 0 = .ok (.aload_n 0, 1) := by decide +kernel
theorem dX4_readsText_1 : decode cX4_readsText 1 = .ok (.iconst 0, 1) := by decide +kernel
theorem dX4_readsText_2 : decode cX4_readsText 2 = .ok (.putfield 195, 3) := by decide +kernel
theorem dX4_readsText_5 : decode cX4_readsText 5 = .ok (.aload_n 0, 1) := by decide +kernel
theorem dX4_readsText_6 : decode cX4_readsText 6 = .ok (.iconst 0, 1) := by decide +kernel
theorem dX4_readsText_7 : decode cX4_readsText 7 = .ok (.putfield 226, 3) := by decide +kernel
theorem dX4_readsText_10 : decode cX4_readsText 10 = .ok (.aload_n 0, 1) := by decide +kernel
theorem dX4_readsText_11 : decode cX4_readsText 11 = .ok (.iconst 1, 1) := by decide +kernel
theorem dX4_readsText_12 : decode cX4_readsText 12 = .ok (.putfield 219, 3) := by decide +kernel
theorem dX4_readsText_15 : decode cX4_readsText 15 = .ok (.aload_n 0, 1) := by decide +kernel
theorem dX4_readsText_16 : decode cX4_readsText 16 = .ok (.iload_n 1, 1) := by decide +kernel
theorem dX4_readsText_17 : decode cX4_readsText 17 = .ok (.invokevirtual 229, 3) := by decide +kernel
theorem dX4_readsText_20 : decode cX4_readsText 20 = .ok (.istore_n 2, 1) := by decide +kernel
theorem dX4_readsText_21 : decode cX4_readsText 21 = .ok (.aload_n 0, 1) := by decide +kernel
theorem dX4_readsText_22 : decode cX4_readsText 22 = .ok (.invokevirtual 198, 3) := by decide +kernel
theorem dX4_readsText_25 : decode cX4_readsText 25 = .ok (.istore_n 3, 1) := by decide +kernel
theorem dX4_readsText_26 : decode cX4_readsText 26 = .ok (.iload_n 2, 1) := by decide +kernel
theorem dX4_readsText_27 : decode cX4_readsText 27 = .ok (.ifCond .eq 48, 3) := by decide +kernel
theorem dX4_readsText_30 : decode cX4_readsText 30 = .ok (.iload_n 3, 1) := by decide +kernel
theorem dX4_readsText_31 : decode cX4_readsText 31 = .ok (.iconst (-1), 1) := by decide +kernel
theorem dX4_readsText_32 : decode cX4_readsText 32 = .ok (.if_icmp .eq 43, 3) := by decide +kernel
theorem dX4_readsText_35 : decode cX4_readsText 35 = .ok (.iload_n 3, 1) := by decide +kernel
theorem dX4_readsText_36 : decode cX4_readsText 36 = .ok (.bipush 59, 2) := by decide +kernel
theorem dX4_readsText_38 : decode cX4_readsText 38 = .ok (.if_icmp .ne 7, 3) := by decide +kernel
theorem dX4_readsText_41 : decode cX4_readsText 41 = .ok (.iconst 1, 1) := by decide +kernel
theorem dX4_readsText_42 : decode cX4_readsText 42 = .ok (.goto 4, 3) := by decide +kernel
theorem dX4_readsText_45 : decode cX4_readsText 45 = .ok (.iconst 0, 1) := by decide +kernel
theorem dX4_readsText_46 : decode cX4_readsText 46 = .ok (.istore_n 2, 1) := by decide +kernel
theorem dX4_readsText_47 : decode cX4_readsText 47 = .ok (.iload_n 2, 1) := by decide +kernel
theorem dX4_readsText_48 : decode cX4_readsText 48 = .ok (.ifCond .eq (-22), 3) := by decide +kernel
theorem dX4_readsText_51 : decode cX4_readsText 51 = .ok (.aload_n 0, 1) := by decide +kernel
theorem dX4_readsText_52 : decode cX4_readsText 52 = .ok (.dup, 1) := by decide +kernel
theorem dX4_readsText_53 : decode cX4_readsText 53 = .ok (.getfield 195, 3) := by decide +kernel
theorem dX4_readsText_56 : decode cX4_readsText 56 = .ok (.iconst 1, 1) := by decide +kernel
theorem dX4_readsText_57 : decode cX4_readsText 57 = .ok (.iadd, 1) := by decide +kernel
theorem dX4_readsText_58 : decode cX4_readsText 58 = .ok (.putfield 195, 3) := by decide +kernel
theorem dX4_readsText_61 : decode cX4_readsText 61 = .ok (.aload_n 0, 1) := by decide +kernel
theorem dX4_readsText_62 : decode cX4_readsText 62 = .ok (.iload_n 1, 1) := by decide +kernel
theorem dX4_readsText_63 : decode cX4_readsText 63 = .ok (.invokevirtual 229, 3) := by decide +kernel
theorem dX4_readsText_66 : decode cX4_readsText 66 = .ok (.istore_n 2, 1) := by decide +kernel
theorem dX4_readsText_67 : decode cX4_readsText 67 = .ok (.aload_n 0, 1) := by decide +kernel
theorem dX4_readsText_68 : decode cX4_readsText 68 = .ok (.invokevirtual 198, 3) := by decide +kernel
theorem dX4_readsText_71 : decode cX4_readsText 71 = .ok (.istore_n 3, 1) := by decide +kernel
theorem dX4_readsText_72 : decode cX4_readsText 72 = .ok (.goto (-46), 3) := by decide +kernel
theorem dX4_readsText_75 : decode cX4_readsText 75 = .ok (.iload_n 2, 1) := by decide +kernel
theorem dX4_readsText_76 : decode cX4_readsText 76 = .ok (.ireturn, 1) := by decide +kernel
theorem dX4_textFault_0 : decode cX4_textFault 0 = .ok (.aload_n 0, 1) := by decide +kernel
theorem dX4_textFault_1 : decode cX4_textFault 1 = .ok (.iconst 0, 1) := by decide +kernel
theorem dX4_textFault_2 : decode cX4_textFault 2 = .ok (.invokevirtual 233, 3) := by decide +kernel
theorem dX4_textFault_5 : decode cX4_textFault 5 = .ok (.ifCond .eq 7, 3) := by decide +kernel
theorem dX4_textFault_8 : decode cX4_textFault 8 = .ok (.iconst (-1), 1) := by decide +kernel
theorem dX4_textFault_9 : decode cX4_textFault 9 = .ok (.goto 7, 3) := by decide +kernel
theorem dX4_textFault_12 : decode cX4_textFault 12 = .ok (.aload_n 0, 1) := by decide +kernel
theorem dX4_textFault_13 : decode cX4_textFault 13 = .ok (.getfield 195, 3) := by decide +kernel
theorem dX4_textFault_16 : decode cX4_textFault 16 = .ok (.ireturn, 1) := by decide +kernel
theorem dX4_orders_0 : decode cX4_orders 0 = .ok (.aload_n 0, 1) := by decide +kernel
theorem dX4_orders_1 : decode cX4_orders 1 = .ok (.iconst 0, 1) := by decide +kernel
theorem dX4_orders_2 : decode cX4_orders 2 = .ok (.invokevirtual 233, 3) := by decide +kernel
theorem dX4_orders_5 : decode cX4_orders 5 = .ok (.ifCond .ne 6, 3) := by decide +kernel
theorem dX4_orders_8 : decode cX4_orders 8 = .ok (.bipush (-4), 2) := by decide +kernel
theorem dX4_orders_10 : decode cX4_orders 10 = .ok (.ireturn, 1) := by decide +kernel
theorem dX4_orders_11 : decode cX4_orders 11 = .ok (.aload_n 0, 1) := by decide +kernel
theorem dX4_orders_12 : decode cX4_orders 12 = .ok (.invokevirtual 62, 3) := by decide +kernel
theorem dX4_orders_15 : decode cX4_orders 15 = .ok (.aload_n 0, 1) := by decide +kernel
theorem dX4_orders_16 : decode cX4_orders 16 = .ok (.iconst 1, 1) := by decide +kernel
theorem dX4_orders_17 : decode cX4_orders 17 = .ok (.invokevirtual 233, 3) := by decide +kernel
theorem dX4_orders_20 : decode cX4_orders 20 = .ok (.istore_n 1, 1) := by decide +kernel
theorem dX4_orders_21 : decode cX4_orders 21 = .ok (.aload_n 0, 1) := by decide +kernel
theorem dX4_orders_22 : decode cX4_orders 22 = .ok (.getfield 226, 3) := by decide +kernel
theorem dX4_orders_25 : decode cX4_orders 25 = .ok (.ireturn, 1) := by decide +kernel
theorem dX4_note_0 : decode cX4_note 0 = .ok (.aload_n 0, 1) := by decide +kernel
theorem dX4_note_1 : decode cX4_note 1 = .ok (.ldc2_w 236, 3) := by decide +kernel
theorem dX4_note_4 : decode cX4_note 4 = .ok (.aload_n 0, 1) := by decide +kernel
theorem dX4_note_5 : decode cX4_note 5 = .ok (.getfield 238, 3) := by decide +kernel
theorem dX4_note_8 : decode cX4_note 8 = .ok (.lmul, 1) := by decide +kernel
theorem dX4_note_9 : decode cX4_note 9 = .ok (.iload_n 1, 1) := by decide +kernel
theorem dX4_note_10 : decode cX4_note 10 = .ok (.i2l, 1) := by decide +kernel
theorem dX4_note_11 : decode cX4_note 11 = .ok (.ladd, 1) := by decide +kernel
theorem dX4_note_12 : decode cX4_note 12 = .ok (.putfield 238, 3) := by decide +kernel
theorem dX4_note_15 : decode cX4_note 15 = .ok (.return_, 1) := by decide +kernel
theorem dX4_digest_0 : decode cX4_digest 0 = .ok (.aload_n 0, 1) := by decide +kernel
theorem dX4_digest_1 : decode cX4_digest 1 = .ok (.ldc2_w 242, 3) := by decide +kernel
theorem dX4_digest_4 : decode cX4_digest 4 = .ok (.putfield 238, 3) := by decide +kernel
theorem dX4_digest_7 : decode cX4_digest 7 = .ok (.iconst 0, 1) := by decide +kernel
theorem dX4_digest_8 : decode cX4_digest 8 = .ok (.istore_n 1, 1) := by decide +kernel
theorem dX4_digest_9 : decode cX4_digest 9 = .ok (.iload_n 1, 1) := by decide +kernel
theorem dX4_digest_10 : decode cX4_digest 10 = .ok (.bipush 14, 2) := by decide +kernel
theorem dX4_digest_12 : decode cX4_digest 12 = .ok (.if_icmp .ge 18, 3) := by decide +kernel
theorem dX4_digest_15 : decode cX4_digest 15 = .ok (.aload_n 0, 1) := by decide +kernel
theorem dX4_digest_16 : decode cX4_digest 16 = .ok (.aload_n 0, 1) := by decide +kernel
theorem dX4_digest_17 : decode cX4_digest 17 = .ok (.iload_n 1, 1) := by decide +kernel
theorem dX4_digest_18 : decode cX4_digest 18 = .ok (.invokevirtual 78, 3) := by decide +kernel
theorem dX4_digest_21 : decode cX4_digest 21 = .ok (.invokevirtual 244, 3) := by decide +kernel
theorem dX4_digest_24 : decode cX4_digest 24 = .ok (.iinc 1 1, 3) := by decide +kernel
theorem dX4_digest_27 : decode cX4_digest 27 = .ok (.goto (-18), 3) := by decide +kernel
theorem dX4_digest_30 : decode cX4_digest 30 = .ok (.iconst 0, 1) := by decide +kernel
theorem dX4_digest_31 : decode cX4_digest 31 = .ok (.istore_n 1, 1) := by decide +kernel
theorem dX4_digest_32 : decode cX4_digest 32 = .ok (.iload_n 1, 1) := by decide +kernel
theorem dX4_digest_33 : decode cX4_digest 33 = .ok (.aload_n 0, 1) := by decide +kernel
theorem dX4_digest_34 : decode cX4_digest 34 = .ok (.getfield 7, 3) := by decide +kernel
theorem dX4_digest_37 : decode cX4_digest 37 = .ok (.iconst 0, 1) := by decide +kernel
theorem dX4_digest_38 : decode cX4_digest 38 = .ok (.iaload, 1) := by decide +kernel
theorem dX4_digest_39 : decode cX4_digest 39 = .ok (.if_icmp .ge 33, 3) := by decide +kernel
theorem dX4_digest_42 : decode cX4_digest 42 = .ok (.iconst 0, 1) := by decide +kernel
theorem dX4_digest_43 : decode cX4_digest 43 = .ok (.istore_n 2, 1) := by decide +kernel
theorem dX4_digest_44 : decode cX4_digest 44 = .ok (.iload_n 2, 1) := by decide +kernel
theorem dX4_digest_45 : decode cX4_digest 45 = .ok (.bipush 7, 2) := by decide +kernel
theorem dX4_digest_47 : decode cX4_digest 47 = .ok (.if_icmp .ge 19, 3) := by decide +kernel
theorem dX4_digest_50 : decode cX4_digest 50 = .ok (.aload_n 0, 1) := by decide +kernel
theorem dX4_digest_51 : decode cX4_digest 51 = .ok (.aload_n 0, 1) := by decide +kernel
theorem dX4_digest_52 : decode cX4_digest 52 = .ok (.iload_n 1, 1) := by decide +kernel
theorem dX4_digest_53 : decode cX4_digest 53 = .ok (.iload_n 2, 1) := by decide +kernel
theorem dX4_digest_54 : decode cX4_digest 54 = .ok (.invokevirtual 90, 3) := by decide +kernel
theorem dX4_digest_57 : decode cX4_digest 57 = .ok (.invokevirtual 244, 3) := by decide +kernel
theorem dX4_digest_60 : decode cX4_digest 60 = .ok (.iinc 2 1, 3) := by decide +kernel
theorem dX4_digest_63 : decode cX4_digest 63 = .ok (.goto (-19), 3) := by decide +kernel
theorem dX4_digest_66 : decode cX4_digest 66 = .ok (.iinc 1 1, 3) := by decide +kernel
theorem dX4_digest_69 : decode cX4_digest 69 = .ok (.goto (-37), 3) := by decide +kernel
theorem dX4_digest_72 : decode cX4_digest 72 = .ok (.iconst 0, 1) := by decide +kernel
theorem dX4_digest_73 : decode cX4_digest 73 = .ok (.istore_n 1, 1) := by decide +kernel
theorem dX4_digest_74 : decode cX4_digest 74 = .ok (.iload_n 1, 1) := by decide +kernel
theorem dX4_digest_75 : decode cX4_digest 75 = .ok (.aload_n 0, 1) := by decide +kernel
theorem dX4_digest_76 : decode cX4_digest 76 = .ok (.getfield 7, 3) := by decide +kernel
theorem dX4_digest_79 : decode cX4_digest 79 = .ok (.iconst 2, 1) := by decide +kernel
theorem dX4_digest_80 : decode cX4_digest 80 = .ok (.iaload, 1) := by decide +kernel
theorem dX4_digest_81 : decode cX4_digest 81 = .ok (.if_icmp .ge 32, 3) := by decide +kernel
theorem dX4_digest_84 : decode cX4_digest 84 = .ok (.iconst 0, 1) := by decide +kernel
theorem dX4_digest_85 : decode cX4_digest 85 = .ok (.istore_n 2, 1) := by decide +kernel
theorem dX4_digest_86 : decode cX4_digest 86 = .ok (.iload_n 2, 1) := by decide +kernel
theorem dX4_digest_87 : decode cX4_digest 87 = .ok (.iconst 4, 1) := by decide +kernel
theorem dX4_digest_88 : decode cX4_digest 88 = .ok (.if_icmp .ge 19, 3) := by decide +kernel
theorem dX4_digest_91 : decode cX4_digest 91 = .ok (.aload_n 0, 1) := by decide +kernel
theorem dX4_digest_92 : decode cX4_digest 92 = .ok (.aload_n 0, 1) := by decide +kernel
theorem dX4_digest_93 : decode cX4_digest 93 = .ok (.iload_n 1, 1) := by decide +kernel
theorem dX4_digest_94 : decode cX4_digest 94 = .ok (.iload_n 2, 1) := by decide +kernel
theorem dX4_digest_95 : decode cX4_digest 95 = .ok (.invokevirtual 96, 3) := by decide +kernel
theorem dX4_digest_98 : decode cX4_digest 98 = .ok (.invokevirtual 244, 3) := by decide +kernel
theorem dX4_digest_101 : decode cX4_digest 101 = .ok (.iinc 2 1, 3) := by decide +kernel
theorem dX4_digest_104 : decode cX4_digest 104 = .ok (.goto (-18), 3) := by decide +kernel
theorem dX4_digest_107 : decode cX4_digest 107 = .ok (.iinc 1 1, 3) := by decide +kernel
theorem dX4_digest_110 : decode cX4_digest 110 = .ok (.goto (-36), 3) := by decide +kernel
theorem dX4_digest_113 : decode cX4_digest 113 = .ok (.iconst 0, 1) := by decide +kernel
theorem dX4_digest_114 : decode cX4_digest 114 = .ok (.istore_n 1, 1) := by decide +kernel
theorem dX4_digest_115 : decode cX4_digest 115 = .ok (.iload_n 1, 1) := by decide +kernel
theorem dX4_digest_116 : decode cX4_digest 116 = .ok (.aload_n 0, 1) := by decide +kernel
theorem dX4_digest_117 : decode cX4_digest 117 = .ok (.getfield 7, 3) := by decide +kernel
theorem dX4_digest_120 : decode cX4_digest 120 = .ok (.iconst 1, 1) := by decide +kernel
theorem dX4_digest_121 : decode cX4_digest 121 = .ok (.iaload, 1) := by decide +kernel
theorem dX4_digest_122 : decode cX4_digest 122 = .ok (.if_icmp .ge 33, 3) := by decide +kernel
theorem dX4_digest_125 : decode cX4_digest 125 = .ok (.iconst 0, 1) := by decide +kernel
theorem dX4_digest_126 : decode cX4_digest 126 = .ok (.istore_n 2, 1) := by decide +kernel
theorem dX4_digest_127 : decode cX4_digest 127 = .ok (.iload_n 2, 1) := by decide +kernel
theorem dX4_digest_128 : decode cX4_digest 128 = .ok (.bipush 11, 2) := by decide +kernel
theorem dX4_digest_130 : decode cX4_digest 130 = .ok (.if_icmp .ge 19, 3) := by decide +kernel
theorem dX4_digest_133 : decode cX4_digest 133 = .ok (.aload_n 0, 1) := by decide +kernel
theorem dX4_digest_134 : decode cX4_digest 134 = .ok (.aload_n 0, 1) := by decide +kernel
theorem dX4_digest_135 : decode cX4_digest 135 = .ok (.iload_n 1, 1) := by decide +kernel
theorem dX4_digest_136 : decode cX4_digest 136 = .ok (.iload_n 2, 1) := by decide +kernel
theorem dX4_digest_137 : decode cX4_digest 137 = .ok (.invokevirtual 108, 3) := by decide +kernel
theorem dX4_digest_140 : decode cX4_digest 140 = .ok (.invokevirtual 244, 3) := by decide +kernel
theorem dX4_digest_143 : decode cX4_digest 143 = .ok (.iinc 2 1, 3) := by decide +kernel
theorem dX4_digest_146 : decode cX4_digest 146 = .ok (.goto (-19), 3) := by decide +kernel
theorem dX4_digest_149 : decode cX4_digest 149 = .ok (.iinc 1 1, 3) := by decide +kernel
theorem dX4_digest_152 : decode cX4_digest 152 = .ok (.goto (-37), 3) := by decide +kernel
theorem dX4_digest_155 : decode cX4_digest 155 = .ok (.iconst 0, 1) := by decide +kernel
theorem dX4_digest_156 : decode cX4_digest 156 = .ok (.istore_n 1, 1) := by decide +kernel
theorem dX4_digest_157 : decode cX4_digest 157 = .ok (.iload_n 1, 1) := by decide +kernel
theorem dX4_digest_158 : decode cX4_digest 158 = .ok (.bipush 8, 2) := by decide +kernel
theorem dX4_digest_160 : decode cX4_digest 160 = .ok (.if_icmp .ge 18, 3) := by decide +kernel
theorem dX4_digest_163 : decode cX4_digest 163 = .ok (.aload_n 0, 1) := by decide +kernel
theorem dX4_digest_164 : decode cX4_digest 164 = .ok (.aload_n 0, 1) := by decide +kernel
theorem dX4_digest_165 : decode cX4_digest 165 = .ok (.iload_n 1, 1) := by decide +kernel
theorem dX4_digest_166 : decode cX4_digest 166 = .ok (.invokevirtual 112, 3) := by decide +kernel
theorem dX4_digest_169 : decode cX4_digest 169 = .ok (.invokevirtual 244, 3) := by decide +kernel
theorem dX4_digest_172 : decode cX4_digest 172 = .ok (.iinc 1 1, 3) := by decide +kernel
theorem dX4_digest_175 : decode cX4_digest 175 = .ok (.goto (-18), 3) := by decide +kernel
theorem dX4_digest_178 : decode cX4_digest 178 = .ok (.iconst 0, 1) := by decide +kernel
theorem dX4_digest_179 : decode cX4_digest 179 = .ok (.istore_n 1, 1) := by decide +kernel
theorem dX4_digest_180 : decode cX4_digest 180 = .ok (.iload_n 1, 1) := by decide +kernel
theorem dX4_digest_181 : decode cX4_digest 181 = .ok (.bipush 8, 2) := by decide +kernel
theorem dX4_digest_183 : decode cX4_digest 183 = .ok (.if_icmp .ge 32, 3) := by decide +kernel
theorem dX4_digest_186 : decode cX4_digest 186 = .ok (.iconst 0, 1) := by decide +kernel
theorem dX4_digest_187 : decode cX4_digest 187 = .ok (.istore_n 2, 1) := by decide +kernel
theorem dX4_digest_188 : decode cX4_digest 188 = .ok (.iload_n 2, 1) := by decide +kernel
theorem dX4_digest_189 : decode cX4_digest 189 = .ok (.iconst 3, 1) := by decide +kernel
theorem dX4_digest_190 : decode cX4_digest 190 = .ok (.if_icmp .ge 19, 3) := by decide +kernel
theorem dX4_digest_193 : decode cX4_digest 193 = .ok (.aload_n 0, 1) := by decide +kernel
theorem dX4_digest_194 : decode cX4_digest 194 = .ok (.aload_n 0, 1) := by decide +kernel
theorem dX4_digest_195 : decode cX4_digest 195 = .ok (.iload_n 1, 1) := by decide +kernel
theorem dX4_digest_196 : decode cX4_digest 196 = .ok (.iload_n 2, 1) := by decide +kernel
theorem dX4_digest_197 : decode cX4_digest 197 = .ok (.invokevirtual 180, 3) := by decide +kernel
theorem dX4_digest_200 : decode cX4_digest 200 = .ok (.invokevirtual 244, 3) := by decide +kernel
theorem dX4_digest_203 : decode cX4_digest 203 = .ok (.iinc 2 1, 3) := by decide +kernel
theorem dX4_digest_206 : decode cX4_digest 206 = .ok (.goto (-18), 3) := by decide +kernel
theorem dX4_digest_209 : decode cX4_digest 209 = .ok (.iinc 1 1, 3) := by decide +kernel
theorem dX4_digest_212 : decode cX4_digest 212 = .ok (.goto (-32), 3) := by decide +kernel
theorem dX4_digest_215 : decode cX4_digest 215 = .ok (.aload_n 0, 1) := by decide +kernel
theorem dX4_digest_216 : decode cX4_digest 216 = .ok (.getfield 238, 3) := by decide +kernel
theorem dX4_digest_219 : decode cX4_digest 219 = .ok (.lreturn, 1) := by decide +kernel
theorem dJ9_max_7cf53_0 : decode cJ9_max_7cf53 0 = .ok (.iload_n 0, 1) := by decide +kernel
theorem dJ9_max_7cf53_1 : decode cJ9_max_7cf53 1 = .ok (.iload_n 1, 1) := by decide +kernel
theorem dJ9_max_7cf53_2 : decode cJ9_max_7cf53 2 = .ok (.if_icmp .lt 7, 3) := by decide +kernel
theorem dJ9_max_7cf53_5 : decode cJ9_max_7cf53 5 = .ok (.iload_n 0, 1) := by decide +kernel
theorem dJ9_max_7cf53_6 : decode cJ9_max_7cf53 6 = .ok (.goto 4, 3) := by decide +kernel
theorem dJ9_max_7cf53_9 : decode cJ9_max_7cf53 9 = .ok (.iload_n 1, 1) := by decide +kernel
theorem dJ9_max_7cf53_10 : decode cJ9_max_7cf53 10 = .ok (.ireturn, 1) := by decide +kernel
theorem dJ9_min_7cf53_0 : decode cJ9_min_7cf53 0 = .ok (.iload_n 0, 1) := by decide +kernel
theorem dJ9_min_7cf53_1 : decode cJ9_min_7cf53 1 = .ok (.iload_n 1, 1) := by decide +kernel
theorem dJ9_min_7cf53_2 : decode cJ9_min_7cf53 2 = .ok (.if_icmp .gt 7, 3) := by decide +kernel
theorem dJ9_min_7cf53_5 : decode cJ9_min_7cf53 5 = .ok (.iload_n 0, 1) := by decide +kernel
theorem dJ9_min_7cf53_6 : decode cJ9_min_7cf53 6 = .ok (.goto 4, 3) := by decide +kernel
theorem dJ9_min_7cf53_9 : decode cJ9_min_7cf53 9 = .ok (.iload_n 1, 1) := by decide +kernel
theorem dJ9_min_7cf53_10 : decode cJ9_min_7cf53 10 = .ok (.ireturn, 1) := by decide +kernel
theorem dJ0_length_8abf5_0 : decode cJ0_length_8abf5 0 = .ok (.aload_n 0, 1) := by decide +kernel
theorem dJ0_length_8abf5_1 : decode cJ0_length_8abf5 1 = .ok (.getfield 9, 3) := by decide +kernel
theorem dJ0_length_8abf5_4 : decode cJ0_length_8abf5 4 = .ok (.arraylength, 1) := by decide +kernel
theorem dJ0_length_8abf5_5 : decode cJ0_length_8abf5 5 = .ok (.aload_n 0, 1) := by decide +kernel
theorem dJ0_length_8abf5_6 : decode cJ0_length_8abf5 6 = .ok (.invokevirtual 335, 3) := by decide +kernel
theorem dJ0_length_8abf5_9 : decode cJ0_length_8abf5 9 = .ok (.ishr, 1) := by decide +kernel
theorem dJ0_length_8abf5_10 : decode cJ0_length_8abf5 10 = .ok (.ireturn, 1) := by decide +kernel
theorem dJ0_charAt_5068e_0 : decode cJ0_charAt_5068e 0 = .ok (.aload_n 0, 1) := by decide +kernel
theorem dJ0_charAt_5068e_1 : decode cJ0_charAt_5068e 1 = .ok (.invokevirtual 492, 3) := by decide +kernel
theorem dJ0_charAt_5068e_4 : decode cJ0_charAt_5068e 4 = .ok (.ifCond .eq 12, 3) := by decide +kernel
theorem dJ0_charAt_5068e_7 : decode cJ0_charAt_5068e 7 = .ok (.aload_n 0, 1) := by decide +kernel
theorem dJ0_charAt_5068e_8 : decode cJ0_charAt_5068e 8 = .ok (.getfield 9, 3) := by decide +kernel
theorem dJ0_charAt_5068e_11 : decode cJ0_charAt_5068e 11 = .ok (.iload_n 1, 1) := by decide +kernel
theorem dJ0_charAt_5068e_12 : decode cJ0_charAt_5068e 12 = .ok (.invokestatic 495, 3) := by decide +kernel
theorem dJ0_charAt_5068e_15 : decode cJ0_charAt_5068e 15 = .ok (.ireturn, 1) := by decide +kernel
theorem dJ0_charAt_5068e_16 : decode cJ0_charAt_5068e 16 = .ok (.aload_n 0, 1) := by decide +kernel
theorem dJ0_charAt_5068e_17 : decode cJ0_charAt_5068e 17 = .ok (.getfield 9, 3) := by decide +kernel
theorem dJ0_charAt_5068e_20 : decode cJ0_charAt_5068e 20 = .ok (.iload_n 1, 1) := by decide +kernel
theorem dJ0_charAt_5068e_21 : decode cJ0_charAt_5068e 21 = .ok (.invokestatic 498, 3) := by decide +kernel
theorem dJ0_charAt_5068e_24 : decode cJ0_charAt_5068e 24 = .ok (.ireturn, 1) := by decide +kernel
theorem dJ0_coder_7d493_0 : decode cJ0_coder_7d493 0 = .ok (.getstatic 38, 3) := by decide +kernel
theorem dJ0_coder_7d493_3 : decode cJ0_coder_7d493 3 = .ok (.ifCond .eq 10, 3) := by decide +kernel
theorem dJ0_coder_7d493_6 : decode cJ0_coder_7d493 6 = .ok (.aload_n 0, 1) := by decide +kernel
theorem dJ0_coder_7d493_7 : decode cJ0_coder_7d493 7 = .ok (.getfield 15, 3) := by decide +kernel
theorem dJ0_coder_7d493_10 : decode cJ0_coder_7d493 10 = .ok (.goto 4, 3) := by decide +kernel
theorem dJ0_coder_7d493_13 : decode cJ0_coder_7d493 13 = .ok (.iconst 1, 1) := by decide +kernel
theorem dJ0_coder_7d493_14 : decode cJ0_coder_7d493 14 = .ok (.ireturn, 1) := by decide +kernel
theorem dJ0_isLatin1_aae02_0 : decode cJ0_isLatin1_aae02 0 = .ok (.getstatic 38, 3) := by decide +kernel
theorem dJ0_isLatin1_aae02_3 : decode cJ0_isLatin1_aae02 3 = .ok (.ifCond .eq 14, 3) := by decide +kernel
theorem dJ0_isLatin1_aae02_6 : decode cJ0_isLatin1_aae02 6 = .ok (.aload_n 0, 1) := by decide +kernel
theorem dJ0_isLatin1_aae02_7 : decode cJ0_isLatin1_aae02 7 = .ok (.getfield 15, 3) := by decide +kernel
theorem dJ0_isLatin1_aae02_10 : decode cJ0_isLatin1_aae02 10 = .ok (.ifCond .ne 7, 3) := by decide +kernel
theorem dJ0_isLatin1_aae02_13 : decode cJ0_isLatin1_aae02 13 = .ok (.iconst 1, 1) := by decide +kernel
theorem dJ0_isLatin1_aae02_14 : decode cJ0_isLatin1_aae02 14 = .ok (.goto 4, 3) := by decide +kernel
theorem dJ0_isLatin1_aae02_17 : decode cJ0_isLatin1_aae02 17 = .ok (.iconst 0, 1) := by decide +kernel
theorem dJ0_isLatin1_aae02_18 : decode cJ0_isLatin1_aae02 18 = .ok (.ireturn, 1) := by decide +kernel
theorem dJ0_checkIndex_df160_0 : decode cJ0_checkIndex_df160 0 = .ok (.iload_n 0, 1) := by decide +kernel
theorem dJ0_checkIndex_df160_1 : decode cJ0_checkIndex_df160 1 = .ok (.iload_n 1, 1) := by decide +kernel
theorem dJ0_checkIndex_df160_2 : decode cJ0_checkIndex_df160 2 = .ok (.getstatic 1053, 3) := by decide +kernel
theorem dJ0_checkIndex_df160_5 : decode cJ0_checkIndex_df160 5 = .ok (.invokestatic 1059, 3) := by decide +kernel
theorem dJ0_checkIndex_df160_8 : decode cJ0_checkIndex_df160 8 = .ok (.pop, 1) := by decide +kernel
theorem dJ0_checkIndex_df160_9 : decode cJ0_checkIndex_df160 9 = .ok (.return_, 1) := by decide +kernel
theorem dJ1_charAt_3b067_0 : decode cJ1_charAt_3b067 0 = .ok (.iload_n 1, 1) := by decide +kernel
theorem dJ1_charAt_3b067_1 : decode cJ1_charAt_3b067 1 = .ok (.aload_n 0, 1) := by decide +kernel
theorem dJ1_charAt_3b067_2 : decode cJ1_charAt_3b067 2 = .ok (.arraylength, 1) := by decide +kernel
theorem dJ1_charAt_3b067_3 : decode cJ1_charAt_3b067 3 = .ok (.invokestatic 9, 3) := by decide +kernel
theorem dJ1_charAt_3b067_6 : decode cJ1_charAt_3b067 6 = .ok (.aload_n 0, 1) := by decide +kernel
theorem dJ1_charAt_3b067_7 : decode cJ1_charAt_3b067 7 = .ok (.iload_n 1, 1) := by decide +kernel
theorem dJ1_charAt_3b067_8 : decode cJ1_charAt_3b067 8 = .ok (.baload, 1) := by decide +kernel
theorem dJ1_charAt_3b067_9 : decode cJ1_charAt_3b067 9 = .ok (.sipush 255, 3) := by decide +kernel
theorem dJ1_charAt_3b067_12 : decode cJ1_charAt_3b067 12 = .ok (.iand, 1) := by decide +kernel
theorem dJ1_charAt_3b067_13 : decode cJ1_charAt_3b067 13 = .ok (.i2c, 1) := by decide +kernel
theorem dJ1_charAt_3b067_14 : decode cJ1_charAt_3b067 14 = .ok (.ireturn, 1) := by decide +kernel
theorem dJ2_getChar_3b067_0 : decode cJ2_getChar_3b067 0 = .ok (.getstatic 44, 3) := by decide +kernel
theorem dJ2_getChar_3b067_3 : decode cJ2_getChar_3b067 3 = .ok (.ifCond .ne 25, 3) := by decide +kernel
theorem dJ2_getChar_3b067_6 : decode cJ2_getChar_3b067 6 = .ok (.iload_n 1, 1) := by decide +kernel
theorem dJ2_getChar_3b067_7 : decode cJ2_getChar_3b067 7 = .ok (.ifCond .lt 11, 3) := by decide +kernel
theorem dJ2_getChar_3b067_10 : decode cJ2_getChar_3b067 10 = .ok (.iload_n 1, 1) := by decide +kernel
theorem dJ2_getChar_3b067_11 : decode cJ2_getChar_3b067 11 = .ok (.aload_n 0, 1) := by decide +kernel
theorem dJ2_getChar_3b067_12 : decode cJ2_getChar_3b067 12 = .ok (.invokestatic 48, 3) := by decide +kernel
theorem dJ2_getChar_3b067_15 : decode cJ2_getChar_3b067 15 = .ok (.if_icmp .lt 13, 3) := by decide +kernel
theorem dJ2_getChar_3b067_18 : decode cJ2_getChar_3b067 18 = .ok (.new 52, 3) := by decide +kernel
theorem dJ2_getChar_3b067_21 : decode cJ2_getChar_3b067 21 = .ok (.dup, 1) := by decide +kernel
theorem dJ2_getChar_3b067_22 : decode cJ2_getChar_3b067 22 = .ok (.ldc 54, 2) := by decide +kernel
theorem dJ2_getChar_3b067_24 : decode cJ2_getChar_3b067 24 = .ok (.invokespecial 56, 3) := by decide +kernel
theorem dJ2_getChar_3b067_27 : decode cJ2_getChar_3b067 27 = .ok (.athrow, 1) := by decide +kernel
theorem dJ2_getChar_3b067_28 : decode cJ2_getChar_3b067 28 = .ok (.iload_n 1, 1) := by decide +kernel
theorem dJ2_getChar_3b067_29 : decode cJ2_getChar_3b067 29 = .ok (.iconst 1, 1) := by decide +kernel
theorem dJ2_getChar_3b067_30 : decode cJ2_getChar_3b067 30 = .ok (.ishl, 1) := by decide +kernel
theorem dJ2_getChar_3b067_31 : decode cJ2_getChar_3b067 31 = .ok (.istore_n 1, 1) := by decide +kernel
theorem dJ2_getChar_3b067_32 : decode cJ2_getChar_3b067 32 = .ok (.aload_n 0, 1) := by decide +kernel
theorem dJ2_getChar_3b067_33 : decode cJ2_getChar_3b067 33 = .ok (.iload_n 1, 1) := by decide +kernel
theorem dJ2_getChar_3b067_34 : decode cJ2_getChar_3b067 34 = .ok (.iinc 1 1, 3) := by decide +kernel
theorem dJ2_getChar_3b067_37 : decode cJ2_getChar_3b067 37 = .ok (.baload, 1) := by decide +kernel
theorem dJ2_getChar_3b067_38 : decode cJ2_getChar_3b067 38 = .ok (.sipush 255, 3) := by decide +kernel
theorem dJ2_getChar_3b067_41 : decode cJ2_getChar_3b067 41 = .ok (.iand, 1) := by decide +kernel
theorem dJ2_getChar_3b067_42 : decode cJ2_getChar_3b067 42 = .ok (.getstatic 59, 3) := by decide +kernel
theorem dJ2_getChar_3b067_45 : decode cJ2_getChar_3b067 45 = .ok (.ishl, 1) := by decide +kernel
theorem dJ2_getChar_3b067_46 : decode cJ2_getChar_3b067 46 = .ok (.aload_n 0, 1) := by decide +kernel
theorem dJ2_getChar_3b067_47 : decode cJ2_getChar_3b067 47 = .ok (.iload_n 1, 1) := by decide +kernel
theorem dJ2_getChar_3b067_48 : decode cJ2_getChar_3b067 48 = .ok (.baload, 1) := by decide +kernel
theorem dJ2_getChar_3b067_49 : decode cJ2_getChar_3b067 49 = .ok (.sipush 255, 3) := by decide +kernel
theorem dJ2_getChar_3b067_52 : decode cJ2_getChar_3b067 52 = .ok (.iand, 1) := by decide +kernel
theorem dJ2_getChar_3b067_53 : decode cJ2_getChar_3b067 53 = .ok (.getstatic 63, 3) := by decide +kernel
theorem dJ2_getChar_3b067_56 : decode cJ2_getChar_3b067 56 = .ok (.ishl, 1) := by decide +kernel
theorem dJ2_getChar_3b067_57 : decode cJ2_getChar_3b067 57 = .ok (.ior, 1) := by decide +kernel
theorem dJ2_getChar_3b067_58 : decode cJ2_getChar_3b067 58 = .ok (.i2c, 1) := by decide +kernel
theorem dJ2_getChar_3b067_59 : decode cJ2_getChar_3b067 59 = .ok (.ireturn, 1) := by decide +kernel
theorem dJ2_length_9d52b_0 : decode cJ2_length_9d52b 0 = .ok (.aload_n 0, 1) := by decide +kernel
theorem dJ2_length_9d52b_1 : decode cJ2_length_9d52b 1 = .ok (.arraylength, 1) := by decide +kernel
theorem dJ2_length_9d52b_2 : decode cJ2_length_9d52b 2 = .ok (.iconst 1, 1) := by decide +kernel
theorem dJ2_length_9d52b_3 : decode cJ2_length_9d52b 3 = .ok (.ishr, 1) := by decide +kernel
theorem dJ2_length_9d52b_4 : decode cJ2_length_9d52b 4 = .ok (.ireturn, 1) := by decide +kernel
theorem dJ2_charAt_3b067_0 : decode cJ2_charAt_3b067 0 = .ok (.iload_n 1, 1) := by decide +kernel
theorem dJ2_charAt_3b067_1 : decode cJ2_charAt_3b067 1 = .ok (.aload_n 0, 1) := by decide +kernel
theorem dJ2_charAt_3b067_2 : decode cJ2_charAt_3b067 2 = .ok (.invokestatic 67, 3) := by decide +kernel
theorem dJ2_charAt_3b067_5 : decode cJ2_charAt_3b067 5 = .ok (.aload_n 0, 1) := by decide +kernel
theorem dJ2_charAt_3b067_6 : decode cJ2_charAt_3b067 6 = .ok (.iload_n 1, 1) := by decide +kernel
theorem dJ2_charAt_3b067_7 : decode cJ2_charAt_3b067 7 = .ok (.invokestatic 71, 3) := by decide +kernel
theorem dJ2_charAt_3b067_10 : decode cJ2_charAt_3b067 10 = .ok (.ireturn, 1) := by decide +kernel
theorem dJ2_checkIndex_2214a_0 : decode cJ2_checkIndex_2214a 0 = .ok (.iload_n 0, 1) := by decide +kernel
theorem dJ2_checkIndex_2214a_1 : decode cJ2_checkIndex_2214a 1 = .ok (.aload_n 1, 1) := by decide +kernel
theorem dJ2_checkIndex_2214a_2 : decode cJ2_checkIndex_2214a 2 = .ok (.invokestatic 48, 3) := by decide +kernel
theorem dJ2_checkIndex_2214a_5 : decode cJ2_checkIndex_2214a 5 = .ok (.invokestatic 414, 3) := by decide +kernel
theorem dJ2_checkIndex_2214a_8 : decode cJ2_checkIndex_2214a 8 = .ok (.return_, 1) := by decide +kernel
theorem dJ3_checkIndex_8e157_0 : decode cJ3_checkIndex_8e157 0 = .ok (.iload_n 0, 1) := by decide +kernel
theorem dJ3_checkIndex_8e157_1 : decode cJ3_checkIndex_8e157 1 = .ok (.ifCond .lt 8, 3) := by decide +kernel
theorem dJ3_checkIndex_8e157_4 : decode cJ3_checkIndex_8e157 4 = .ok (.iload_n 0, 1) := by decide +kernel
theorem dJ3_checkIndex_8e157_5 : decode cJ3_checkIndex_8e157 5 = .ok (.iload_n 1, 1) := by decide +kernel
theorem dJ3_checkIndex_8e157_6 : decode cJ3_checkIndex_8e157 6 = .ok (.if_icmp .lt 10, 3) := by decide +kernel
theorem dJ3_checkIndex_8e157_9 : decode cJ3_checkIndex_8e157 9 = .ok (.aload_n 2, 1) := by decide +kernel
theorem dJ3_checkIndex_8e157_10 : decode cJ3_checkIndex_8e157 10 = .ok (.iload_n 0, 1) := by decide +kernel
theorem dJ3_checkIndex_8e157_11 : decode cJ3_checkIndex_8e157 11 = .ok (.iload_n 1, 1) := by decide +kernel
theorem dJ3_checkIndex_8e157_12 : decode cJ3_checkIndex_8e157 12 = .ok (.invokestatic 95, 3) := by decide +kernel
theorem dJ3_checkIndex_8e157_15 : decode cJ3_checkIndex_8e157 15 = .ok (.athrow, 1) := by decide +kernel
theorem dJ3_checkIndex_8e157_16 : decode cJ3_checkIndex_8e157 16 = .ok (.iload_n 0, 1) := by decide +kernel
theorem dJ3_checkIndex_8e157_17 : decode cJ3_checkIndex_8e157 17 = .ok (.ireturn, 1) := by decide +kernel
theorem dL_law_0 : decode cL_law 0 = .ok (.new 7, 3) := by decide +kernel
theorem dL_law_3 : decode cL_law 3 = .ok (.dup, 1) := by decide +kernel
theorem dL_law_4 : decode cL_law 4 = .ok (.invokespecial 9, 3) := by decide +kernel
theorem dL_law_7 : decode cL_law 7 = .ok (.astore_n 1, 1) := by decide +kernel
theorem dL_law_8 : decode cL_law 8 = .ok (.new 10, 3) := by decide +kernel
theorem dL_law_11 : decode cL_law 11 = .ok (.dup, 1) := by decide +kernel
theorem dL_law_12 : decode cL_law 12 = .ok (.invokespecial 12, 3) := by decide +kernel
theorem dL_law_15 : decode cL_law 15 = .ok (.astore_n 2, 1) := by decide +kernel
theorem dL_law_16 : decode cL_law 16 = .ok (.iconst 0, 1) := by decide +kernel
theorem dL_law_17 : decode cL_law 17 = .ok (.istore_n 3, 1) := by decide +kernel
theorem dL_law_18 : decode cL_law 18 = .ok (.iload_n 3, 1) := by decide +kernel
theorem dL_law_19 : decode cL_law 19 = .ok (.aload_n 0, 1) := by decide +kernel
theorem dL_law_20 : decode cL_law 20 = .ok (.arraylength, 1) := by decide +kernel
theorem dL_law_21 : decode cL_law 21 = .ok (.iconst 4, 1) := by decide +kernel
theorem dL_law_22 : decode cL_law 22 = .ok (.isub, 1) := by decide +kernel
theorem dL_law_23 : decode cL_law 23 = .ok (.if_icmp .gt 1019, 3) := by decide +kernel
theorem dL_law_26 : decode cL_law 26 = .ok (.aload_n 0, 1) := by decide +kernel
theorem dL_law_27 : decode cL_law 27 = .ok (.iload_n 3, 1) := by decide +kernel
theorem dL_law_28 : decode cL_law 28 = .ok (.iaload, 1) := by decide +kernel
theorem dL_law_29 : decode cL_law 29 = .ok (.bipush 31, 2) := by decide +kernel
theorem dL_law_31 : decode cL_law 31 = .ok (.iand, 1) := by decide +kernel
theorem dL_law_32 : decode cL_law 32 = .ok (.tableswitch 1004 0 30 #[140, 173, 206, 229, 272, 315, 348, 371, 404, 437, 470, 493, 526, 569, 612, 635, 668, 691, 724, 767, 790, 823, 856, 879, 902, 915, 928, 951, 964, 977, 990], 140) := by decide +kernel
theorem dL_law_172 : decode cL_law 172 = .ok (.aload_n 1, 1) := by decide +kernel
theorem dL_law_173 : decode cL_law 173 = .ok (.aload_n 0, 1) := by decide +kernel
theorem dL_law_174 : decode cL_law 174 = .ok (.iload_n 3, 1) := by decide +kernel
theorem dL_law_175 : decode cL_law 175 = .ok (.iconst 1, 1) := by decide +kernel
theorem dL_law_176 : decode cL_law 176 = .ok (.iadd, 1) := by decide +kernel
theorem dL_law_177 : decode cL_law 177 = .ok (.iaload, 1) := by decide +kernel
theorem dL_law_178 : decode cL_law 178 = .ok (.aload_n 0, 1) := by decide +kernel
theorem dL_law_179 : decode cL_law 179 = .ok (.iload_n 3, 1) := by decide +kernel
theorem dL_law_180 : decode cL_law 180 = .ok (.iconst 2, 1) := by decide +kernel
theorem dL_law_181 : decode cL_law 181 = .ok (.iadd, 1) := by decide +kernel
theorem dL_law_182 : decode cL_law 182 = .ok (.iaload, 1) := by decide +kernel
theorem dL_law_183 : decode cL_law 183 = .ok (.invokevirtual 13, 3) := by decide +kernel
theorem dL_law_186 : decode cL_law 186 = .ok (.aload_n 2, 1) := by decide +kernel
theorem dL_law_187 : decode cL_law 187 = .ok (.aload_n 0, 1) := by decide +kernel
theorem dL_law_188 : decode cL_law 188 = .ok (.iload_n 3, 1) := by decide +kernel
theorem dL_law_189 : decode cL_law 189 = .ok (.iconst 1, 1) := by decide +kernel
theorem dL_law_190 : decode cL_law 190 = .ok (.iadd, 1) := by decide +kernel
theorem dL_law_191 : decode cL_law 191 = .ok (.iaload, 1) := by decide +kernel
theorem dL_law_192 : decode cL_law 192 = .ok (.aload_n 0, 1) := by decide +kernel
theorem dL_law_193 : decode cL_law 193 = .ok (.iload_n 3, 1) := by decide +kernel
theorem dL_law_194 : decode cL_law 194 = .ok (.iconst 2, 1) := by decide +kernel
theorem dL_law_195 : decode cL_law 195 = .ok (.iadd, 1) := by decide +kernel
theorem dL_law_196 : decode cL_law 196 = .ok (.iaload, 1) := by decide +kernel
theorem dL_law_197 : decode cL_law 197 = .ok (.invokevirtual 17, 3) := by decide +kernel
theorem dL_law_200 : decode cL_law 200 = .ok (.if_icmp .eq 836, 3) := by decide +kernel
theorem dL_law_203 : decode cL_law 203 = .ok (.iconst 0, 1) := by decide +kernel
theorem dL_law_204 : decode cL_law 204 = .ok (.ireturn, 1) := by decide +kernel
theorem dL_law_205 : decode cL_law 205 = .ok (.aload_n 1, 1) := by decide +kernel
theorem dL_law_206 : decode cL_law 206 = .ok (.aload_n 0, 1) := by decide +kernel
theorem dL_law_207 : decode cL_law 207 = .ok (.iload_n 3, 1) := by decide +kernel
theorem dL_law_208 : decode cL_law 208 = .ok (.iconst 1, 1) := by decide +kernel
theorem dL_law_209 : decode cL_law 209 = .ok (.iadd, 1) := by decide +kernel
theorem dL_law_210 : decode cL_law 210 = .ok (.iaload, 1) := by decide +kernel
theorem dL_law_211 : decode cL_law 211 = .ok (.aload_n 0, 1) := by decide +kernel
theorem dL_law_212 : decode cL_law 212 = .ok (.iload_n 3, 1) := by decide +kernel
theorem dL_law_213 : decode cL_law 213 = .ok (.iconst 2, 1) := by decide +kernel
theorem dL_law_214 : decode cL_law 214 = .ok (.iadd, 1) := by decide +kernel
theorem dL_law_215 : decode cL_law 215 = .ok (.iaload, 1) := by decide +kernel
theorem dL_law_216 : decode cL_law 216 = .ok (.invokevirtual 18, 3) := by decide +kernel
theorem dL_law_219 : decode cL_law 219 = .ok (.aload_n 2, 1) := by decide +kernel
theorem dL_law_220 : decode cL_law 220 = .ok (.aload_n 0, 1) := by decide +kernel
theorem dL_law_221 : decode cL_law 221 = .ok (.iload_n 3, 1) := by decide +kernel
theorem dL_law_222 : decode cL_law 222 = .ok (.iconst 1, 1) := by decide +kernel
theorem dL_law_223 : decode cL_law 223 = .ok (.iadd, 1) := by decide +kernel
theorem dL_law_224 : decode cL_law 224 = .ok (.iaload, 1) := by decide +kernel
theorem dL_law_225 : decode cL_law 225 = .ok (.aload_n 0, 1) := by decide +kernel
theorem dL_law_226 : decode cL_law 226 = .ok (.iload_n 3, 1) := by decide +kernel
theorem dL_law_227 : decode cL_law 227 = .ok (.iconst 2, 1) := by decide +kernel
theorem dL_law_228 : decode cL_law 228 = .ok (.iadd, 1) := by decide +kernel
theorem dL_law_229 : decode cL_law 229 = .ok (.iaload, 1) := by decide +kernel
theorem dL_law_230 : decode cL_law 230 = .ok (.invokevirtual 21, 3) := by decide +kernel
theorem dL_law_233 : decode cL_law 233 = .ok (.if_icmp .eq 803, 3) := by decide +kernel
theorem dL_law_236 : decode cL_law 236 = .ok (.iconst 0, 1) := by decide +kernel
theorem dL_law_237 : decode cL_law 237 = .ok (.ireturn, 1) := by decide +kernel
theorem dL_law_238 : decode cL_law 238 = .ok (.aload_n 1, 1) := by decide +kernel
theorem dL_law_239 : decode cL_law 239 = .ok (.aload_n 0, 1) := by decide +kernel
theorem dL_law_240 : decode cL_law 240 = .ok (.iload_n 3, 1) := by decide +kernel
theorem dL_law_241 : decode cL_law 241 = .ok (.iconst 1, 1) := by decide +kernel
theorem dL_law_242 : decode cL_law 242 = .ok (.iadd, 1) := by decide +kernel
theorem dL_law_243 : decode cL_law 243 = .ok (.iaload, 1) := by decide +kernel
theorem dL_law_244 : decode cL_law 244 = .ok (.invokevirtual 22, 3) := by decide +kernel
theorem dL_law_247 : decode cL_law 247 = .ok (.aload_n 2, 1) := by decide +kernel
theorem dL_law_248 : decode cL_law 248 = .ok (.aload_n 0, 1) := by decide +kernel
theorem dL_law_249 : decode cL_law 249 = .ok (.iload_n 3, 1) := by decide +kernel
theorem dL_law_250 : decode cL_law 250 = .ok (.iconst 1, 1) := by decide +kernel
theorem dL_law_251 : decode cL_law 251 = .ok (.iadd, 1) := by decide +kernel
theorem dL_law_252 : decode cL_law 252 = .ok (.iaload, 1) := by decide +kernel
theorem dL_law_253 : decode cL_law 253 = .ok (.invokevirtual 26, 3) := by decide +kernel
theorem dL_law_256 : decode cL_law 256 = .ok (.if_icmp .eq 780, 3) := by decide +kernel
theorem dL_law_259 : decode cL_law 259 = .ok (.iconst 0, 1) := by decide +kernel
theorem dL_law_260 : decode cL_law 260 = .ok (.ireturn, 1) := by decide +kernel
theorem dL_law_261 : decode cL_law 261 = .ok (.aload_n 1, 1) := by decide +kernel
theorem dL_law_262 : decode cL_law 262 = .ok (.aload_n 0, 1) := by decide +kernel
theorem dL_law_263 : decode cL_law 263 = .ok (.iload_n 3, 1) := by decide +kernel
theorem dL_law_264 : decode cL_law 264 = .ok (.iconst 1, 1) := by decide +kernel
theorem dL_law_265 : decode cL_law 265 = .ok (.iadd, 1) := by decide +kernel
theorem dL_law_266 : decode cL_law 266 = .ok (.iaload, 1) := by decide +kernel
theorem dL_law_267 : decode cL_law 267 = .ok (.aload_n 0, 1) := by decide +kernel
theorem dL_law_268 : decode cL_law 268 = .ok (.iload_n 3, 1) := by decide +kernel
theorem dL_law_269 : decode cL_law 269 = .ok (.iconst 2, 1) := by decide +kernel
theorem dL_law_270 : decode cL_law 270 = .ok (.iadd, 1) := by decide +kernel
theorem dL_law_271 : decode cL_law 271 = .ok (.iaload, 1) := by decide +kernel
theorem dL_law_272 : decode cL_law 272 = .ok (.aload_n 0, 1) := by decide +kernel
theorem dL_law_273 : decode cL_law 273 = .ok (.iload_n 3, 1) := by decide +kernel
theorem dL_law_274 : decode cL_law 274 = .ok (.iconst 3, 1) := by decide +kernel
theorem dL_law_275 : decode cL_law 275 = .ok (.iadd, 1) := by decide +kernel
theorem dL_law_276 : decode cL_law 276 = .ok (.iaload, 1) := by decide +kernel
theorem dL_law_277 : decode cL_law 277 = .ok (.invokevirtual 27, 3) := by decide +kernel
theorem dL_law_280 : decode cL_law 280 = .ok (.aload_n 2, 1) := by decide +kernel
theorem dL_law_281 : decode cL_law 281 = .ok (.aload_n 0, 1) := by decide +kernel
theorem dL_law_282 : decode cL_law 282 = .ok (.iload_n 3, 1) := by decide +kernel
theorem dL_law_283 : decode cL_law 283 = .ok (.iconst 1, 1) := by decide +kernel
theorem dL_law_284 : decode cL_law 284 = .ok (.iadd, 1) := by decide +kernel
theorem dL_law_285 : decode cL_law 285 = .ok (.iaload, 1) := by decide +kernel
theorem dL_law_286 : decode cL_law 286 = .ok (.aload_n 0, 1) := by decide +kernel
theorem dL_law_287 : decode cL_law 287 = .ok (.iload_n 3, 1) := by decide +kernel
theorem dL_law_288 : decode cL_law 288 = .ok (.iconst 2, 1) := by decide +kernel
theorem dL_law_289 : decode cL_law 289 = .ok (.iadd, 1) := by decide +kernel
theorem dL_law_290 : decode cL_law 290 = .ok (.iaload, 1) := by decide +kernel
theorem dL_law_291 : decode cL_law 291 = .ok (.aload_n 0, 1) := by decide +kernel
theorem dL_law_292 : decode cL_law 292 = .ok (.iload_n 3, 1) := by decide +kernel
theorem dL_law_293 : decode cL_law 293 = .ok (.iconst 3, 1) := by decide +kernel
theorem dL_law_294 : decode cL_law 294 = .ok (.iadd, 1) := by decide +kernel
theorem dL_law_295 : decode cL_law 295 = .ok (.iaload, 1) := by decide +kernel
theorem dL_law_296 : decode cL_law 296 = .ok (.invokevirtual 31, 3) := by decide +kernel
theorem dL_law_299 : decode cL_law 299 = .ok (.if_icmp .eq 737, 3) := by decide +kernel
theorem dL_law_302 : decode cL_law 302 = .ok (.iconst 0, 1) := by decide +kernel
theorem dL_law_303 : decode cL_law 303 = .ok (.ireturn, 1) := by decide +kernel
theorem dL_law_304 : decode cL_law 304 = .ok (.aload_n 1, 1) := by decide +kernel
theorem dL_law_305 : decode cL_law 305 = .ok (.aload_n 0, 1) := by decide +kernel
theorem dL_law_306 : decode cL_law 306 = .ok (.iload_n 3, 1) := by decide +kernel
theorem dL_law_307 : decode cL_law 307 = .ok (.iconst 1, 1) := by decide +kernel
theorem dL_law_308 : decode cL_law 308 = .ok (.iadd, 1) := by decide +kernel
theorem dL_law_309 : decode cL_law 309 = .ok (.iaload, 1) := by decide +kernel
theorem dL_law_310 : decode cL_law 310 = .ok (.aload_n 0, 1) := by decide +kernel
theorem dL_law_311 : decode cL_law 311 = .ok (.iload_n 3, 1) := by decide +kernel
theorem dL_law_312 : decode cL_law 312 = .ok (.iconst 2, 1) := by decide +kernel
theorem dL_law_313 : decode cL_law 313 = .ok (.iadd, 1) := by decide +kernel
theorem dL_law_314 : decode cL_law 314 = .ok (.iaload, 1) := by decide +kernel
theorem dL_law_315 : decode cL_law 315 = .ok (.aload_n 0, 1) := by decide +kernel
theorem dL_law_316 : decode cL_law 316 = .ok (.iload_n 3, 1) := by decide +kernel
theorem dL_law_317 : decode cL_law 317 = .ok (.iconst 3, 1) := by decide +kernel
theorem dL_law_318 : decode cL_law 318 = .ok (.iadd, 1) := by decide +kernel
theorem dL_law_319 : decode cL_law 319 = .ok (.iaload, 1) := by decide +kernel
theorem dL_law_320 : decode cL_law 320 = .ok (.invokevirtual 32, 3) := by decide +kernel
theorem dL_law_323 : decode cL_law 323 = .ok (.aload_n 2, 1) := by decide +kernel
theorem dL_law_324 : decode cL_law 324 = .ok (.aload_n 0, 1) := by decide +kernel
theorem dL_law_325 : decode cL_law 325 = .ok (.iload_n 3, 1) := by decide +kernel
theorem dL_law_326 : decode cL_law 326 = .ok (.iconst 1, 1) := by decide +kernel
theorem dL_law_327 : decode cL_law 327 = .ok (.iadd, 1) := by decide +kernel
theorem dL_law_328 : decode cL_law 328 = .ok (.iaload, 1) := by decide +kernel
theorem dL_law_329 : decode cL_law 329 = .ok (.aload_n 0, 1) := by decide +kernel
theorem dL_law_330 : decode cL_law 330 = .ok (.iload_n 3, 1) := by decide +kernel
theorem dL_law_331 : decode cL_law 331 = .ok (.iconst 2, 1) := by decide +kernel
theorem dL_law_332 : decode cL_law 332 = .ok (.iadd, 1) := by decide +kernel
theorem dL_law_333 : decode cL_law 333 = .ok (.iaload, 1) := by decide +kernel
theorem dL_law_334 : decode cL_law 334 = .ok (.aload_n 0, 1) := by decide +kernel
theorem dL_law_335 : decode cL_law 335 = .ok (.iload_n 3, 1) := by decide +kernel
theorem dL_law_336 : decode cL_law 336 = .ok (.iconst 3, 1) := by decide +kernel
theorem dL_law_337 : decode cL_law 337 = .ok (.iadd, 1) := by decide +kernel
theorem dL_law_338 : decode cL_law 338 = .ok (.iaload, 1) := by decide +kernel
theorem dL_law_339 : decode cL_law 339 = .ok (.invokevirtual 35, 3) := by decide +kernel
theorem dL_law_342 : decode cL_law 342 = .ok (.if_icmp .eq 694, 3) := by decide +kernel
theorem dL_law_345 : decode cL_law 345 = .ok (.iconst 0, 1) := by decide +kernel
theorem dL_law_346 : decode cL_law 346 = .ok (.ireturn, 1) := by decide +kernel
theorem dL_law_347 : decode cL_law 347 = .ok (.aload_n 1, 1) := by decide +kernel
theorem dL_law_348 : decode cL_law 348 = .ok (.aload_n 0, 1) := by decide +kernel
theorem dL_law_349 : decode cL_law 349 = .ok (.iload_n 3, 1) := by decide +kernel
theorem dL_law_350 : decode cL_law 350 = .ok (.iconst 1, 1) := by decide +kernel
theorem dL_law_351 : decode cL_law 351 = .ok (.iadd, 1) := by decide +kernel
theorem dL_law_352 : decode cL_law 352 = .ok (.iaload, 1) := by decide +kernel
theorem dL_law_353 : decode cL_law 353 = .ok (.aload_n 0, 1) := by decide +kernel
theorem dL_law_354 : decode cL_law 354 = .ok (.iload_n 3, 1) := by decide +kernel
theorem dL_law_355 : decode cL_law 355 = .ok (.iconst 2, 1) := by decide +kernel
theorem dL_law_356 : decode cL_law 356 = .ok (.iadd, 1) := by decide +kernel
theorem dL_law_357 : decode cL_law 357 = .ok (.iaload, 1) := by decide +kernel
theorem dL_law_358 : decode cL_law 358 = .ok (.invokevirtual 36, 3) := by decide +kernel
theorem dL_law_361 : decode cL_law 361 = .ok (.aload_n 2, 1) := by decide +kernel
theorem dL_law_362 : decode cL_law 362 = .ok (.aload_n 0, 1) := by decide +kernel
theorem dL_law_363 : decode cL_law 363 = .ok (.iload_n 3, 1) := by decide +kernel
theorem dL_law_364 : decode cL_law 364 = .ok (.iconst 1, 1) := by decide +kernel
theorem dL_law_365 : decode cL_law 365 = .ok (.iadd, 1) := by decide +kernel
theorem dL_law_366 : decode cL_law 366 = .ok (.iaload, 1) := by decide +kernel
theorem dL_law_367 : decode cL_law 367 = .ok (.aload_n 0, 1) := by decide +kernel
theorem dL_law_368 : decode cL_law 368 = .ok (.iload_n 3, 1) := by decide +kernel
theorem dL_law_369 : decode cL_law 369 = .ok (.iconst 2, 1) := by decide +kernel
theorem dL_law_370 : decode cL_law 370 = .ok (.iadd, 1) := by decide +kernel
theorem dL_law_371 : decode cL_law 371 = .ok (.iaload, 1) := by decide +kernel
theorem dL_law_372 : decode cL_law 372 = .ok (.invokevirtual 39, 3) := by decide +kernel
theorem dL_law_375 : decode cL_law 375 = .ok (.if_icmp .eq 661, 3) := by decide +kernel
theorem dL_law_378 : decode cL_law 378 = .ok (.iconst 0, 1) := by decide +kernel
theorem dL_law_379 : decode cL_law 379 = .ok (.ireturn, 1) := by decide +kernel
theorem dL_law_380 : decode cL_law 380 = .ok (.aload_n 1, 1) := by decide +kernel
theorem dL_law_381 : decode cL_law 381 = .ok (.aload_n 0, 1) := by decide +kernel
theorem dL_law_382 : decode cL_law 382 = .ok (.iload_n 3, 1) := by decide +kernel
theorem dL_law_383 : decode cL_law 383 = .ok (.iconst 1, 1) := by decide +kernel
theorem dL_law_384 : decode cL_law 384 = .ok (.iadd, 1) := by decide +kernel
theorem dL_law_385 : decode cL_law 385 = .ok (.iaload, 1) := by decide +kernel
theorem dL_law_386 : decode cL_law 386 = .ok (.invokevirtual 40, 3) := by decide +kernel
theorem dL_law_389 : decode cL_law 389 = .ok (.aload_n 2, 1) := by decide +kernel
theorem dL_law_390 : decode cL_law 390 = .ok (.aload_n 0, 1) := by decide +kernel
theorem dL_law_391 : decode cL_law 391 = .ok (.iload_n 3, 1) := by decide +kernel
theorem dL_law_392 : decode cL_law 392 = .ok (.iconst 1, 1) := by decide +kernel
theorem dL_law_393 : decode cL_law 393 = .ok (.iadd, 1) := by decide +kernel
theorem dL_law_394 : decode cL_law 394 = .ok (.iaload, 1) := by decide +kernel
theorem dL_law_395 : decode cL_law 395 = .ok (.invokevirtual 43, 3) := by decide +kernel
theorem dL_law_398 : decode cL_law 398 = .ok (.if_icmp .eq 638, 3) := by decide +kernel
theorem dL_law_401 : decode cL_law 401 = .ok (.iconst 0, 1) := by decide +kernel
theorem dL_law_402 : decode cL_law 402 = .ok (.ireturn, 1) := by decide +kernel
theorem dL_law_403 : decode cL_law 403 = .ok (.aload_n 1, 1) := by decide +kernel
theorem dL_law_404 : decode cL_law 404 = .ok (.aload_n 0, 1) := by decide +kernel
theorem dL_law_405 : decode cL_law 405 = .ok (.iload_n 3, 1) := by decide +kernel
theorem dL_law_406 : decode cL_law 406 = .ok (.iconst 1, 1) := by decide +kernel
theorem dL_law_407 : decode cL_law 407 = .ok (.iadd, 1) := by decide +kernel
theorem dL_law_408 : decode cL_law 408 = .ok (.iaload, 1) := by decide +kernel
theorem dL_law_409 : decode cL_law 409 = .ok (.aload_n 0, 1) := by decide +kernel
theorem dL_law_410 : decode cL_law 410 = .ok (.iload_n 3, 1) := by decide +kernel
theorem dL_law_411 : decode cL_law 411 = .ok (.iconst 2, 1) := by decide +kernel
theorem dL_law_412 : decode cL_law 412 = .ok (.iadd, 1) := by decide +kernel
theorem dL_law_413 : decode cL_law 413 = .ok (.iaload, 1) := by decide +kernel
theorem dL_law_414 : decode cL_law 414 = .ok (.invokevirtual 44, 3) := by decide +kernel
theorem dL_law_417 : decode cL_law 417 = .ok (.aload_n 2, 1) := by decide +kernel
theorem dL_law_418 : decode cL_law 418 = .ok (.aload_n 0, 1) := by decide +kernel
theorem dL_law_419 : decode cL_law 419 = .ok (.iload_n 3, 1) := by decide +kernel
theorem dL_law_420 : decode cL_law 420 = .ok (.iconst 1, 1) := by decide +kernel
theorem dL_law_421 : decode cL_law 421 = .ok (.iadd, 1) := by decide +kernel
theorem dL_law_422 : decode cL_law 422 = .ok (.iaload, 1) := by decide +kernel
theorem dL_law_423 : decode cL_law 423 = .ok (.aload_n 0, 1) := by decide +kernel
theorem dL_law_424 : decode cL_law 424 = .ok (.iload_n 3, 1) := by decide +kernel
theorem dL_law_425 : decode cL_law 425 = .ok (.iconst 2, 1) := by decide +kernel
theorem dL_law_426 : decode cL_law 426 = .ok (.iadd, 1) := by decide +kernel
theorem dL_law_427 : decode cL_law 427 = .ok (.iaload, 1) := by decide +kernel
theorem dL_law_428 : decode cL_law 428 = .ok (.invokevirtual 47, 3) := by decide +kernel
theorem dL_law_431 : decode cL_law 431 = .ok (.if_icmp .eq 605, 3) := by decide +kernel
theorem dL_law_434 : decode cL_law 434 = .ok (.iconst 0, 1) := by decide +kernel
theorem dL_law_435 : decode cL_law 435 = .ok (.ireturn, 1) := by decide +kernel
theorem dL_law_436 : decode cL_law 436 = .ok (.aload_n 1, 1) := by decide +kernel
theorem dL_law_437 : decode cL_law 437 = .ok (.aload_n 0, 1) := by decide +kernel
theorem dL_law_438 : decode cL_law 438 = .ok (.iload_n 3, 1) := by decide +kernel
theorem dL_law_439 : decode cL_law 439 = .ok (.iconst 1, 1) := by decide +kernel
theorem dL_law_440 : decode cL_law 440 = .ok (.iadd, 1) := by decide +kernel
theorem dL_law_441 : decode cL_law 441 = .ok (.iaload, 1) := by decide +kernel
theorem dL_law_442 : decode cL_law 442 = .ok (.aload_n 0, 1) := by decide +kernel
theorem dL_law_443 : decode cL_law 443 = .ok (.iload_n 3, 1) := by decide +kernel
theorem dL_law_444 : decode cL_law 444 = .ok (.iconst 2, 1) := by decide +kernel
theorem dL_law_445 : decode cL_law 445 = .ok (.iadd, 1) := by decide +kernel
theorem dL_law_446 : decode cL_law 446 = .ok (.iaload, 1) := by decide +kernel
theorem dL_law_447 : decode cL_law 447 = .ok (.invokevirtual 48, 3) := by decide +kernel
theorem dL_law_450 : decode cL_law 450 = .ok (.aload_n 2, 1) := by decide +kernel
theorem dL_law_451 : decode cL_law 451 = .ok (.aload_n 0, 1) := by decide +kernel
theorem dL_law_452 : decode cL_law 452 = .ok (.iload_n 3, 1) := by decide +kernel
theorem dL_law_453 : decode cL_law 453 = .ok (.iconst 1, 1) := by decide +kernel
theorem dL_law_454 : decode cL_law 454 = .ok (.iadd, 1) := by decide +kernel
theorem dL_law_455 : decode cL_law 455 = .ok (.iaload, 1) := by decide +kernel
theorem dL_law_456 : decode cL_law 456 = .ok (.aload_n 0, 1) := by decide +kernel
theorem dL_law_457 : decode cL_law 457 = .ok (.iload_n 3, 1) := by decide +kernel
theorem dL_law_458 : decode cL_law 458 = .ok (.iconst 2, 1) := by decide +kernel
theorem dL_law_459 : decode cL_law 459 = .ok (.iadd, 1) := by decide +kernel
theorem dL_law_460 : decode cL_law 460 = .ok (.iaload, 1) := by decide +kernel
theorem dL_law_461 : decode cL_law 461 = .ok (.invokevirtual 51, 3) := by decide +kernel
theorem dL_law_464 : decode cL_law 464 = .ok (.if_icmp .eq 572, 3) := by decide +kernel
theorem dL_law_467 : decode cL_law 467 = .ok (.iconst 0, 1) := by decide +kernel
theorem dL_law_468 : decode cL_law 468 = .ok (.ireturn, 1) := by decide +kernel
theorem dL_law_469 : decode cL_law 469 = .ok (.aload_n 1, 1) := by decide +kernel
theorem dL_law_470 : decode cL_law 470 = .ok (.aload_n 0, 1) := by decide +kernel
theorem dL_law_471 : decode cL_law 471 = .ok (.iload_n 3, 1) := by decide +kernel
theorem dL_law_472 : decode cL_law 472 = .ok (.iconst 1, 1) := by decide +kernel
theorem dL_law_473 : decode cL_law 473 = .ok (.iadd, 1) := by decide +kernel
theorem dL_law_474 : decode cL_law 474 = .ok (.iaload, 1) := by decide +kernel
theorem dL_law_475 : decode cL_law 475 = .ok (.aload_n 0, 1) := by decide +kernel
theorem dL_law_476 : decode cL_law 476 = .ok (.iload_n 3, 1) := by decide +kernel
theorem dL_law_477 : decode cL_law 477 = .ok (.iconst 2, 1) := by decide +kernel
theorem dL_law_478 : decode cL_law 478 = .ok (.iadd, 1) := by decide +kernel
theorem dL_law_479 : decode cL_law 479 = .ok (.iaload, 1) := by decide +kernel
theorem dL_law_480 : decode cL_law 480 = .ok (.invokevirtual 52, 3) := by decide +kernel
theorem dL_law_483 : decode cL_law 483 = .ok (.aload_n 2, 1) := by decide +kernel
theorem dL_law_484 : decode cL_law 484 = .ok (.aload_n 0, 1) := by decide +kernel
theorem dL_law_485 : decode cL_law 485 = .ok (.iload_n 3, 1) := by decide +kernel
theorem dL_law_486 : decode cL_law 486 = .ok (.iconst 1, 1) := by decide +kernel
theorem dL_law_487 : decode cL_law 487 = .ok (.iadd, 1) := by decide +kernel
theorem dL_law_488 : decode cL_law 488 = .ok (.iaload, 1) := by decide +kernel
theorem dL_law_489 : decode cL_law 489 = .ok (.aload_n 0, 1) := by decide +kernel
theorem dL_law_490 : decode cL_law 490 = .ok (.iload_n 3, 1) := by decide +kernel
theorem dL_law_491 : decode cL_law 491 = .ok (.iconst 2, 1) := by decide +kernel
theorem dL_law_492 : decode cL_law 492 = .ok (.iadd, 1) := by decide +kernel
theorem dL_law_493 : decode cL_law 493 = .ok (.iaload, 1) := by decide +kernel
theorem dL_law_494 : decode cL_law 494 = .ok (.invokevirtual 55, 3) := by decide +kernel
theorem dL_law_497 : decode cL_law 497 = .ok (.if_icmp .eq 539, 3) := by decide +kernel
theorem dL_law_500 : decode cL_law 500 = .ok (.iconst 0, 1) := by decide +kernel
theorem dL_law_501 : decode cL_law 501 = .ok (.ireturn, 1) := by decide +kernel
theorem dL_law_502 : decode cL_law 502 = .ok (.aload_n 1, 1) := by decide +kernel
theorem dL_law_503 : decode cL_law 503 = .ok (.aload_n 0, 1) := by decide +kernel
theorem dL_law_504 : decode cL_law 504 = .ok (.iload_n 3, 1) := by decide +kernel
theorem dL_law_505 : decode cL_law 505 = .ok (.iconst 1, 1) := by decide +kernel
theorem dL_law_506 : decode cL_law 506 = .ok (.iadd, 1) := by decide +kernel
theorem dL_law_507 : decode cL_law 507 = .ok (.iaload, 1) := by decide +kernel
theorem dL_law_508 : decode cL_law 508 = .ok (.invokevirtual 56, 3) := by decide +kernel
theorem dL_law_511 : decode cL_law 511 = .ok (.aload_n 2, 1) := by decide +kernel
theorem dL_law_512 : decode cL_law 512 = .ok (.aload_n 0, 1) := by decide +kernel
theorem dL_law_513 : decode cL_law 513 = .ok (.iload_n 3, 1) := by decide +kernel
theorem dL_law_514 : decode cL_law 514 = .ok (.iconst 1, 1) := by decide +kernel
theorem dL_law_515 : decode cL_law 515 = .ok (.iadd, 1) := by decide +kernel
theorem dL_law_516 : decode cL_law 516 = .ok (.iaload, 1) := by decide +kernel
theorem dL_law_517 : decode cL_law 517 = .ok (.invokevirtual 59, 3) := by decide +kernel
theorem dL_law_520 : decode cL_law 520 = .ok (.if_icmp .eq 516, 3) := by decide +kernel
theorem dL_law_523 : decode cL_law 523 = .ok (.iconst 0, 1) := by decide +kernel
theorem dL_law_524 : decode cL_law 524 = .ok (.ireturn, 1) := by decide +kernel
theorem dL_law_525 : decode cL_law 525 = .ok (.aload_n 1, 1) := by decide +kernel
theorem dL_law_526 : decode cL_law 526 = .ok (.aload_n 0, 1) := by decide +kernel
theorem dL_law_527 : decode cL_law 527 = .ok (.iload_n 3, 1) := by decide +kernel
theorem dL_law_528 : decode cL_law 528 = .ok (.iconst 1, 1) := by decide +kernel
theorem dL_law_529 : decode cL_law 529 = .ok (.iadd, 1) := by decide +kernel
theorem dL_law_530 : decode cL_law 530 = .ok (.iaload, 1) := by decide +kernel
theorem dL_law_531 : decode cL_law 531 = .ok (.aload_n 0, 1) := by decide +kernel
theorem dL_law_532 : decode cL_law 532 = .ok (.iload_n 3, 1) := by decide +kernel
theorem dL_law_533 : decode cL_law 533 = .ok (.iconst 2, 1) := by decide +kernel
theorem dL_law_534 : decode cL_law 534 = .ok (.iadd, 1) := by decide +kernel
theorem dL_law_535 : decode cL_law 535 = .ok (.iaload, 1) := by decide +kernel
theorem dL_law_536 : decode cL_law 536 = .ok (.invokevirtual 60, 3) := by decide +kernel
theorem dL_law_539 : decode cL_law 539 = .ok (.aload_n 2, 1) := by decide +kernel
theorem dL_law_540 : decode cL_law 540 = .ok (.aload_n 0, 1) := by decide +kernel
theorem dL_law_541 : decode cL_law 541 = .ok (.iload_n 3, 1) := by decide +kernel
theorem dL_law_542 : decode cL_law 542 = .ok (.iconst 1, 1) := by decide +kernel
theorem dL_law_543 : decode cL_law 543 = .ok (.iadd, 1) := by decide +kernel
theorem dL_law_544 : decode cL_law 544 = .ok (.iaload, 1) := by decide +kernel
theorem dL_law_545 : decode cL_law 545 = .ok (.aload_n 0, 1) := by decide +kernel
theorem dL_law_546 : decode cL_law 546 = .ok (.iload_n 3, 1) := by decide +kernel
theorem dL_law_547 : decode cL_law 547 = .ok (.iconst 2, 1) := by decide +kernel
theorem dL_law_548 : decode cL_law 548 = .ok (.iadd, 1) := by decide +kernel
theorem dL_law_549 : decode cL_law 549 = .ok (.iaload, 1) := by decide +kernel
theorem dL_law_550 : decode cL_law 550 = .ok (.invokevirtual 63, 3) := by decide +kernel
theorem dL_law_553 : decode cL_law 553 = .ok (.if_icmp .eq 483, 3) := by decide +kernel
theorem dL_law_556 : decode cL_law 556 = .ok (.iconst 0, 1) := by decide +kernel
theorem dL_law_557 : decode cL_law 557 = .ok (.ireturn, 1) := by decide +kernel
theorem dL_law_558 : decode cL_law 558 = .ok (.aload_n 1, 1) := by decide +kernel
theorem dL_law_559 : decode cL_law 559 = .ok (.aload_n 0, 1) := by decide +kernel
theorem dL_law_560 : decode cL_law 560 = .ok (.iload_n 3, 1) := by decide +kernel
theorem dL_law_561 : decode cL_law 561 = .ok (.iconst 1, 1) := by decide +kernel
theorem dL_law_562 : decode cL_law 562 = .ok (.iadd, 1) := by decide +kernel
theorem dL_law_563 : decode cL_law 563 = .ok (.iaload, 1) := by decide +kernel
theorem dL_law_564 : decode cL_law 564 = .ok (.aload_n 0, 1) := by decide +kernel
theorem dL_law_565 : decode cL_law 565 = .ok (.iload_n 3, 1) := by decide +kernel
theorem dL_law_566 : decode cL_law 566 = .ok (.iconst 2, 1) := by decide +kernel
theorem dL_law_567 : decode cL_law 567 = .ok (.iadd, 1) := by decide +kernel
theorem dL_law_568 : decode cL_law 568 = .ok (.iaload, 1) := by decide +kernel
theorem dL_law_569 : decode cL_law 569 = .ok (.aload_n 0, 1) := by decide +kernel
theorem dL_law_570 : decode cL_law 570 = .ok (.iload_n 3, 1) := by decide +kernel
theorem dL_law_571 : decode cL_law 571 = .ok (.iconst 3, 1) := by decide +kernel
theorem dL_law_572 : decode cL_law 572 = .ok (.iadd, 1) := by decide +kernel
theorem dL_law_573 : decode cL_law 573 = .ok (.iaload, 1) := by decide +kernel
theorem dL_law_574 : decode cL_law 574 = .ok (.invokevirtual 64, 3) := by decide +kernel
theorem dL_law_577 : decode cL_law 577 = .ok (.aload_n 2, 1) := by decide +kernel
theorem dL_law_578 : decode cL_law 578 = .ok (.aload_n 0, 1) := by decide +kernel
theorem dL_law_579 : decode cL_law 579 = .ok (.iload_n 3, 1) := by decide +kernel
theorem dL_law_580 : decode cL_law 580 = .ok (.iconst 1, 1) := by decide +kernel
theorem dL_law_581 : decode cL_law 581 = .ok (.iadd, 1) := by decide +kernel
theorem dL_law_582 : decode cL_law 582 = .ok (.iaload, 1) := by decide +kernel
theorem dL_law_583 : decode cL_law 583 = .ok (.aload_n 0, 1) := by decide +kernel
theorem dL_law_584 : decode cL_law 584 = .ok (.iload_n 3, 1) := by decide +kernel
theorem dL_law_585 : decode cL_law 585 = .ok (.iconst 2, 1) := by decide +kernel
theorem dL_law_586 : decode cL_law 586 = .ok (.iadd, 1) := by decide +kernel
theorem dL_law_587 : decode cL_law 587 = .ok (.iaload, 1) := by decide +kernel
theorem dL_law_588 : decode cL_law 588 = .ok (.aload_n 0, 1) := by decide +kernel
theorem dL_law_589 : decode cL_law 589 = .ok (.iload_n 3, 1) := by decide +kernel
theorem dL_law_590 : decode cL_law 590 = .ok (.iconst 3, 1) := by decide +kernel
theorem dL_law_591 : decode cL_law 591 = .ok (.iadd, 1) := by decide +kernel
theorem dL_law_592 : decode cL_law 592 = .ok (.iaload, 1) := by decide +kernel
theorem dL_law_593 : decode cL_law 593 = .ok (.invokevirtual 67, 3) := by decide +kernel
theorem dL_law_596 : decode cL_law 596 = .ok (.if_icmp .eq 440, 3) := by decide +kernel
theorem dL_law_599 : decode cL_law 599 = .ok (.iconst 0, 1) := by decide +kernel
theorem dL_law_600 : decode cL_law 600 = .ok (.ireturn, 1) := by decide +kernel
theorem dL_law_601 : decode cL_law 601 = .ok (.aload_n 1, 1) := by decide +kernel
theorem dL_law_602 : decode cL_law 602 = .ok (.aload_n 0, 1) := by decide +kernel
theorem dL_law_603 : decode cL_law 603 = .ok (.iload_n 3, 1) := by decide +kernel
theorem dL_law_604 : decode cL_law 604 = .ok (.iconst 1, 1) := by decide +kernel
theorem dL_law_605 : decode cL_law 605 = .ok (.iadd, 1) := by decide +kernel
theorem dL_law_606 : decode cL_law 606 = .ok (.iaload, 1) := by decide +kernel
theorem dL_law_607 : decode cL_law 607 = .ok (.aload_n 0, 1) := by decide +kernel
theorem dL_law_608 : decode cL_law 608 = .ok (.iload_n 3, 1) := by decide +kernel
theorem dL_law_609 : decode cL_law 609 = .ok (.iconst 2, 1) := by decide +kernel
theorem dL_law_610 : decode cL_law 610 = .ok (.iadd, 1) := by decide +kernel
theorem dL_law_611 : decode cL_law 611 = .ok (.iaload, 1) := by decide +kernel
theorem dL_law_612 : decode cL_law 612 = .ok (.aload_n 0, 1) := by decide +kernel
theorem dL_law_613 : decode cL_law 613 = .ok (.iload_n 3, 1) := by decide +kernel
theorem dL_law_614 : decode cL_law 614 = .ok (.iconst 3, 1) := by decide +kernel
theorem dL_law_615 : decode cL_law 615 = .ok (.iadd, 1) := by decide +kernel
theorem dL_law_616 : decode cL_law 616 = .ok (.iaload, 1) := by decide +kernel
theorem dL_law_617 : decode cL_law 617 = .ok (.invokevirtual 68, 3) := by decide +kernel
theorem dL_law_620 : decode cL_law 620 = .ok (.aload_n 2, 1) := by decide +kernel
theorem dL_law_621 : decode cL_law 621 = .ok (.aload_n 0, 1) := by decide +kernel
theorem dL_law_622 : decode cL_law 622 = .ok (.iload_n 3, 1) := by decide +kernel
theorem dL_law_623 : decode cL_law 623 = .ok (.iconst 1, 1) := by decide +kernel
theorem dL_law_624 : decode cL_law 624 = .ok (.iadd, 1) := by decide +kernel
theorem dL_law_625 : decode cL_law 625 = .ok (.iaload, 1) := by decide +kernel
theorem dL_law_626 : decode cL_law 626 = .ok (.aload_n 0, 1) := by decide +kernel
theorem dL_law_627 : decode cL_law 627 = .ok (.iload_n 3, 1) := by decide +kernel
theorem dL_law_628 : decode cL_law 628 = .ok (.iconst 2, 1) := by decide +kernel
theorem dL_law_629 : decode cL_law 629 = .ok (.iadd, 1) := by decide +kernel
theorem dL_law_630 : decode cL_law 630 = .ok (.iaload, 1) := by decide +kernel
theorem dL_law_631 : decode cL_law 631 = .ok (.aload_n 0, 1) := by decide +kernel
theorem dL_law_632 : decode cL_law 632 = .ok (.iload_n 3, 1) := by decide +kernel
theorem dL_law_633 : decode cL_law 633 = .ok (.iconst 3, 1) := by decide +kernel
theorem dL_law_634 : decode cL_law 634 = .ok (.iadd, 1) := by decide +kernel
theorem dL_law_635 : decode cL_law 635 = .ok (.iaload, 1) := by decide +kernel
theorem dL_law_636 : decode cL_law 636 = .ok (.invokevirtual 71, 3) := by decide +kernel
theorem dL_law_639 : decode cL_law 639 = .ok (.if_icmp .eq 397, 3) := by decide +kernel
theorem dL_law_642 : decode cL_law 642 = .ok (.iconst 0, 1) := by decide +kernel
theorem dL_law_643 : decode cL_law 643 = .ok (.ireturn, 1) := by decide +kernel
theorem dL_law_644 : decode cL_law 644 = .ok (.aload_n 1, 1) := by decide +kernel
theorem dL_law_645 : decode cL_law 645 = .ok (.aload_n 0, 1) := by decide +kernel
theorem dL_law_646 : decode cL_law 646 = .ok (.iload_n 3, 1) := by decide +kernel
theorem dL_law_647 : decode cL_law 647 = .ok (.iconst 1, 1) := by decide +kernel
theorem dL_law_648 : decode cL_law 648 = .ok (.iadd, 1) := by decide +kernel
theorem dL_law_649 : decode cL_law 649 = .ok (.iaload, 1) := by decide +kernel
theorem dL_law_650 : decode cL_law 650 = .ok (.invokevirtual 72, 3) := by decide +kernel
theorem dL_law_653 : decode cL_law 653 = .ok (.aload_n 2, 1) := by decide +kernel
theorem dL_law_654 : decode cL_law 654 = .ok (.aload_n 0, 1) := by decide +kernel
theorem dL_law_655 : decode cL_law 655 = .ok (.iload_n 3, 1) := by decide +kernel
theorem dL_law_656 : decode cL_law 656 = .ok (.iconst 1, 1) := by decide +kernel
theorem dL_law_657 : decode cL_law 657 = .ok (.iadd, 1) := by decide +kernel
theorem dL_law_658 : decode cL_law 658 = .ok (.iaload, 1) := by decide +kernel
theorem dL_law_659 : decode cL_law 659 = .ok (.invokevirtual 75, 3) := by decide +kernel
theorem dL_law_662 : decode cL_law 662 = .ok (.if_icmp .eq 374, 3) := by decide +kernel
theorem dL_law_665 : decode cL_law 665 = .ok (.iconst 0, 1) := by decide +kernel
theorem dL_law_666 : decode cL_law 666 = .ok (.ireturn, 1) := by decide +kernel
theorem dL_law_667 : decode cL_law 667 = .ok (.aload_n 1, 1) := by decide +kernel
theorem dL_law_668 : decode cL_law 668 = .ok (.aload_n 0, 1) := by decide +kernel
theorem dL_law_669 : decode cL_law 669 = .ok (.iload_n 3, 1) := by decide +kernel
theorem dL_law_670 : decode cL_law 670 = .ok (.iconst 1, 1) := by decide +kernel
theorem dL_law_671 : decode cL_law 671 = .ok (.iadd, 1) := by decide +kernel
theorem dL_law_672 : decode cL_law 672 = .ok (.iaload, 1) := by decide +kernel
theorem dL_law_673 : decode cL_law 673 = .ok (.aload_n 0, 1) := by decide +kernel
theorem dL_law_674 : decode cL_law 674 = .ok (.iload_n 3, 1) := by decide +kernel
theorem dL_law_675 : decode cL_law 675 = .ok (.iconst 2, 1) := by decide +kernel
theorem dL_law_676 : decode cL_law 676 = .ok (.iadd, 1) := by decide +kernel
theorem dL_law_677 : decode cL_law 677 = .ok (.iaload, 1) := by decide +kernel
theorem dL_law_678 : decode cL_law 678 = .ok (.invokevirtual 76, 3) := by decide +kernel
theorem dL_law_681 : decode cL_law 681 = .ok (.aload_n 2, 1) := by decide +kernel
theorem dL_law_682 : decode cL_law 682 = .ok (.aload_n 0, 1) := by decide +kernel
theorem dL_law_683 : decode cL_law 683 = .ok (.iload_n 3, 1) := by decide +kernel
theorem dL_law_684 : decode cL_law 684 = .ok (.iconst 1, 1) := by decide +kernel
theorem dL_law_685 : decode cL_law 685 = .ok (.iadd, 1) := by decide +kernel
theorem dL_law_686 : decode cL_law 686 = .ok (.iaload, 1) := by decide +kernel
theorem dL_law_687 : decode cL_law 687 = .ok (.aload_n 0, 1) := by decide +kernel
theorem dL_law_688 : decode cL_law 688 = .ok (.iload_n 3, 1) := by decide +kernel
theorem dL_law_689 : decode cL_law 689 = .ok (.iconst 2, 1) := by decide +kernel
theorem dL_law_690 : decode cL_law 690 = .ok (.iadd, 1) := by decide +kernel
theorem dL_law_691 : decode cL_law 691 = .ok (.iaload, 1) := by decide +kernel
theorem dL_law_692 : decode cL_law 692 = .ok (.invokevirtual 79, 3) := by decide +kernel
theorem dL_law_695 : decode cL_law 695 = .ok (.if_icmp .eq 341, 3) := by decide +kernel
theorem dL_law_698 : decode cL_law 698 = .ok (.iconst 0, 1) := by decide +kernel
theorem dL_law_699 : decode cL_law 699 = .ok (.ireturn, 1) := by decide +kernel
theorem dL_law_700 : decode cL_law 700 = .ok (.aload_n 1, 1) := by decide +kernel
theorem dL_law_701 : decode cL_law 701 = .ok (.aload_n 0, 1) := by decide +kernel
theorem dL_law_702 : decode cL_law 702 = .ok (.iload_n 3, 1) := by decide +kernel
theorem dL_law_703 : decode cL_law 703 = .ok (.iconst 1, 1) := by decide +kernel
theorem dL_law_704 : decode cL_law 704 = .ok (.iadd, 1) := by decide +kernel
theorem dL_law_705 : decode cL_law 705 = .ok (.iaload, 1) := by decide +kernel
theorem dL_law_706 : decode cL_law 706 = .ok (.invokevirtual 80, 3) := by decide +kernel
theorem dL_law_709 : decode cL_law 709 = .ok (.aload_n 2, 1) := by decide +kernel
theorem dL_law_710 : decode cL_law 710 = .ok (.aload_n 0, 1) := by decide +kernel
theorem dL_law_711 : decode cL_law 711 = .ok (.iload_n 3, 1) := by decide +kernel
theorem dL_law_712 : decode cL_law 712 = .ok (.iconst 1, 1) := by decide +kernel
theorem dL_law_713 : decode cL_law 713 = .ok (.iadd, 1) := by decide +kernel
theorem dL_law_714 : decode cL_law 714 = .ok (.iaload, 1) := by decide +kernel
theorem dL_law_715 : decode cL_law 715 = .ok (.invokevirtual 83, 3) := by decide +kernel
theorem dL_law_718 : decode cL_law 718 = .ok (.if_icmp .eq 318, 3) := by decide +kernel
theorem dL_law_721 : decode cL_law 721 = .ok (.iconst 0, 1) := by decide +kernel
theorem dL_law_722 : decode cL_law 722 = .ok (.ireturn, 1) := by decide +kernel
theorem dL_law_723 : decode cL_law 723 = .ok (.aload_n 1, 1) := by decide +kernel
theorem dL_law_724 : decode cL_law 724 = .ok (.aload_n 0, 1) := by decide +kernel
theorem dL_law_725 : decode cL_law 725 = .ok (.iload_n 3, 1) := by decide +kernel
theorem dL_law_726 : decode cL_law 726 = .ok (.iconst 1, 1) := by decide +kernel
theorem dL_law_727 : decode cL_law 727 = .ok (.iadd, 1) := by decide +kernel
theorem dL_law_728 : decode cL_law 728 = .ok (.iaload, 1) := by decide +kernel
theorem dL_law_729 : decode cL_law 729 = .ok (.aload_n 0, 1) := by decide +kernel
theorem dL_law_730 : decode cL_law 730 = .ok (.iload_n 3, 1) := by decide +kernel
theorem dL_law_731 : decode cL_law 731 = .ok (.iconst 2, 1) := by decide +kernel
theorem dL_law_732 : decode cL_law 732 = .ok (.iadd, 1) := by decide +kernel
theorem dL_law_733 : decode cL_law 733 = .ok (.iaload, 1) := by decide +kernel
theorem dL_law_734 : decode cL_law 734 = .ok (.invokevirtual 84, 3) := by decide +kernel
theorem dL_law_737 : decode cL_law 737 = .ok (.aload_n 2, 1) := by decide +kernel
theorem dL_law_738 : decode cL_law 738 = .ok (.aload_n 0, 1) := by decide +kernel
theorem dL_law_739 : decode cL_law 739 = .ok (.iload_n 3, 1) := by decide +kernel
theorem dL_law_740 : decode cL_law 740 = .ok (.iconst 1, 1) := by decide +kernel
theorem dL_law_741 : decode cL_law 741 = .ok (.iadd, 1) := by decide +kernel
theorem dL_law_742 : decode cL_law 742 = .ok (.iaload, 1) := by decide +kernel
theorem dL_law_743 : decode cL_law 743 = .ok (.aload_n 0, 1) := by decide +kernel
theorem dL_law_744 : decode cL_law 744 = .ok (.iload_n 3, 1) := by decide +kernel
theorem dL_law_745 : decode cL_law 745 = .ok (.iconst 2, 1) := by decide +kernel
theorem dL_law_746 : decode cL_law 746 = .ok (.iadd, 1) := by decide +kernel
theorem dL_law_747 : decode cL_law 747 = .ok (.iaload, 1) := by decide +kernel
theorem dL_law_748 : decode cL_law 748 = .ok (.invokevirtual 87, 3) := by decide +kernel
theorem dL_law_751 : decode cL_law 751 = .ok (.if_icmp .eq 285, 3) := by decide +kernel
theorem dL_law_754 : decode cL_law 754 = .ok (.iconst 0, 1) := by decide +kernel
theorem dL_law_755 : decode cL_law 755 = .ok (.ireturn, 1) := by decide +kernel
theorem dL_law_756 : decode cL_law 756 = .ok (.aload_n 1, 1) := by decide +kernel
theorem dL_law_757 : decode cL_law 757 = .ok (.aload_n 0, 1) := by decide +kernel
theorem dL_law_758 : decode cL_law 758 = .ok (.iload_n 3, 1) := by decide +kernel
theorem dL_law_759 : decode cL_law 759 = .ok (.iconst 1, 1) := by decide +kernel
theorem dL_law_760 : decode cL_law 760 = .ok (.iadd, 1) := by decide +kernel
theorem dL_law_761 : decode cL_law 761 = .ok (.iaload, 1) := by decide +kernel
theorem dL_law_762 : decode cL_law 762 = .ok (.aload_n 0, 1) := by decide +kernel
theorem dL_law_763 : decode cL_law 763 = .ok (.iload_n 3, 1) := by decide +kernel
theorem dL_law_764 : decode cL_law 764 = .ok (.iconst 2, 1) := by decide +kernel
theorem dL_law_765 : decode cL_law 765 = .ok (.iadd, 1) := by decide +kernel
theorem dL_law_766 : decode cL_law 766 = .ok (.iaload, 1) := by decide +kernel
theorem dL_law_767 : decode cL_law 767 = .ok (.aload_n 0, 1) := by decide +kernel
theorem dL_law_768 : decode cL_law 768 = .ok (.iload_n 3, 1) := by decide +kernel
theorem dL_law_769 : decode cL_law 769 = .ok (.iconst 3, 1) := by decide +kernel
theorem dL_law_770 : decode cL_law 770 = .ok (.iadd, 1) := by decide +kernel
theorem dL_law_771 : decode cL_law 771 = .ok (.iaload, 1) := by decide +kernel
theorem dL_law_772 : decode cL_law 772 = .ok (.invokevirtual 88, 3) := by decide +kernel
theorem dL_law_775 : decode cL_law 775 = .ok (.aload_n 2, 1) := by decide +kernel
theorem dL_law_776 : decode cL_law 776 = .ok (.aload_n 0, 1) := by decide +kernel
theorem dL_law_777 : decode cL_law 777 = .ok (.iload_n 3, 1) := by decide +kernel
theorem dL_law_778 : decode cL_law 778 = .ok (.iconst 1, 1) := by decide +kernel
theorem dL_law_779 : decode cL_law 779 = .ok (.iadd, 1) := by decide +kernel
theorem dL_law_780 : decode cL_law 780 = .ok (.iaload, 1) := by decide +kernel
theorem dL_law_781 : decode cL_law 781 = .ok (.aload_n 0, 1) := by decide +kernel
theorem dL_law_782 : decode cL_law 782 = .ok (.iload_n 3, 1) := by decide +kernel
theorem dL_law_783 : decode cL_law 783 = .ok (.iconst 2, 1) := by decide +kernel
theorem dL_law_784 : decode cL_law 784 = .ok (.iadd, 1) := by decide +kernel
theorem dL_law_785 : decode cL_law 785 = .ok (.iaload, 1) := by decide +kernel
theorem dL_law_786 : decode cL_law 786 = .ok (.aload_n 0, 1) := by decide +kernel
theorem dL_law_787 : decode cL_law 787 = .ok (.iload_n 3, 1) := by decide +kernel
theorem dL_law_788 : decode cL_law 788 = .ok (.iconst 3, 1) := by decide +kernel
theorem dL_law_789 : decode cL_law 789 = .ok (.iadd, 1) := by decide +kernel
theorem dL_law_790 : decode cL_law 790 = .ok (.iaload, 1) := by decide +kernel
theorem dL_law_791 : decode cL_law 791 = .ok (.invokevirtual 91, 3) := by decide +kernel
theorem dL_law_794 : decode cL_law 794 = .ok (.if_icmp .eq 242, 3) := by decide +kernel
theorem dL_law_797 : decode cL_law 797 = .ok (.iconst 0, 1) := by decide +kernel
theorem dL_law_798 : decode cL_law 798 = .ok (.ireturn, 1) := by decide +kernel
theorem dL_law_799 : decode cL_law 799 = .ok (.aload_n 1, 1) := by decide +kernel
theorem dL_law_800 : decode cL_law 800 = .ok (.aload_n 0, 1) := by decide +kernel
theorem dL_law_801 : decode cL_law 801 = .ok (.iload_n 3, 1) := by decide +kernel
theorem dL_law_802 : decode cL_law 802 = .ok (.iconst 1, 1) := by decide +kernel
theorem dL_law_803 : decode cL_law 803 = .ok (.iadd, 1) := by decide +kernel
theorem dL_law_804 : decode cL_law 804 = .ok (.iaload, 1) := by decide +kernel
theorem dL_law_805 : decode cL_law 805 = .ok (.invokevirtual 92, 3) := by decide +kernel
theorem dL_law_808 : decode cL_law 808 = .ok (.aload_n 2, 1) := by decide +kernel
theorem dL_law_809 : decode cL_law 809 = .ok (.aload_n 0, 1) := by decide +kernel
theorem dL_law_810 : decode cL_law 810 = .ok (.iload_n 3, 1) := by decide +kernel
theorem dL_law_811 : decode cL_law 811 = .ok (.iconst 1, 1) := by decide +kernel
theorem dL_law_812 : decode cL_law 812 = .ok (.iadd, 1) := by decide +kernel
theorem dL_law_813 : decode cL_law 813 = .ok (.iaload, 1) := by decide +kernel
theorem dL_law_814 : decode cL_law 814 = .ok (.invokevirtual 95, 3) := by decide +kernel
theorem dL_law_817 : decode cL_law 817 = .ok (.if_icmp .eq 219, 3) := by decide +kernel
theorem dL_law_820 : decode cL_law 820 = .ok (.iconst 0, 1) := by decide +kernel
theorem dL_law_821 : decode cL_law 821 = .ok (.ireturn, 1) := by decide +kernel
theorem dL_law_822 : decode cL_law 822 = .ok (.aload_n 1, 1) := by decide +kernel
theorem dL_law_823 : decode cL_law 823 = .ok (.aload_n 0, 1) := by decide +kernel
theorem dL_law_824 : decode cL_law 824 = .ok (.iload_n 3, 1) := by decide +kernel
theorem dL_law_825 : decode cL_law 825 = .ok (.iconst 1, 1) := by decide +kernel
theorem dL_law_826 : decode cL_law 826 = .ok (.iadd, 1) := by decide +kernel
theorem dL_law_827 : decode cL_law 827 = .ok (.iaload, 1) := by decide +kernel
theorem dL_law_828 : decode cL_law 828 = .ok (.aload_n 0, 1) := by decide +kernel
theorem dL_law_829 : decode cL_law 829 = .ok (.iload_n 3, 1) := by decide +kernel
theorem dL_law_830 : decode cL_law 830 = .ok (.iconst 2, 1) := by decide +kernel
theorem dL_law_831 : decode cL_law 831 = .ok (.iadd, 1) := by decide +kernel
theorem dL_law_832 : decode cL_law 832 = .ok (.iaload, 1) := by decide +kernel
theorem dL_law_833 : decode cL_law 833 = .ok (.invokevirtual 96, 3) := by decide +kernel
theorem dL_law_836 : decode cL_law 836 = .ok (.aload_n 2, 1) := by decide +kernel
theorem dL_law_837 : decode cL_law 837 = .ok (.aload_n 0, 1) := by decide +kernel
theorem dL_law_838 : decode cL_law 838 = .ok (.iload_n 3, 1) := by decide +kernel
theorem dL_law_839 : decode cL_law 839 = .ok (.iconst 1, 1) := by decide +kernel
theorem dL_law_840 : decode cL_law 840 = .ok (.iadd, 1) := by decide +kernel
theorem dL_law_841 : decode cL_law 841 = .ok (.iaload, 1) := by decide +kernel
theorem dL_law_842 : decode cL_law 842 = .ok (.aload_n 0, 1) := by decide +kernel
theorem dL_law_843 : decode cL_law 843 = .ok (.iload_n 3, 1) := by decide +kernel
theorem dL_law_844 : decode cL_law 844 = .ok (.iconst 2, 1) := by decide +kernel
theorem dL_law_845 : decode cL_law 845 = .ok (.iadd, 1) := by decide +kernel
theorem dL_law_846 : decode cL_law 846 = .ok (.iaload, 1) := by decide +kernel
theorem dL_law_847 : decode cL_law 847 = .ok (.invokevirtual 99, 3) := by decide +kernel
theorem dL_law_850 : decode cL_law 850 = .ok (.if_icmp .eq 186, 3) := by decide +kernel
theorem dL_law_853 : decode cL_law 853 = .ok (.iconst 0, 1) := by decide +kernel
theorem dL_law_854 : decode cL_law 854 = .ok (.ireturn, 1) := by decide +kernel
theorem dL_law_855 : decode cL_law 855 = .ok (.aload_n 1, 1) := by decide +kernel
theorem dL_law_856 : decode cL_law 856 = .ok (.aload_n 0, 1) := by decide +kernel
theorem dL_law_857 : decode cL_law 857 = .ok (.iload_n 3, 1) := by decide +kernel
theorem dL_law_858 : decode cL_law 858 = .ok (.iconst 1, 1) := by decide +kernel
theorem dL_law_859 : decode cL_law 859 = .ok (.iadd, 1) := by decide +kernel
theorem dL_law_860 : decode cL_law 860 = .ok (.iaload, 1) := by decide +kernel
theorem dL_law_861 : decode cL_law 861 = .ok (.aload_n 0, 1) := by decide +kernel
theorem dL_law_862 : decode cL_law 862 = .ok (.iload_n 3, 1) := by decide +kernel
theorem dL_law_863 : decode cL_law 863 = .ok (.iconst 2, 1) := by decide +kernel
theorem dL_law_864 : decode cL_law 864 = .ok (.iadd, 1) := by decide +kernel
theorem dL_law_865 : decode cL_law 865 = .ok (.iaload, 1) := by decide +kernel
theorem dL_law_866 : decode cL_law 866 = .ok (.invokevirtual 100, 3) := by decide +kernel
theorem dL_law_869 : decode cL_law 869 = .ok (.aload_n 2, 1) := by decide +kernel
theorem dL_law_870 : decode cL_law 870 = .ok (.aload_n 0, 1) := by decide +kernel
theorem dL_law_871 : decode cL_law 871 = .ok (.iload_n 3, 1) := by decide +kernel
theorem dL_law_872 : decode cL_law 872 = .ok (.iconst 1, 1) := by decide +kernel
theorem dL_law_873 : decode cL_law 873 = .ok (.iadd, 1) := by decide +kernel
theorem dL_law_874 : decode cL_law 874 = .ok (.iaload, 1) := by decide +kernel
theorem dL_law_875 : decode cL_law 875 = .ok (.aload_n 0, 1) := by decide +kernel
theorem dL_law_876 : decode cL_law 876 = .ok (.iload_n 3, 1) := by decide +kernel
theorem dL_law_877 : decode cL_law 877 = .ok (.iconst 2, 1) := by decide +kernel
theorem dL_law_878 : decode cL_law 878 = .ok (.iadd, 1) := by decide +kernel
theorem dL_law_879 : decode cL_law 879 = .ok (.iaload, 1) := by decide +kernel
theorem dL_law_880 : decode cL_law 880 = .ok (.invokevirtual 103, 3) := by decide +kernel
theorem dL_law_883 : decode cL_law 883 = .ok (.if_icmp .eq 153, 3) := by decide +kernel
theorem dL_law_886 : decode cL_law 886 = .ok (.iconst 0, 1) := by decide +kernel
theorem dL_law_887 : decode cL_law 887 = .ok (.ireturn, 1) := by decide +kernel
theorem dL_law_888 : decode cL_law 888 = .ok (.aload_n 1, 1) := by decide +kernel
theorem dL_law_889 : decode cL_law 889 = .ok (.aload_n 0, 1) := by decide +kernel
theorem dL_law_890 : decode cL_law 890 = .ok (.iload_n 3, 1) := by decide +kernel
theorem dL_law_891 : decode cL_law 891 = .ok (.iconst 1, 1) := by decide +kernel
theorem dL_law_892 : decode cL_law 892 = .ok (.iadd, 1) := by decide +kernel
theorem dL_law_893 : decode cL_law 893 = .ok (.iaload, 1) := by decide +kernel
theorem dL_law_894 : decode cL_law 894 = .ok (.invokevirtual 104, 3) := by decide +kernel
theorem dL_law_897 : decode cL_law 897 = .ok (.aload_n 2, 1) := by decide +kernel
theorem dL_law_898 : decode cL_law 898 = .ok (.aload_n 0, 1) := by decide +kernel
theorem dL_law_899 : decode cL_law 899 = .ok (.iload_n 3, 1) := by decide +kernel
theorem dL_law_900 : decode cL_law 900 = .ok (.iconst 1, 1) := by decide +kernel
theorem dL_law_901 : decode cL_law 901 = .ok (.iadd, 1) := by decide +kernel
theorem dL_law_902 : decode cL_law 902 = .ok (.iaload, 1) := by decide +kernel
theorem dL_law_903 : decode cL_law 903 = .ok (.invokevirtual 107, 3) := by decide +kernel
theorem dL_law_906 : decode cL_law 906 = .ok (.if_icmp .eq 130, 3) := by decide +kernel
theorem dL_law_909 : decode cL_law 909 = .ok (.iconst 0, 1) := by decide +kernel
theorem dL_law_910 : decode cL_law 910 = .ok (.ireturn, 1) := by decide +kernel
theorem dL_law_911 : decode cL_law 911 = .ok (.aload_n 1, 1) := by decide +kernel
theorem dL_law_912 : decode cL_law 912 = .ok (.aload_n 0, 1) := by decide +kernel
theorem dL_law_913 : decode cL_law 913 = .ok (.iload_n 3, 1) := by decide +kernel
theorem dL_law_914 : decode cL_law 914 = .ok (.iconst 1, 1) := by decide +kernel
theorem dL_law_915 : decode cL_law 915 = .ok (.iadd, 1) := by decide +kernel
theorem dL_law_916 : decode cL_law 916 = .ok (.iaload, 1) := by decide +kernel
theorem dL_law_917 : decode cL_law 917 = .ok (.invokevirtual 108, 3) := by decide +kernel
theorem dL_law_920 : decode cL_law 920 = .ok (.aload_n 2, 1) := by decide +kernel
theorem dL_law_921 : decode cL_law 921 = .ok (.aload_n 0, 1) := by decide +kernel
theorem dL_law_922 : decode cL_law 922 = .ok (.iload_n 3, 1) := by decide +kernel
theorem dL_law_923 : decode cL_law 923 = .ok (.iconst 1, 1) := by decide +kernel
theorem dL_law_924 : decode cL_law 924 = .ok (.iadd, 1) := by decide +kernel
theorem dL_law_925 : decode cL_law 925 = .ok (.iaload, 1) := by decide +kernel
theorem dL_law_926 : decode cL_law 926 = .ok (.invokevirtual 111, 3) := by decide +kernel
theorem dL_law_929 : decode cL_law 929 = .ok (.if_icmp .eq 107, 3) := by decide +kernel
theorem dL_law_932 : decode cL_law 932 = .ok (.iconst 0, 1) := by decide +kernel
theorem dL_law_933 : decode cL_law 933 = .ok (.ireturn, 1) := by decide +kernel
theorem dL_law_934 : decode cL_law 934 = .ok (.aload_n 1, 1) := by decide +kernel
theorem dL_law_935 : decode cL_law 935 = .ok (.invokevirtual 112, 3) := by decide +kernel
theorem dL_law_938 : decode cL_law 938 = .ok (.aload_n 2, 1) := by decide +kernel
theorem dL_law_939 : decode cL_law 939 = .ok (.invokevirtual 116, 3) := by decide +kernel
theorem dL_law_942 : decode cL_law 942 = .ok (.if_icmp .eq 94, 3) := by decide +kernel
theorem dL_law_945 : decode cL_law 945 = .ok (.iconst 0, 1) := by decide +kernel
theorem dL_law_946 : decode cL_law 946 = .ok (.ireturn, 1) := by decide +kernel
theorem dL_law_947 : decode cL_law 947 = .ok (.aload_n 1, 1) := by decide +kernel
theorem dL_law_948 : decode cL_law 948 = .ok (.invokevirtual 117, 3) := by decide +kernel
theorem dL_law_951 : decode cL_law 951 = .ok (.aload_n 2, 1) := by decide +kernel
theorem dL_law_952 : decode cL_law 952 = .ok (.invokevirtual 120, 3) := by decide +kernel
theorem dL_law_955 : decode cL_law 955 = .ok (.if_icmp .eq 81, 3) := by decide +kernel
theorem dL_law_958 : decode cL_law 958 = .ok (.iconst 0, 1) := by decide +kernel
theorem dL_law_959 : decode cL_law 959 = .ok (.ireturn, 1) := by decide +kernel
theorem dL_law_960 : decode cL_law 960 = .ok (.aload_n 1, 1) := by decide +kernel
theorem dL_law_961 : decode cL_law 961 = .ok (.aload_n 0, 1) := by decide +kernel
theorem dL_law_962 : decode cL_law 962 = .ok (.iload_n 3, 1) := by decide +kernel
theorem dL_law_963 : decode cL_law 963 = .ok (.iconst 1, 1) := by decide +kernel
theorem dL_law_964 : decode cL_law 964 = .ok (.iadd, 1) := by decide +kernel
theorem dL_law_965 : decode cL_law 965 = .ok (.iaload, 1) := by decide +kernel
theorem dL_law_966 : decode cL_law 966 = .ok (.invokevirtual 121, 3) := by decide +kernel
theorem dL_law_969 : decode cL_law 969 = .ok (.aload_n 2, 1) := by decide +kernel
theorem dL_law_970 : decode cL_law 970 = .ok (.aload_n 0, 1) := by decide +kernel
theorem dL_law_971 : decode cL_law 971 = .ok (.iload_n 3, 1) := by decide +kernel
theorem dL_law_972 : decode cL_law 972 = .ok (.iconst 1, 1) := by decide +kernel
theorem dL_law_973 : decode cL_law 973 = .ok (.iadd, 1) := by decide +kernel
theorem dL_law_974 : decode cL_law 974 = .ok (.iaload, 1) := by decide +kernel
theorem dL_law_975 : decode cL_law 975 = .ok (.invokevirtual 124, 3) := by decide +kernel
theorem dL_law_978 : decode cL_law 978 = .ok (.if_icmp .eq 58, 3) := by decide +kernel
theorem dL_law_981 : decode cL_law 981 = .ok (.iconst 0, 1) := by decide +kernel
theorem dL_law_982 : decode cL_law 982 = .ok (.ireturn, 1) := by decide +kernel
theorem dL_law_983 : decode cL_law 983 = .ok (.aload_n 1, 1) := by decide +kernel
theorem dL_law_984 : decode cL_law 984 = .ok (.invokevirtual 125, 3) := by decide +kernel
theorem dL_law_987 : decode cL_law 987 = .ok (.aload_n 2, 1) := by decide +kernel
theorem dL_law_988 : decode cL_law 988 = .ok (.invokevirtual 128, 3) := by decide +kernel
theorem dL_law_991 : decode cL_law 991 = .ok (.if_icmp .eq 45, 3) := by decide +kernel
theorem dL_law_994 : decode cL_law 994 = .ok (.iconst 0, 1) := by decide +kernel
theorem dL_law_995 : decode cL_law 995 = .ok (.ireturn, 1) := by decide +kernel
theorem dL_law_996 : decode cL_law 996 = .ok (.aload_n 1, 1) := by decide +kernel
theorem dL_law_997 : decode cL_law 997 = .ok (.invokevirtual 129, 3) := by decide +kernel
theorem dL_law_1000 : decode cL_law 1000 = .ok (.aload_n 2, 1) := by decide +kernel
theorem dL_law_1001 : decode cL_law 1001 = .ok (.invokevirtual 132, 3) := by decide +kernel
theorem dL_law_1004 : decode cL_law 1004 = .ok (.if_icmp .eq 32, 3) := by decide +kernel
theorem dL_law_1007 : decode cL_law 1007 = .ok (.iconst 0, 1) := by decide +kernel
theorem dL_law_1008 : decode cL_law 1008 = .ok (.ireturn, 1) := by decide +kernel
theorem dL_law_1009 : decode cL_law 1009 = .ok (.aload_n 1, 1) := by decide +kernel
theorem dL_law_1010 : decode cL_law 1010 = .ok (.invokevirtual 133, 3) := by decide +kernel
theorem dL_law_1013 : decode cL_law 1013 = .ok (.aload_n 2, 1) := by decide +kernel
theorem dL_law_1014 : decode cL_law 1014 = .ok (.invokevirtual 136, 3) := by decide +kernel
theorem dL_law_1017 : decode cL_law 1017 = .ok (.if_icmp .eq 19, 3) := by decide +kernel
theorem dL_law_1020 : decode cL_law 1020 = .ok (.iconst 0, 1) := by decide +kernel
theorem dL_law_1021 : decode cL_law 1021 = .ok (.ireturn, 1) := by decide +kernel
theorem dL_law_1022 : decode cL_law 1022 = .ok (.aload_n 1, 1) := by decide +kernel
theorem dL_law_1023 : decode cL_law 1023 = .ok (.invokevirtual 137, 3) := by decide +kernel
theorem dL_law_1026 : decode cL_law 1026 = .ok (.aload_n 2, 1) := by decide +kernel
theorem dL_law_1027 : decode cL_law 1027 = .ok (.invokevirtual 141, 3) := by decide +kernel
theorem dL_law_1030 : decode cL_law 1030 = .ok (.lcmp, 1) := by decide +kernel
theorem dL_law_1031 : decode cL_law 1031 = .ok (.ifCond .eq 5, 3) := by decide +kernel
theorem dL_law_1034 : decode cL_law 1034 = .ok (.iconst 0, 1) := by decide +kernel
theorem dL_law_1035 : decode cL_law 1035 = .ok (.ireturn, 1) := by decide +kernel
theorem dL_law_1036 : decode cL_law 1036 = .ok (.iinc 3 4, 3) := by decide +kernel
theorem dL_law_1039 : decode cL_law 1039 = .ok (.goto (-1021), 3) := by decide +kernel
theorem dL_law_1042 : decode cL_law 1042 = .ok (.iconst 1, 1) := by decide +kernel
theorem dL_law_1043 : decode cL_law 1043 = .ok (.ireturn, 1) := by decide +kernel
