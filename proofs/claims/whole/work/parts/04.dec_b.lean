theorem dX5_init_0 : decode cX5_init 0 = .ok (.aload_n 0, 1) := by decide +kernel
theorem dX5_init_1 : decode cX5_init 1 = .ok (.invokespecial 3, 3) := by decide +kernel
theorem dX5_init_4 : decode cX5_init 4 = .ok (.aload_n 0, 1) := by decide +kernel
theorem dX5_init_5 : decode cX5_init 5 = .ok (.new 9, 3) := by decide +kernel
theorem dX5_init_8 : decode cX5_init 8 = .ok (.dup, 1) := by decide +kernel
theorem dX5_init_9 : decode cX5_init 9 = .ok (.invokespecial 11, 3) := by decide +kernel
theorem dX5_init_12 : decode cX5_init 12 = .ok (.putfield 12, 3) := by decide +kernel
theorem dX5_init_15 : decode cX5_init 15 = .ok (.aload_n 0, 1) := by decide +kernel
theorem dX5_init_16 : decode cX5_init 16 = .ok (.new 16, 3) := by decide +kernel
theorem dX5_init_19 : decode cX5_init 19 = .ok (.dup, 1) := by decide +kernel
theorem dX5_init_20 : decode cX5_init 20 = .ok (.invokespecial 18, 3) := by decide +kernel
theorem dX5_init_23 : decode cX5_init 23 = .ok (.putfield 19, 3) := by decide +kernel
theorem dX5_init_26 : decode cX5_init 26 = .ok (.aload_n 0, 1) := by decide +kernel
theorem dX5_init_27 : decode cX5_init 27 = .ok (.new 23, 3) := by decide +kernel
theorem dX5_init_30 : decode cX5_init 30 = .ok (.dup, 1) := by decide +kernel
theorem dX5_init_31 : decode cX5_init 31 = .ok (.invokespecial 25, 3) := by decide +kernel
theorem dX5_init_34 : decode cX5_init 34 = .ok (.putfield 26, 3) := by decide +kernel
theorem dX5_init_37 : decode cX5_init 37 = .ok (.aload_n 0, 1) := by decide +kernel
theorem dX5_init_38 : decode cX5_init 38 = .ok (.iconst 2, 1) := by decide +kernel
theorem dX5_init_39 : decode cX5_init 39 = .ok (.anewarray 23, 3) := by decide +kernel
theorem dX5_init_42 : decode cX5_init 42 = .ok (.putfield 30, 3) := by decide +kernel
theorem dX5_init_45 : decode cX5_init 45 = .ok (.aload_n 0, 1) := by decide +kernel
theorem dX5_init_46 : decode cX5_init 46 = .ok (.iconst 2, 1) := by decide +kernel
theorem dX5_init_47 : decode cX5_init 47 = .ok (.newarray .boolean, 2) := by decide +kernel
theorem dX5_init_49 : decode cX5_init 49 = .ok (.putfield 34, 3) := by decide +kernel
theorem dX5_init_52 : decode cX5_init 52 = .ok (.aload_n 0, 1) := by decide +kernel
theorem dX5_init_53 : decode cX5_init 53 = .ok (.new 38, 3) := by decide +kernel
theorem dX5_init_56 : decode cX5_init 56 = .ok (.dup, 1) := by decide +kernel
theorem dX5_init_57 : decode cX5_init 57 = .ok (.invokespecial 40, 3) := by decide +kernel
theorem dX5_init_60 : decode cX5_init 60 = .ok (.putfield 41, 3) := by decide +kernel
theorem dX5_init_63 : decode cX5_init 63 = .ok (.aload_n 0, 1) := by decide +kernel
theorem dX5_init_64 : decode cX5_init 64 = .ok (.bipush 6, 2) := by decide +kernel
theorem dX5_init_66 : decode cX5_init 66 = .ok (.newarray .int, 2) := by decide +kernel
theorem dX5_init_68 : decode cX5_init 68 = .ok (.putfield 45, 3) := by decide +kernel
theorem dX5_init_71 : decode cX5_init 71 = .ok (.aload_n 0, 1) := by decide +kernel
theorem dX5_init_72 : decode cX5_init 72 = .ok (.bipush 6, 2) := by decide +kernel
theorem dX5_init_74 : decode cX5_init 74 = .ok (.newarray .int, 2) := by decide +kernel
theorem dX5_init_76 : decode cX5_init 76 = .ok (.putfield 49, 3) := by decide +kernel
theorem dX5_init_79 : decode cX5_init 79 = .ok (.aload_n 0, 1) := by decide +kernel
theorem dX5_init_80 : decode cX5_init 80 = .ok (.iconst 0, 1) := by decide +kernel
theorem dX5_init_81 : decode cX5_init 81 = .ok (.putfield 52, 3) := by decide +kernel
theorem dX5_init_84 : decode cX5_init 84 = .ok (.aload_n 0, 1) := by decide +kernel
theorem dX5_init_85 : decode cX5_init 85 = .ok (.lconst 0, 1) := by decide +kernel
theorem dX5_init_86 : decode cX5_init 86 = .ok (.putfield 56, 3) := by decide +kernel
theorem dX5_init_89 : decode cX5_init 89 = .ok (.iconst 0, 1) := by decide +kernel
theorem dX5_init_90 : decode cX5_init 90 = .ok (.istore_n 1, 1) := by decide +kernel
theorem dX5_init_91 : decode cX5_init 91 = .ok (.iload_n 1, 1) := by decide +kernel
theorem dX5_init_92 : decode cX5_init 92 = .ok (.iconst 2, 1) := by decide +kernel
theorem dX5_init_93 : decode cX5_init 93 = .ok (.if_icmp .ge 22, 3) := by decide +kernel
theorem dX5_init_96 : decode cX5_init 96 = .ok (.aload_n 0, 1) := by decide +kernel
theorem dX5_init_97 : decode cX5_init 97 = .ok (.getfield 30, 3) := by decide +kernel
theorem dX5_init_100 : decode cX5_init 100 = .ok (.iload_n 1, 1) := by decide +kernel
theorem dX5_init_101 : decode cX5_init 101 = .ok (.new 23, 3) := by decide +kernel
theorem dX5_init_104 : decode cX5_init 104 = .ok (.dup, 1) := by decide +kernel
theorem dX5_init_105 : decode cX5_init 105 = .ok (.invokespecial 25, 3) := by decide +kernel
theorem dX5_init_108 : decode cX5_init 108 = .ok (.aastore, 1) := by decide +kernel
theorem dX5_init_109 : decode cX5_init 109 = .ok (.iinc 1 1, 3) := by decide +kernel
theorem dX5_init_112 : decode cX5_init 112 = .ok (.goto (-21), 3) := by decide +kernel
theorem dX5_init_115 : decode cX5_init 115 = .ok (.return_, 1) := by decide +kernel
theorem dX5_type_0 : decode cX5_type 0 = .ok (.iload_n 1, 1) := by decide +kernel
theorem dX5_type_1 : decode cX5_type 1 = .ok (.iconst 0, 1) := by decide +kernel
theorem dX5_type_2 : decode cX5_type 2 = .ok (.sipush 255, 3) := by decide +kernel
theorem dX5_type_5 : decode cX5_type 5 = .ok (.invokestatic 60, 3) := by decide +kernel
theorem dX5_type_8 : decode cX5_type 8 = .ok (.ifCond .ne 5, 3) := by decide +kernel
theorem dX5_type_11 : decode cX5_type 11 = .ok (.iconst (-1), 1) := by decide +kernel
theorem dX5_type_12 : decode cX5_type 12 = .ok (.ireturn, 1) := by decide +kernel
theorem dX5_type_13 : decode cX5_type 13 = .ok (.aload_n 0, 1) := by decide +kernel
theorem dX5_type_14 : decode cX5_type 14 = .ok (.getfield 12, 3) := by decide +kernel
theorem dX5_type_17 : decode cX5_type 17 = .ok (.getfield 64, 3) := by decide +kernel
theorem dX5_type_20 : decode cX5_type 20 = .ok (.iload_n 1, 1) := by decide +kernel
theorem dX5_type_21 : decode cX5_type 21 = .ok (.invokevirtual 68, 3) := by decide +kernel
theorem dX5_type_24 : decode cX5_type 24 = .ok (.ifCond .eq 16, 3) := by decide +kernel
theorem dX5_type_27 : decode cX5_type 27 = .ok (.aload_n 0, 1) := by decide +kernel
theorem dX5_type_28 : decode cX5_type 28 = .ok (.getfield 12, 3) := by decide +kernel
theorem dX5_type_31 : decode cX5_type 31 = .ok (.getfield 64, 3) := by decide +kernel
theorem dX5_type_34 : decode cX5_type 34 = .ok (.getfield 74, 3) := by decide +kernel
theorem dX5_type_37 : decode cX5_type 37 = .ok (.goto 5, 3) := by decide +kernel
theorem dX5_type_40 : decode cX5_type 40 = .ok (.bipush (-3), 2) := by decide +kernel
theorem dX5_type_42 : decode cX5_type 42 = .ok (.ireturn, 1) := by decide +kernel
theorem dX5_clear_0 : decode cX5_clear 0 = .ok (.aload_n 0, 1) := by decide +kernel
theorem dX5_clear_1 : decode cX5_clear 1 = .ok (.getfield 12, 3) := by decide +kernel
theorem dX5_clear_4 : decode cX5_clear 4 = .ok (.getfield 64, 3) := by decide +kernel
theorem dX5_clear_7 : decode cX5_clear 7 = .ok (.invokevirtual 77, 3) := by decide +kernel
theorem dX5_clear_10 : decode cX5_clear 10 = .ok (.ireturn, 1) := by decide +kernel
theorem dX5_valley_0 : decode cX5_valley 0 = .ok (.aload_n 0, 1) := by decide +kernel
theorem dX5_valley_1 : decode cX5_valley 1 = .ok (.getfield 12, 3) := by decide +kernel
theorem dX5_valley_4 : decode cX5_valley 4 = .ok (.invokevirtual 81, 3) := by decide +kernel
theorem dX5_valley_7 : decode cX5_valley 7 = .ok (.istore_n 1, 1) := by decide +kernel
theorem dX5_valley_8 : decode cX5_valley 8 = .ok (.iload_n 1, 1) := by decide +kernel
theorem dX5_valley_9 : decode cX5_valley 9 = .ok (.ifCond .ge 5, 3) := by decide +kernel
theorem dX5_valley_12 : decode cX5_valley 12 = .ok (.iload_n 1, 1) := by decide +kernel
theorem dX5_valley_13 : decode cX5_valley 13 = .ok (.ireturn, 1) := by decide +kernel
theorem dX5_valley_14 : decode cX5_valley 14 = .ok (.aload_n 0, 1) := by decide +kernel
theorem dX5_valley_15 : decode cX5_valley 15 = .ok (.aload_n 0, 1) := by decide +kernel
theorem dX5_valley_16 : decode cX5_valley 16 = .ok (.getfield 12, 3) := by decide +kernel
theorem dX5_valley_19 : decode cX5_valley 19 = .ok (.aload_n 0, 1) := by decide +kernel
theorem dX5_valley_20 : decode cX5_valley 20 = .ok (.getfield 19, 3) := by decide +kernel
theorem dX5_valley_23 : decode cX5_valley 23 = .ok (.invokevirtual 84, 3) := by decide +kernel
theorem dX5_valley_26 : decode cX5_valley 26 = .ok (.putfield 19, 3) := by decide +kernel
theorem dX5_valley_29 : decode cX5_valley 29 = .ok (.aload_n 0, 1) := by decide +kernel
theorem dX5_valley_30 : decode cX5_valley 30 = .ok (.getfield 12, 3) := by decide +kernel
theorem dX5_valley_33 : decode cX5_valley 33 = .ok (.getfield 64, 3) := by decide +kernel
theorem dX5_valley_36 : decode cX5_valley 36 = .ok (.invokevirtual 77, 3) := by decide +kernel
theorem dX5_valley_39 : decode cX5_valley 39 = .ok (.pop, 1) := by decide +kernel
theorem dX5_valley_40 : decode cX5_valley 40 = .ok (.aload_n 0, 1) := by decide +kernel
theorem dX5_valley_41 : decode cX5_valley 41 = .ok (.getfield 26, 3) := by decide +kernel
theorem dX5_valley_44 : decode cX5_valley 44 = .ok (.invokevirtual 88, 3) := by decide +kernel
theorem dX5_valley_47 : decode cX5_valley 47 = .ok (.aload_n 0, 1) := by decide +kernel
theorem dX5_valley_48 : decode cX5_valley 48 = .ok (.iconst 0, 1) := by decide +kernel
theorem dX5_valley_49 : decode cX5_valley 49 = .ok (.putfield 52, 3) := by decide +kernel
theorem dX5_valley_52 : decode cX5_valley 52 = .ok (.iconst 0, 1) := by decide +kernel
theorem dX5_valley_53 : decode cX5_valley 53 = .ok (.istore_n 2, 1) := by decide +kernel
theorem dX5_valley_54 : decode cX5_valley 54 = .ok (.iload_n 2, 1) := by decide +kernel
theorem dX5_valley_55 : decode cX5_valley 55 = .ok (.iconst 2, 1) := by decide +kernel
theorem dX5_valley_56 : decode cX5_valley 56 = .ok (.if_icmp .ge 16, 3) := by decide +kernel
theorem dX5_valley_59 : decode cX5_valley 59 = .ok (.aload_n 0, 1) := by decide +kernel
theorem dX5_valley_60 : decode cX5_valley 60 = .ok (.getfield 34, 3) := by decide +kernel
theorem dX5_valley_63 : decode cX5_valley 63 = .ok (.iload_n 2, 1) := by decide +kernel
theorem dX5_valley_64 : decode cX5_valley 64 = .ok (.iconst 0, 1) := by decide +kernel
theorem dX5_valley_65 : decode cX5_valley 65 = .ok (.bastore, 1) := by decide +kernel
theorem dX5_valley_66 : decode cX5_valley 66 = .ok (.iinc 2 1, 3) := by decide +kernel
theorem dX5_valley_69 : decode cX5_valley 69 = .ok (.goto (-15), 3) := by decide +kernel
theorem dX5_valley_72 : decode cX5_valley 72 = .ok (.iload_n 1, 1) := by decide +kernel
theorem dX5_valley_73 : decode cX5_valley 73 = .ok (.ireturn, 1) := by decide +kernel
theorem dX5_day_0 : decode cX5_day 0 = .ok (.aload_n 0, 1) := by decide +kernel
theorem dX5_day_1 : decode cX5_day 1 = .ok (.iload_n 1, 1) := by decide +kernel
theorem dX5_day_2 : decode cX5_day 2 = .ok (.invokevirtual 91, 3) := by decide +kernel
theorem dX5_day_5 : decode cX5_day 5 = .ok (.ifCond .ne 5, 3) := by decide +kernel
theorem dX5_day_8 : decode cX5_day 8 = .ok (.iconst (-1), 1) := by decide +kernel
theorem dX5_day_9 : decode cX5_day 9 = .ok (.ireturn, 1) := by decide +kernel
theorem dX5_day_10 : decode cX5_day 10 = .ok (.iload_n 2, 1) := by decide +kernel
theorem dX5_day_11 : decode cX5_day 11 = .ok (.tableswitch 67 0 3 #[29, 39, 49, 55], 29) := by decide +kernel
theorem dX5_day_40 : decode cX5_day 40 = .ok (.aload_n 0, 1) := by decide +kernel
theorem dX5_day_41 : decode cX5_day 41 = .ok (.getfield 19, 3) := by decide +kernel
theorem dX5_day_44 : decode cX5_day 44 = .ok (.getfield 94, 3) := by decide +kernel
theorem dX5_day_47 : decode cX5_day 47 = .ok (.iload_n 1, 1) := by decide +kernel
theorem dX5_day_48 : decode cX5_day 48 = .ok (.iaload, 1) := by decide +kernel
theorem dX5_day_49 : decode cX5_day 49 = .ok (.ireturn, 1) := by decide +kernel
theorem dX5_day_50 : decode cX5_day 50 = .ok (.aload_n 0, 1) := by decide +kernel
theorem dX5_day_51 : decode cX5_day 51 = .ok (.getfield 19, 3) := by decide +kernel
theorem dX5_day_54 : decode cX5_day 54 = .ok (.getfield 97, 3) := by decide +kernel
theorem dX5_day_57 : decode cX5_day 57 = .ok (.iload_n 1, 1) := by decide +kernel
theorem dX5_day_58 : decode cX5_day 58 = .ok (.iaload, 1) := by decide +kernel
theorem dX5_day_59 : decode cX5_day 59 = .ok (.ireturn, 1) := by decide +kernel
theorem dX5_day_60 : decode cX5_day 60 = .ok (.aload_n 0, 1) := by decide +kernel
theorem dX5_day_61 : decode cX5_day 61 = .ok (.iload_n 1, 1) := by decide +kernel
theorem dX5_day_62 : decode cX5_day 62 = .ok (.invokevirtual 100, 3) := by decide +kernel
theorem dX5_day_65 : decode cX5_day 65 = .ok (.ireturn, 1) := by decide +kernel
theorem dX5_day_66 : decode cX5_day 66 = .ok (.aload_n 0, 1) := by decide +kernel
theorem dX5_day_67 : decode cX5_day 67 = .ok (.getfield 26, 3) := by decide +kernel
theorem dX5_day_70 : decode cX5_day 70 = .ok (.getfield 104, 3) := by decide +kernel
theorem dX5_day_73 : decode cX5_day 73 = .ok (.iload_n 1, 1) := by decide +kernel
theorem dX5_day_74 : decode cX5_day 74 = .ok (.invokevirtual 107, 3) := by decide +kernel
theorem dX5_day_77 : decode cX5_day 77 = .ok (.ireturn, 1) := by decide +kernel
theorem dX5_day_78 : decode cX5_day 78 = .ok (.iconst (-1), 1) := by decide +kernel
theorem dX5_day_79 : decode cX5_day 79 = .ok (.ireturn, 1) := by decide +kernel
theorem dX5_crop_0 : decode cX5_crop 0 = .ok (.aload_n 0, 1) := by decide +kernel
theorem dX5_crop_1 : decode cX5_crop 1 = .ok (.iload_n 1, 1) := by decide +kernel
theorem dX5_crop_2 : decode cX5_crop 2 = .ok (.invokevirtual 110, 3) := by decide +kernel
theorem dX5_crop_5 : decode cX5_crop 5 = .ok (.ifCond .ne 5, 3) := by decide +kernel
theorem dX5_crop_8 : decode cX5_crop 8 = .ok (.iconst (-1), 1) := by decide +kernel
theorem dX5_crop_9 : decode cX5_crop 9 = .ok (.ireturn, 1) := by decide +kernel
theorem dX5_crop_10 : decode cX5_crop 10 = .ok (.iload_n 2, 1) := by decide +kernel
theorem dX5_crop_11 : decode cX5_crop 11 = .ok (.tableswitch 90 0 4 #[33, 43, 53, 63, 77], 33) := by decide +kernel
theorem dX5_crop_44 : decode cX5_crop 44 = .ok (.aload_n 0, 1) := by decide +kernel
theorem dX5_crop_45 : decode cX5_crop 45 = .ok (.getfield 19, 3) := by decide +kernel
theorem dX5_crop_48 : decode cX5_crop 48 = .ok (.getfield 113, 3) := by decide +kernel
theorem dX5_crop_51 : decode cX5_crop 51 = .ok (.iload_n 1, 1) := by decide +kernel
theorem dX5_crop_52 : decode cX5_crop 52 = .ok (.iaload, 1) := by decide +kernel
theorem dX5_crop_53 : decode cX5_crop 53 = .ok (.ireturn, 1) := by decide +kernel
theorem dX5_crop_54 : decode cX5_crop 54 = .ok (.aload_n 0, 1) := by decide +kernel
theorem dX5_crop_55 : decode cX5_crop 55 = .ok (.getfield 19, 3) := by decide +kernel
theorem dX5_crop_58 : decode cX5_crop 58 = .ok (.getfield 116, 3) := by decide +kernel
theorem dX5_crop_61 : decode cX5_crop 61 = .ok (.iload_n 1, 1) := by decide +kernel
theorem dX5_crop_62 : decode cX5_crop 62 = .ok (.iaload, 1) := by decide +kernel
theorem dX5_crop_63 : decode cX5_crop 63 = .ok (.ireturn, 1) := by decide +kernel
theorem dX5_crop_64 : decode cX5_crop 64 = .ok (.aload_n 0, 1) := by decide +kernel
theorem dX5_crop_65 : decode cX5_crop 65 = .ok (.getfield 19, 3) := by decide +kernel
theorem dX5_crop_68 : decode cX5_crop 68 = .ok (.getfield 119, 3) := by decide +kernel
theorem dX5_crop_71 : decode cX5_crop 71 = .ok (.iload_n 1, 1) := by decide +kernel
theorem dX5_crop_72 : decode cX5_crop 72 = .ok (.iaload, 1) := by decide +kernel
theorem dX5_crop_73 : decode cX5_crop 73 = .ok (.ireturn, 1) := by decide +kernel
theorem dX5_crop_74 : decode cX5_crop 74 = .ok (.aload_n 0, 1) := by decide +kernel
theorem dX5_crop_75 : decode cX5_crop 75 = .ok (.iload_n 1, 1) := by decide +kernel
theorem dX5_crop_76 : decode cX5_crop 76 = .ok (.invokevirtual 122, 3) := by decide +kernel
theorem dX5_crop_79 : decode cX5_crop 79 = .ok (.ifCond .eq 7, 3) := by decide +kernel
theorem dX5_crop_82 : decode cX5_crop 82 = .ok (.iconst 1, 1) := by decide +kernel
theorem dX5_crop_83 : decode cX5_crop 83 = .ok (.goto 4, 3) := by decide +kernel
theorem dX5_crop_86 : decode cX5_crop 86 = .ok (.iconst 0, 1) := by decide +kernel
theorem dX5_crop_87 : decode cX5_crop 87 = .ok (.ireturn, 1) := by decide +kernel
theorem dX5_crop_88 : decode cX5_crop 88 = .ok (.aload_n 0, 1) := by decide +kernel
theorem dX5_crop_89 : decode cX5_crop 89 = .ok (.getfield 19, 3) := by decide +kernel
theorem dX5_crop_92 : decode cX5_crop 92 = .ok (.iload_n 1, 1) := by decide +kernel
theorem dX5_crop_93 : decode cX5_crop 93 = .ok (.aload_n 0, 1) := by decide +kernel
theorem dX5_crop_94 : decode cX5_crop 94 = .ok (.invokevirtual 125, 3) := by decide +kernel
theorem dX5_crop_97 : decode cX5_crop 97 = .ok (.invokevirtual 128, 3) := by decide +kernel
theorem dX5_crop_100 : decode cX5_crop 100 = .ok (.ireturn, 1) := by decide +kernel
theorem dX5_crop_101 : decode cX5_crop 101 = .ok (.iconst (-1), 1) := by decide +kernel
theorem dX5_crop_102 : decode cX5_crop 102 = .ok (.ireturn, 1) := by decide +kernel
theorem dX5_loan_0 : decode cX5_loan 0 = .ok (.iload_n 1, 1) := by decide +kernel
theorem dX5_loan_1 : decode cX5_loan 1 = .ok (.invokestatic 132, 3) := by decide +kernel
theorem dX5_loan_4 : decode cX5_loan 4 = .ok (.ifCond .eq 12, 3) := by decide +kernel
theorem dX5_loan_7 : decode cX5_loan 7 = .ok (.iload_n 2, 1) := by decide +kernel
theorem dX5_loan_8 : decode cX5_loan 8 = .ok (.iconst 0, 1) := by decide +kernel
theorem dX5_loan_9 : decode cX5_loan 9 = .ok (.iconst 2, 1) := by decide +kernel
theorem dX5_loan_10 : decode cX5_loan 10 = .ok (.invokestatic 60, 3) := by decide +kernel
theorem dX5_loan_13 : decode cX5_loan 13 = .ok (.ifCond .ne 5, 3) := by decide +kernel
theorem dX5_loan_16 : decode cX5_loan 16 = .ok (.iconst (-1), 1) := by decide +kernel
theorem dX5_loan_17 : decode cX5_loan 17 = .ok (.ireturn, 1) := by decide +kernel
theorem dX5_loan_18 : decode cX5_loan 18 = .ok (.aload_n 0, 1) := by decide +kernel
theorem dX5_loan_19 : decode cX5_loan 19 = .ok (.getfield 26, 3) := by decide +kernel
theorem dX5_loan_22 : decode cX5_loan 22 = .ok (.getfield 104, 3) := by decide +kernel
theorem dX5_loan_25 : decode cX5_loan 25 = .ok (.astore_n 3, 1) := by decide +kernel
theorem dX5_loan_26 : decode cX5_loan 26 = .ok (.aload_n 3, 1) := by decide +kernel
theorem dX5_loan_27 : decode cX5_loan 27 = .ok (.iload_n 1, 1) := by decide +kernel
theorem dX5_loan_28 : decode cX5_loan 28 = .ok (.invokevirtual 135, 3) := by decide +kernel
theorem dX5_loan_31 : decode cX5_loan 31 = .ok (.ifCond .eq 6, 3) := by decide +kernel
theorem dX5_loan_34 : decode cX5_loan 34 = .ok (.bipush (-9), 2) := by decide +kernel
theorem dX5_loan_36 : decode cX5_loan 36 = .ok (.ireturn, 1) := by decide +kernel
theorem dX5_loan_37 : decode cX5_loan 37 = .ok (.iload_n 2, 1) := by decide +kernel
theorem dX5_loan_38 : decode cX5_loan 38 = .ok (.lookupswitch 40 #[(0, 26), (1, 33)], 26) := by decide +kernel
theorem dX5_loan_64 : decode cX5_loan 64 = .ok (.aload_n 3, 1) := by decide +kernel
theorem dX5_loan_65 : decode cX5_loan 65 = .ok (.getfield 138, 3) := by decide +kernel
theorem dX5_loan_68 : decode cX5_loan 68 = .ok (.iload_n 1, 1) := by decide +kernel
theorem dX5_loan_69 : decode cX5_loan 69 = .ok (.iaload, 1) := by decide +kernel
theorem dX5_loan_70 : decode cX5_loan 70 = .ok (.ireturn, 1) := by decide +kernel
theorem dX5_loan_71 : decode cX5_loan 71 = .ok (.aload_n 3, 1) := by decide +kernel
theorem dX5_loan_72 : decode cX5_loan 72 = .ok (.getfield 141, 3) := by decide +kernel
theorem dX5_loan_75 : decode cX5_loan 75 = .ok (.iload_n 1, 1) := by decide +kernel
theorem dX5_loan_76 : decode cX5_loan 76 = .ok (.iaload, 1) := by decide +kernel
theorem dX5_loan_77 : decode cX5_loan 77 = .ok (.ireturn, 1) := by decide +kernel
theorem dX5_loan_78 : decode cX5_loan 78 = .ok (.aload_n 3, 1) := by decide +kernel
theorem dX5_loan_79 : decode cX5_loan 79 = .ok (.getfield 144, 3) := by decide +kernel
theorem dX5_loan_82 : decode cX5_loan 82 = .ok (.iload_n 1, 1) := by decide +kernel
theorem dX5_loan_83 : decode cX5_loan 83 = .ok (.iaload, 1) := by decide +kernel
theorem dX5_loan_84 : decode cX5_loan 84 = .ok (.ireturn, 1) := by decide +kernel
theorem dX5_pawns_0 : decode cX5_pawns 0 = .ok (.aload_n 0, 1) := by decide +kernel
theorem dX5_pawns_1 : decode cX5_pawns 1 = .ok (.iload_n 1, 1) := by decide +kernel
theorem dX5_pawns_2 : decode cX5_pawns 2 = .ok (.invokevirtual 91, 3) := by decide +kernel
theorem dX5_pawns_5 : decode cX5_pawns 5 = .ok (.ifCond .eq 13, 3) := by decide +kernel
theorem dX5_pawns_8 : decode cX5_pawns 8 = .ok (.iload_n 2, 1) := by decide +kernel
theorem dX5_pawns_9 : decode cX5_pawns 9 = .ok (.iconst 1, 1) := by decide +kernel
theorem dX5_pawns_10 : decode cX5_pawns 10 = .ok (.bipush 9, 2) := by decide +kernel
theorem dX5_pawns_12 : decode cX5_pawns 12 = .ok (.invokestatic 60, 3) := by decide +kernel
theorem dX5_pawns_15 : decode cX5_pawns 15 = .ok (.ifCond .ne 5, 3) := by decide +kernel
theorem dX5_pawns_18 : decode cX5_pawns 18 = .ok (.iconst (-1), 1) := by decide +kernel
theorem dX5_pawns_19 : decode cX5_pawns 19 = .ok (.ireturn, 1) := by decide +kernel
theorem dX5_pawns_20 : decode cX5_pawns 20 = .ok (.aload_n 0, 1) := by decide +kernel
theorem dX5_pawns_21 : decode cX5_pawns 21 = .ok (.getfield 26, 3) := by decide +kernel
theorem dX5_pawns_24 : decode cX5_pawns 24 = .ok (.getfield 104, 3) := by decide +kernel
theorem dX5_pawns_27 : decode cX5_pawns 27 = .ok (.invokevirtual 147, 3) := by decide +kernel
theorem dX5_pawns_30 : decode cX5_pawns 30 = .ok (.istore_n 3, 1) := by decide +kernel
theorem dX5_pawns_31 : decode cX5_pawns 31 = .ok (.aload_n 0, 1) := by decide +kernel
theorem dX5_pawns_32 : decode cX5_pawns 32 = .ok (.iload_n 1, 1) := by decide +kernel
theorem dX5_pawns_33 : decode cX5_pawns 33 = .ok (.iload_n 2, 1) := by decide +kernel
theorem dX5_pawns_34 : decode cX5_pawns 34 = .ok (.invokevirtual 150, 3) := by decide +kernel
theorem dX5_pawns_37 : decode cX5_pawns 37 = .ok (.ifCond .eq 9, 3) := by decide +kernel
theorem dX5_pawns_40 : decode cX5_pawns 40 = .ok (.iload_n 3, 1) := by decide +kernel
theorem dX5_pawns_41 : decode cX5_pawns 41 = .ok (.bipush (-9), 2) := by decide +kernel
theorem dX5_pawns_43 : decode cX5_pawns 43 = .ok (.if_icmp .ne 6, 3) := by decide +kernel
theorem dX5_pawns_46 : decode cX5_pawns 46 = .ok (.bipush (-2), 2) := by decide +kernel
theorem dX5_pawns_48 : decode cX5_pawns 48 = .ok (.ireturn, 1) := by decide +kernel
theorem dX5_pawns_49 : decode cX5_pawns 49 = .ok (.aload_n 0, 1) := by decide +kernel
theorem dX5_pawns_50 : decode cX5_pawns 50 = .ok (.getfield 26, 3) := by decide +kernel
theorem dX5_pawns_53 : decode cX5_pawns 53 = .ok (.invokevirtual 154, 3) := by decide +kernel
theorem dX5_pawns_56 : decode cX5_pawns 56 = .ok (.aload_n 0, 1) := by decide +kernel
theorem dX5_pawns_57 : decode cX5_pawns 57 = .ok (.getfield 19, 3) := by decide +kernel
theorem dX5_pawns_60 : decode cX5_pawns 60 = .ok (.iload_n 1, 1) := by decide +kernel
theorem dX5_pawns_61 : decode cX5_pawns 61 = .ok (.iload_n 2, 1) := by decide +kernel
theorem dX5_pawns_62 : decode cX5_pawns 62 = .ok (.invokevirtual 157, 3) := by decide +kernel
theorem dX5_pawns_65 : decode cX5_pawns 65 = .ok (.istore 4, 2) := by decide +kernel
theorem dX5_pawns_67 : decode cX5_pawns 67 = .ok (.aload_n 0, 1) := by decide +kernel
theorem dX5_pawns_68 : decode cX5_pawns 68 = .ok (.getfield 26, 3) := by decide +kernel
theorem dX5_pawns_71 : decode cX5_pawns 71 = .ok (.getfield 104, 3) := by decide +kernel
theorem dX5_pawns_74 : decode cX5_pawns 74 = .ok (.iload_n 3, 1) := by decide +kernel
theorem dX5_pawns_75 : decode cX5_pawns 75 = .ok (.iload_n 1, 1) := by decide +kernel
theorem dX5_pawns_76 : decode cX5_pawns 76 = .ok (.iload_n 2, 1) := by decide +kernel
theorem dX5_pawns_77 : decode cX5_pawns 77 = .ok (.invokestatic 160, 3) := by decide +kernel
theorem dX5_pawns_80 : decode cX5_pawns 80 = .ok (.iload 4, 2) := by decide +kernel
theorem dX5_pawns_82 : decode cX5_pawns 82 = .ok (.invokevirtual 163, 3) := by decide +kernel
theorem dX5_pawns_85 : decode cX5_pawns 85 = .ok (.iload 4, 2) := by decide +kernel
theorem dX5_pawns_87 : decode cX5_pawns 87 = .ok (.ireturn, 1) := by decide +kernel
theorem dX5_redeems_0 : decode cX5_redeems 0 = .ok (.iload_n 1, 1) := by decide +kernel
theorem dX5_redeems_1 : decode cX5_redeems 1 = .ok (.invokestatic 132, 3) := by decide +kernel
theorem dX5_redeems_4 : decode cX5_redeems 4 = .ok (.ifCond .ne 5, 3) := by decide +kernel
theorem dX5_redeems_7 : decode cX5_redeems 7 = .ok (.iconst (-1), 1) := by decide +kernel
theorem dX5_redeems_8 : decode cX5_redeems 8 = .ok (.ireturn, 1) := by decide +kernel
theorem dX5_redeems_9 : decode cX5_redeems 9 = .ok (.aload_n 0, 1) := by decide +kernel
theorem dX5_redeems_10 : decode cX5_redeems 10 = .ok (.getfield 26, 3) := by decide +kernel
theorem dX5_redeems_13 : decode cX5_redeems 13 = .ok (.getfield 104, 3) := by decide +kernel
theorem dX5_redeems_16 : decode cX5_redeems 16 = .ok (.astore_n 2, 1) := by decide +kernel
theorem dX5_redeems_17 : decode cX5_redeems 17 = .ok (.aload_n 2, 1) := by decide +kernel
theorem dX5_redeems_18 : decode cX5_redeems 18 = .ok (.iload_n 1, 1) := by decide +kernel
theorem dX5_redeems_19 : decode cX5_redeems 19 = .ok (.invokevirtual 135, 3) := by decide +kernel
theorem dX5_redeems_22 : decode cX5_redeems 22 = .ok (.ifCond .ne 16, 3) := by decide +kernel
theorem dX5_redeems_25 : decode cX5_redeems 25 = .ok (.aload_n 2, 1) := by decide +kernel
theorem dX5_redeems_26 : decode cX5_redeems 26 = .ok (.getfield 167, 3) := by decide +kernel
theorem dX5_redeems_29 : decode cX5_redeems 29 = .ok (.aload_n 2, 1) := by decide +kernel
theorem dX5_redeems_30 : decode cX5_redeems 30 = .ok (.getfield 141, 3) := by decide +kernel
theorem dX5_redeems_33 : decode cX5_redeems 33 = .ok (.iload_n 1, 1) := by decide +kernel
theorem dX5_redeems_34 : decode cX5_redeems 34 = .ok (.iaload, 1) := by decide +kernel
theorem dX5_redeems_35 : decode cX5_redeems 35 = .ok (.if_icmp .ge 6, 3) := by decide +kernel
theorem dX5_redeems_38 : decode cX5_redeems 38 = .ok (.bipush (-2), 2) := by decide +kernel
theorem dX5_redeems_40 : decode cX5_redeems 40 = .ok (.ireturn, 1) := by decide +kernel
theorem dX5_redeems_41 : decode cX5_redeems 41 = .ok (.aload_n 0, 1) := by decide +kernel
theorem dX5_redeems_42 : decode cX5_redeems 42 = .ok (.getfield 26, 3) := by decide +kernel
theorem dX5_redeems_45 : decode cX5_redeems 45 = .ok (.invokevirtual 154, 3) := by decide +kernel
theorem dX5_redeems_48 : decode cX5_redeems 48 = .ok (.aload_n 2, 1) := by decide +kernel
theorem dX5_redeems_49 : decode cX5_redeems 49 = .ok (.iload_n 1, 1) := by decide +kernel
theorem dX5_redeems_50 : decode cX5_redeems 50 = .ok (.invokevirtual 170, 3) := by decide +kernel
theorem dX5_redeems_53 : decode cX5_redeems 53 = .ok (.aload_n 2, 1) := by decide +kernel
theorem dX5_redeems_54 : decode cX5_redeems 54 = .ok (.getfield 167, 3) := by decide +kernel
theorem dX5_redeems_57 : decode cX5_redeems 57 = .ok (.ireturn, 1) := by decide +kernel
theorem dX5_year_0 : decode cX5_year 0 = .ok (.aload_n 0, 1) := by decide +kernel
theorem dX5_year_1 : decode cX5_year 1 = .ok (.getfield 26, 3) := by decide +kernel
theorem dX5_year_4 : decode cX5_year 4 = .ok (.getfield 104, 3) := by decide +kernel
theorem dX5_year_7 : decode cX5_year 7 = .ok (.getfield 174, 3) := by decide +kernel
theorem dX5_year_10 : decode cX5_year 10 = .ok (.bipush 99, 2) := by decide +kernel
theorem dX5_year_12 : decode cX5_year 12 = .ok (.if_icmp .lt 6, 3) := by decide +kernel
theorem dX5_year_15 : decode cX5_year 15 = .ok (.bipush (-2), 2) := by decide +kernel
theorem dX5_year_17 : decode cX5_year 17 = .ok (.ireturn, 1) := by decide +kernel
theorem dX5_year_18 : decode cX5_year 18 = .ok (.aload_n 0, 1) := by decide +kernel
theorem dX5_year_19 : decode cX5_year 19 = .ok (.getfield 26, 3) := by decide +kernel
theorem dX5_year_22 : decode cX5_year 22 = .ok (.invokevirtual 154, 3) := by decide +kernel
theorem dX5_year_25 : decode cX5_year 25 = .ok (.aload_n 0, 1) := by decide +kernel
theorem dX5_year_26 : decode cX5_year 26 = .ok (.getfield 26, 3) := by decide +kernel
theorem dX5_year_29 : decode cX5_year 29 = .ok (.getfield 104, 3) := by decide +kernel
theorem dX5_year_32 : decode cX5_year 32 = .ok (.aload_n 0, 1) := by decide +kernel
theorem dX5_year_33 : decode cX5_year 33 = .ok (.getfield 19, 3) := by decide +kernel
theorem dX5_year_36 : decode cX5_year 36 = .ok (.invokevirtual 177, 3) := by decide +kernel
theorem dX5_year_39 : decode cX5_year 39 = .ok (.ireturn, 1) := by decide +kernel
theorem dX5_undo_0 : decode cX5_undo 0 = .ok (.aload_n 0, 1) := by decide +kernel
theorem dX5_undo_1 : decode cX5_undo 1 = .ok (.getfield 26, 3) := by decide +kernel
theorem dX5_undo_4 : decode cX5_undo 4 = .ok (.invokevirtual 181, 3) := by decide +kernel
theorem dX5_undo_7 : decode cX5_undo 7 = .ok (.ifCond .eq 13, 3) := by decide +kernel
theorem dX5_undo_10 : decode cX5_undo 10 = .ok (.aload_n 0, 1) := by decide +kernel
theorem dX5_undo_11 : decode cX5_undo 11 = .ok (.getfield 26, 3) := by decide +kernel
theorem dX5_undo_14 : decode cX5_undo 14 = .ok (.getfield 185, 3) := by decide +kernel
theorem dX5_undo_17 : decode cX5_undo 17 = .ok (.goto 5, 3) := by decide +kernel
theorem dX5_undo_20 : decode cX5_undo 20 = .ok (.bipush (-2), 2) := by decide +kernel
theorem dX5_undo_22 : decode cX5_undo 22 = .ok (.ireturn, 1) := by decide +kernel
theorem dX5_now_0 : decode cX5_now 0 = .ok (.aload_n 0, 1) := by decide +kernel
theorem dX5_now_1 : decode cX5_now 1 = .ok (.getfield 26, 3) := by decide +kernel
theorem dX5_now_4 : decode cX5_now 4 = .ok (.getfield 104, 3) := by decide +kernel
theorem dX5_now_7 : decode cX5_now 7 = .ok (.astore_n 2, 1) := by decide +kernel
theorem dX5_now_8 : decode cX5_now 8 = .ok (.iload_n 1, 1) := by decide +kernel
theorem dX5_now_9 : decode cX5_now 9 = .ok (.tableswitch 92 0 6 #[43, 48, 53, 58, 63, 75, 87], 43) := by decide +kernel
theorem dX5_now_52 : decode cX5_now 52 = .ok (.aload_n 2, 1) := by decide +kernel
theorem dX5_now_53 : decode cX5_now 53 = .ok (.getfield 167, 3) := by decide +kernel
theorem dX5_now_56 : decode cX5_now 56 = .ok (.ireturn, 1) := by decide +kernel
theorem dX5_now_57 : decode cX5_now 57 = .ok (.aload_n 2, 1) := by decide +kernel
theorem dX5_now_58 : decode cX5_now 58 = .ok (.getfield 174, 3) := by decide +kernel
theorem dX5_now_61 : decode cX5_now 61 = .ok (.ireturn, 1) := by decide +kernel
theorem dX5_now_62 : decode cX5_now 62 = .ok (.aload_n 2, 1) := by decide +kernel
theorem dX5_now_63 : decode cX5_now 63 = .ok (.invokevirtual 188, 3) := by decide +kernel
theorem dX5_now_66 : decode cX5_now 66 = .ok (.ireturn, 1) := by decide +kernel
theorem dX5_now_67 : decode cX5_now 67 = .ok (.aload_n 2, 1) := by decide +kernel
theorem dX5_now_68 : decode cX5_now 68 = .ok (.getfield 191, 3) := by decide +kernel
theorem dX5_now_71 : decode cX5_now 71 = .ok (.ireturn, 1) := by decide +kernel
theorem dX5_now_72 : decode cX5_now 72 = .ok (.aload_n 0, 1) := by decide +kernel
theorem dX5_now_73 : decode cX5_now 73 = .ok (.getfield 19, 3) := by decide +kernel
theorem dX5_now_76 : decode cX5_now 76 = .ok (.aload_n 0, 1) := by decide +kernel
theorem dX5_now_77 : decode cX5_now 77 = .ok (.invokevirtual 125, 3) := by decide +kernel
theorem dX5_now_80 : decode cX5_now 80 = .ok (.invokevirtual 194, 3) := by decide +kernel
theorem dX5_now_83 : decode cX5_now 83 = .ok (.ireturn, 1) := by decide +kernel
theorem dX5_now_84 : decode cX5_now 84 = .ok (.aload_n 0, 1) := by decide +kernel
theorem dX5_now_85 : decode cX5_now 85 = .ok (.getfield 19, 3) := by decide +kernel
theorem dX5_now_88 : decode cX5_now 88 = .ok (.aload_n 0, 1) := by decide +kernel
theorem dX5_now_89 : decode cX5_now 89 = .ok (.invokevirtual 125, 3) := by decide +kernel
theorem dX5_now_92 : decode cX5_now 92 = .ok (.invokevirtual 197, 3) := by decide +kernel
theorem dX5_now_95 : decode cX5_now 95 = .ok (.ireturn, 1) := by decide +kernel
theorem dX5_now_96 : decode cX5_now 96 = .ok (.aload_n 2, 1) := by decide +kernel
theorem dX5_now_97 : decode cX5_now 97 = .ok (.invokevirtual 200, 3) := by decide +kernel
theorem dX5_now_100 : decode cX5_now 100 = .ok (.ireturn, 1) := by decide +kernel
theorem dX5_now_101 : decode cX5_now 101 = .ok (.iconst (-1), 1) := by decide +kernel
theorem dX5_now_102 : decode cX5_now 102 = .ok (.ireturn, 1) := by decide +kernel
theorem dX5_lends_0 : decode cX5_lends 0 = .ok (.aload_n 0, 1) := by decide +kernel
theorem dX5_lends_1 : decode cX5_lends 1 = .ok (.iload_n 1, 1) := by decide +kernel
theorem dX5_lends_2 : decode cX5_lends 2 = .ok (.invokevirtual 91, 3) := by decide +kernel
theorem dX5_lends_5 : decode cX5_lends 5 = .ok (.ifCond .eq 13, 3) := by decide +kernel
theorem dX5_lends_8 : decode cX5_lends 8 = .ok (.iload_n 2, 1) := by decide +kernel
theorem dX5_lends_9 : decode cX5_lends 9 = .ok (.iconst 1, 1) := by decide +kernel
theorem dX5_lends_10 : decode cX5_lends 10 = .ok (.bipush 9, 2) := by decide +kernel
theorem dX5_lends_12 : decode cX5_lends 12 = .ok (.invokestatic 60, 3) := by decide +kernel
theorem dX5_lends_15 : decode cX5_lends 15 = .ok (.ifCond .ne 5, 3) := by decide +kernel
theorem dX5_lends_18 : decode cX5_lends 18 = .ok (.iconst (-1), 1) := by decide +kernel
theorem dX5_lends_19 : decode cX5_lends 19 = .ok (.ireturn, 1) := by decide +kernel
theorem dX5_lends_20 : decode cX5_lends 20 = .ok (.aload_n 0, 1) := by decide +kernel
theorem dX5_lends_21 : decode cX5_lends 21 = .ok (.getfield 19, 3) := by decide +kernel
theorem dX5_lends_24 : decode cX5_lends 24 = .ok (.iload_n 1, 1) := by decide +kernel
theorem dX5_lends_25 : decode cX5_lends 25 = .ok (.iload_n 2, 1) := by decide +kernel
theorem dX5_lends_26 : decode cX5_lends 26 = .ok (.invokevirtual 157, 3) := by decide +kernel
theorem dX5_lends_29 : decode cX5_lends 29 = .ok (.ireturn, 1) := by decide +kernel
theorem dX5_cheap_0 : decode cX5_cheap 0 = .ok (.iload_n 1, 1) := by decide +kernel
theorem dX5_cheap_1 : decode cX5_cheap 1 = .ok (.iconst 1, 1) := by decide +kernel
theorem dX5_cheap_2 : decode cX5_cheap 2 = .ok (.sipush 999, 3) := by decide +kernel
theorem dX5_cheap_5 : decode cX5_cheap 5 = .ok (.invokestatic 60, 3) := by decide +kernel
theorem dX5_cheap_8 : decode cX5_cheap 8 = .ok (.ifCond .eq 12, 3) := by decide +kernel
theorem dX5_cheap_11 : decode cX5_cheap 11 = .ok (.iload_n 2, 1) := by decide +kernel
theorem dX5_cheap_12 : decode cX5_cheap 12 = .ok (.iconst 0, 1) := by decide +kernel
theorem dX5_cheap_13 : decode cX5_cheap 13 = .ok (.iconst 2, 1) := by decide +kernel
theorem dX5_cheap_14 : decode cX5_cheap 14 = .ok (.invokestatic 60, 3) := by decide +kernel
theorem dX5_cheap_17 : decode cX5_cheap 17 = .ok (.ifCond .ne 5, 3) := by decide +kernel
theorem dX5_cheap_20 : decode cX5_cheap 20 = .ok (.iconst (-1), 1) := by decide +kernel
theorem dX5_cheap_21 : decode cX5_cheap 21 = .ok (.ireturn, 1) := by decide +kernel
theorem dX5_cheap_22 : decode cX5_cheap 22 = .ok (.aload_n 0, 1) := by decide +kernel
theorem dX5_cheap_23 : decode cX5_cheap 23 = .ok (.iload_n 1, 1) := by decide +kernel
theorem dX5_cheap_24 : decode cX5_cheap 24 = .ok (.invokevirtual 203, 3) := by decide +kernel
theorem dX5_cheap_27 : decode cX5_cheap 27 = .ok (.istore_n 3, 1) := by decide +kernel
theorem dX5_cheap_28 : decode cX5_cheap 28 = .ok (.iload_n 3, 1) := by decide +kernel
theorem dX5_cheap_29 : decode cX5_cheap 29 = .ok (.bipush (-9), 2) := by decide +kernel
theorem dX5_cheap_31 : decode cX5_cheap 31 = .ok (.if_icmp .ne 6, 3) := by decide +kernel
theorem dX5_cheap_34 : decode cX5_cheap 34 = .ok (.bipush (-9), 2) := by decide +kernel
theorem dX5_cheap_36 : decode cX5_cheap 36 = .ok (.ireturn, 1) := by decide +kernel
theorem dX5_cheap_37 : decode cX5_cheap 37 = .ok (.iload_n 3, 1) := by decide +kernel
theorem dX5_cheap_38 : decode cX5_cheap 38 = .ok (.bipush 100, 2) := by decide +kernel
theorem dX5_cheap_40 : decode cX5_cheap 40 = .ok (.idiv, 1) := by decide +kernel
theorem dX5_cheap_41 : decode cX5_cheap 41 = .ok (.istore 4, 2) := by decide +kernel
theorem dX5_cheap_43 : decode cX5_cheap 43 = .ok (.iload_n 3, 1) := by decide +kernel
theorem dX5_cheap_44 : decode cX5_cheap 44 = .ok (.bipush 100, 2) := by decide +kernel
theorem dX5_cheap_46 : decode cX5_cheap 46 = .ok (.irem, 1) := by decide +kernel
theorem dX5_cheap_47 : decode cX5_cheap 47 = .ok (.istore 5, 2) := by decide +kernel
theorem dX5_cheap_49 : decode cX5_cheap 49 = .ok (.iload_n 2, 1) := by decide +kernel
theorem dX5_cheap_50 : decode cX5_cheap 50 = .ok (.lookupswitch 32 #[(0, 26), (1, 29)], 26) := by decide +kernel
theorem dX5_cheap_76 : decode cX5_cheap 76 = .ok (.iload 4, 2) := by decide +kernel
theorem dX5_cheap_78 : decode cX5_cheap 78 = .ok (.ireturn, 1) := by decide +kernel
theorem dX5_cheap_79 : decode cX5_cheap 79 = .ok (.iload 5, 2) := by decide +kernel
theorem dX5_cheap_81 : decode cX5_cheap 81 = .ok (.ireturn, 1) := by decide +kernel
theorem dX5_cheap_82 : decode cX5_cheap 82 = .ok (.aload_n 0, 1) := by decide +kernel
theorem dX5_cheap_83 : decode cX5_cheap 83 = .ok (.getfield 19, 3) := by decide +kernel
theorem dX5_cheap_86 : decode cX5_cheap 86 = .ok (.aload_n 0, 1) := by decide +kernel
theorem dX5_cheap_87 : decode cX5_cheap 87 = .ok (.invokevirtual 125, 3) := by decide +kernel
theorem dX5_cheap_90 : decode cX5_cheap 90 = .ok (.iload 4, 2) := by decide +kernel
theorem dX5_cheap_92 : decode cX5_cheap 92 = .ok (.iload 5, 2) := by decide +kernel
theorem dX5_cheap_94 : decode cX5_cheap 94 = .ok (.invokestatic 160, 3) := by decide +kernel
theorem dX5_cheap_97 : decode cX5_cheap 97 = .ok (.iconst (-1), 1) := by decide +kernel
theorem dX5_cheap_98 : decode cX5_cheap 98 = .ok (.ixor, 1) := by decide +kernel
theorem dX5_cheap_99 : decode cX5_cheap 99 = .ok (.iand, 1) := by decide +kernel
theorem dX5_cheap_100 : decode cX5_cheap 100 = .ok (.invokevirtual 194, 3) := by decide +kernel
theorem dX5_cheap_103 : decode cX5_cheap 103 = .ok (.ireturn, 1) := by decide +kernel
theorem dX5_freeing_0 : decode cX5_freeing 0 = .ok (.iload_n 1, 1) := by decide +kernel
theorem dX5_freeing_1 : decode cX5_freeing 1 = .ok (.iconst 0, 1) := by decide +kernel
theorem dX5_freeing_2 : decode cX5_freeing 2 = .ok (.iconst 1, 1) := by decide +kernel
theorem dX5_freeing_3 : decode cX5_freeing 3 = .ok (.invokestatic 60, 3) := by decide +kernel
theorem dX5_freeing_6 : decode cX5_freeing 6 = .ok (.ifCond .ne 5, 3) := by decide +kernel
theorem dX5_freeing_9 : decode cX5_freeing 9 = .ok (.iconst (-1), 1) := by decide +kernel
theorem dX5_freeing_10 : decode cX5_freeing 10 = .ok (.ireturn, 1) := by decide +kernel
theorem dX5_freeing_11 : decode cX5_freeing 11 = .ok (.aload_n 0, 1) := by decide +kernel
theorem dX5_freeing_12 : decode cX5_freeing 12 = .ok (.invokevirtual 206, 3) := by decide +kernel
theorem dX5_freeing_15 : decode cX5_freeing 15 = .ok (.istore_n 2, 1) := by decide +kernel
theorem dX5_freeing_16 : decode cX5_freeing 16 = .ok (.iload_n 1, 1) := by decide +kernel
theorem dX5_freeing_17 : decode cX5_freeing 17 = .ok (.ifCond .ne 7, 3) := by decide +kernel
theorem dX5_freeing_20 : decode cX5_freeing 20 = .ok (.iload_n 2, 1) := by decide +kernel
theorem dX5_freeing_21 : decode cX5_freeing 21 = .ok (.goto 26, 3) := by decide +kernel
theorem dX5_freeing_24 : decode cX5_freeing 24 = .ok (.aload_n 0, 1) := by decide +kernel
theorem dX5_freeing_25 : decode cX5_freeing 25 = .ok (.getfield 19, 3) := by decide +kernel
theorem dX5_freeing_28 : decode cX5_freeing 28 = .ok (.aload_n 0, 1) := by decide +kernel
theorem dX5_freeing_29 : decode cX5_freeing 29 = .ok (.invokevirtual 125, 3) := by decide +kernel
theorem dX5_freeing_32 : decode cX5_freeing 32 = .ok (.aload_n 0, 1) := by decide +kernel
theorem dX5_freeing_33 : decode cX5_freeing 33 = .ok (.getfield 26, 3) := by decide +kernel
theorem dX5_freeing_36 : decode cX5_freeing 36 = .ok (.getfield 104, 3) := by decide +kernel
theorem dX5_freeing_39 : decode cX5_freeing 39 = .ok (.iload_n 2, 1) := by decide +kernel
theorem dX5_freeing_40 : decode cX5_freeing 40 = .ok (.invokevirtual 209, 3) := by decide +kernel
theorem dX5_freeing_43 : decode cX5_freeing 43 = .ok (.ior, 1) := by decide +kernel
theorem dX5_freeing_44 : decode cX5_freeing 44 = .ok (.invokevirtual 194, 3) := by decide +kernel
theorem dX5_freeing_47 : decode cX5_freeing 47 = .ok (.ireturn, 1) := by decide +kernel
theorem dX5_rich_0 : decode cX5_rich 0 = .ok (.iload_n 1, 1) := by decide +kernel
theorem dX5_rich_1 : decode cX5_rich 1 = .ok (.iconst 0, 1) := by decide +kernel
theorem dX5_rich_2 : decode cX5_rich 2 = .ok (.sipush 9999, 3) := by decide +kernel
theorem dX5_rich_5 : decode cX5_rich 5 = .ok (.invokestatic 60, 3) := by decide +kernel
theorem dX5_rich_8 : decode cX5_rich 8 = .ok (.ifCond .ne 5, 3) := by decide +kernel
theorem dX5_rich_11 : decode cX5_rich 11 = .ok (.iconst (-1), 1) := by decide +kernel
theorem dX5_rich_12 : decode cX5_rich 12 = .ok (.ireturn, 1) := by decide +kernel
theorem dX5_rich_13 : decode cX5_rich 13 = .ok (.aload_n 0, 1) := by decide +kernel
theorem dX5_rich_14 : decode cX5_rich 14 = .ok (.getfield 41, 3) := by decide +kernel
theorem dX5_rich_17 : decode cX5_rich 17 = .ok (.aload_n 0, 1) := by decide +kernel
theorem dX5_rich_18 : decode cX5_rich 18 = .ok (.getfield 26, 3) := by decide +kernel
theorem dX5_rich_21 : decode cX5_rich 21 = .ok (.getfield 104, 3) := by decide +kernel
theorem dX5_rich_24 : decode cX5_rich 24 = .ok (.invokevirtual 212, 3) := by decide +kernel
theorem dX5_rich_27 : decode cX5_rich 27 = .ok (.iconst 0, 1) := by decide +kernel
theorem dX5_rich_28 : decode cX5_rich 28 = .ok (.istore_n 2, 1) := by decide +kernel
theorem dX5_rich_29 : decode cX5_rich 29 = .ok (.iload_n 2, 1) := by decide +kernel
theorem dX5_rich_30 : decode cX5_rich 30 = .ok (.bipush 60, 2) := by decide +kernel
theorem dX5_rich_32 : decode cX5_rich 32 = .ok (.if_icmp .gt 34, 3) := by decide +kernel
theorem dX5_rich_35 : decode cX5_rich 35 = .ok (.aload_n 0, 1) := by decide +kernel
theorem dX5_rich_36 : decode cX5_rich 36 = .ok (.getfield 41, 3) := by decide +kernel
theorem dX5_rich_39 : decode cX5_rich 39 = .ok (.getfield 167, 3) := by decide +kernel
theorem dX5_rich_42 : decode cX5_rich 42 = .ok (.iload_n 1, 1) := by decide +kernel
theorem dX5_rich_43 : decode cX5_rich 43 = .ok (.if_icmp .lt 5, 3) := by decide +kernel
theorem dX5_rich_46 : decode cX5_rich 46 = .ok (.iload_n 2, 1) := by decide +kernel
theorem dX5_rich_47 : decode cX5_rich 47 = .ok (.ireturn, 1) := by decide +kernel
theorem dX5_rich_48 : decode cX5_rich 48 = .ok (.aload_n 0, 1) := by decide +kernel
theorem dX5_rich_49 : decode cX5_rich 49 = .ok (.getfield 41, 3) := by decide +kernel
theorem dX5_rich_52 : decode cX5_rich 52 = .ok (.aload_n 0, 1) := by decide +kernel
theorem dX5_rich_53 : decode cX5_rich 53 = .ok (.getfield 19, 3) := by decide +kernel
theorem dX5_rich_56 : decode cX5_rich 56 = .ok (.invokevirtual 177, 3) := by decide +kernel
theorem dX5_rich_59 : decode cX5_rich 59 = .ok (.pop, 1) := by decide +kernel
theorem dX5_rich_60 : decode cX5_rich 60 = .ok (.iinc 2 1, 3) := by decide +kernel
theorem dX5_rich_63 : decode cX5_rich 63 = .ok (.goto (-34), 3) := by decide +kernel
theorem dX5_rich_66 : decode cX5_rich 66 = .ok (.bipush (-9), 2) := by decide +kernel
theorem dX5_rich_68 : decode cX5_rich 68 = .ok (.ireturn, 1) := by decide +kernel
theorem dX5_bare_0 : decode cX5_bare 0 = .ok (.aload_n 0, 1) := by decide +kernel
theorem dX5_bare_1 : decode cX5_bare 1 = .ok (.getfield 41, 3) := by decide +kernel
theorem dX5_bare_4 : decode cX5_bare 4 = .ok (.aload_n 0, 1) := by decide +kernel
theorem dX5_bare_5 : decode cX5_bare 5 = .ok (.getfield 26, 3) := by decide +kernel
theorem dX5_bare_8 : decode cX5_bare 8 = .ok (.getfield 104, 3) := by decide +kernel
theorem dX5_bare_11 : decode cX5_bare 11 = .ok (.invokevirtual 212, 3) := by decide +kernel
theorem dX5_bare_14 : decode cX5_bare 14 = .ok (.iconst 0, 1) := by decide +kernel
theorem dX5_bare_15 : decode cX5_bare 15 = .ok (.istore_n 1, 1) := by decide +kernel
theorem dX5_bare_16 : decode cX5_bare 16 = .ok (.iload_n 1, 1) := by decide +kernel
theorem dX5_bare_17 : decode cX5_bare 17 = .ok (.bipush 60, 2) := by decide +kernel
theorem dX5_bare_19 : decode cX5_bare 19 = .ok (.if_icmp .gt 44, 3) := by decide +kernel
theorem dX5_bare_22 : decode cX5_bare 22 = .ok (.aload_n 0, 1) := by decide +kernel
theorem dX5_bare_23 : decode cX5_bare 23 = .ok (.getfield 19, 3) := by decide +kernel
theorem dX5_bare_26 : decode cX5_bare 26 = .ok (.aload_n 0, 1) := by decide +kernel
theorem dX5_bare_27 : decode cX5_bare 27 = .ok (.getfield 41, 3) := by decide +kernel
theorem dX5_bare_30 : decode cX5_bare 30 = .ok (.aload_n 0, 1) := by decide +kernel
theorem dX5_bare_31 : decode cX5_bare 31 = .ok (.getfield 19, 3) := by decide +kernel
theorem dX5_bare_34 : decode cX5_bare 34 = .ok (.invokevirtual 216, 3) := by decide +kernel
theorem dX5_bare_37 : decode cX5_bare 37 = .ok (.invokevirtual 218, 3) := by decide +kernel
theorem dX5_bare_40 : decode cX5_bare 40 = .ok (.ifCond .ne 5, 3) := by decide +kernel
theorem dX5_bare_43 : decode cX5_bare 43 = .ok (.iload_n 1, 1) := by decide +kernel
theorem dX5_bare_44 : decode cX5_bare 44 = .ok (.ireturn, 1) := by decide +kernel
theorem dX5_bare_45 : decode cX5_bare 45 = .ok (.aload_n 0, 1) := by decide +kernel
theorem dX5_bare_46 : decode cX5_bare 46 = .ok (.getfield 41, 3) := by decide +kernel
theorem dX5_bare_49 : decode cX5_bare 49 = .ok (.aload_n 0, 1) := by decide +kernel
theorem dX5_bare_50 : decode cX5_bare 50 = .ok (.getfield 19, 3) := by decide +kernel
theorem dX5_bare_53 : decode cX5_bare 53 = .ok (.invokevirtual 177, 3) := by decide +kernel
theorem dX5_bare_56 : decode cX5_bare 56 = .ok (.pop, 1) := by decide +kernel
theorem dX5_bare_57 : decode cX5_bare 57 = .ok (.iinc 1 1, 3) := by decide +kernel
theorem dX5_bare_60 : decode cX5_bare 60 = .ok (.goto (-44), 3) := by decide +kernel
theorem dX5_bare_63 : decode cX5_bare 63 = .ok (.bipush (-9), 2) := by decide +kernel
theorem dX5_bare_65 : decode cX5_bare 65 = .ok (.ireturn, 1) := by decide +kernel
theorem dX5_tells_0 : decode cX5_tells 0 = .ok (.aload_n 0, 1) := by decide +kernel
theorem dX5_tells_1 : decode cX5_tells 1 = .ok (.iload_n 1, 1) := by decide +kernel
theorem dX5_tells_2 : decode cX5_tells 2 = .ok (.invokevirtual 110, 3) := by decide +kernel
theorem dX5_tells_5 : decode cX5_tells 5 = .ok (.ifCond .eq 12, 3) := by decide +kernel
theorem dX5_tells_8 : decode cX5_tells 8 = .ok (.iload_n 2, 1) := by decide +kernel
theorem dX5_tells_9 : decode cX5_tells 9 = .ok (.iconst 0, 1) := by decide +kernel
theorem dX5_tells_10 : decode cX5_tells 10 = .ok (.iconst 1, 1) := by decide +kernel
theorem dX5_tells_11 : decode cX5_tells 11 = .ok (.invokestatic 60, 3) := by decide +kernel
theorem dX5_tells_14 : decode cX5_tells 14 = .ok (.ifCond .ne 5, 3) := by decide +kernel
theorem dX5_tells_17 : decode cX5_tells 17 = .ok (.iconst (-1), 1) := by decide +kernel
theorem dX5_tells_18 : decode cX5_tells 18 = .ok (.ireturn, 1) := by decide +kernel
theorem dX5_tells_19 : decode cX5_tells 19 = .ok (.aload_n 0, 1) := by decide +kernel
theorem dX5_tells_20 : decode cX5_tells 20 = .ok (.getfield 52, 3) := by decide +kernel
theorem dX5_tells_23 : decode cX5_tells 23 = .ok (.bipush 6, 2) := by decide +kernel
theorem dX5_tells_25 : decode cX5_tells 25 = .ok (.if_icmp .lt 6, 3) := by decide +kernel
theorem dX5_tells_28 : decode cX5_tells 28 = .ok (.bipush (-3), 2) := by decide +kernel
theorem dX5_tells_30 : decode cX5_tells 30 = .ok (.ireturn, 1) := by decide +kernel
theorem dX5_tells_31 : decode cX5_tells 31 = .ok (.aload_n 0, 1) := by decide +kernel
theorem dX5_tells_32 : decode cX5_tells 32 = .ok (.getfield 45, 3) := by decide +kernel
theorem dX5_tells_35 : decode cX5_tells 35 = .ok (.aload_n 0, 1) := by decide +kernel
theorem dX5_tells_36 : decode cX5_tells 36 = .ok (.getfield 52, 3) := by decide +kernel
theorem dX5_tells_39 : decode cX5_tells 39 = .ok (.iload_n 1, 1) := by decide +kernel
theorem dX5_tells_40 : decode cX5_tells 40 = .ok (.iastore, 1) := by decide +kernel
theorem dX5_tells_41 : decode cX5_tells 41 = .ok (.aload_n 0, 1) := by decide +kernel
theorem dX5_tells_42 : decode cX5_tells 42 = .ok (.getfield 49, 3) := by decide +kernel
theorem dX5_tells_45 : decode cX5_tells 45 = .ok (.aload_n 0, 1) := by decide +kernel
theorem dX5_tells_46 : decode cX5_tells 46 = .ok (.getfield 52, 3) := by decide +kernel
theorem dX5_tells_49 : decode cX5_tells 49 = .ok (.iload_n 2, 1) := by decide +kernel
theorem dX5_tells_50 : decode cX5_tells 50 = .ok (.iastore, 1) := by decide +kernel
theorem dX5_tells_51 : decode cX5_tells 51 = .ok (.aload_n 0, 1) := by decide +kernel
theorem dX5_tells_52 : decode cX5_tells 52 = .ok (.dup, 1) := by decide +kernel
theorem dX5_tells_53 : decode cX5_tells 53 = .ok (.getfield 52, 3) := by decide +kernel
theorem dX5_tells_56 : decode cX5_tells 56 = .ok (.iconst 1, 1) := by decide +kernel
theorem dX5_tells_57 : decode cX5_tells 57 = .ok (.iadd, 1) := by decide +kernel
theorem dX5_tells_58 : decode cX5_tells 58 = .ok (.putfield 52, 3) := by decide +kernel
theorem dX5_tells_61 : decode cX5_tells 61 = .ok (.aload_n 0, 1) := by decide +kernel
theorem dX5_tells_62 : decode cX5_tells 62 = .ok (.getfield 52, 3) := by decide +kernel
theorem dX5_tells_65 : decode cX5_tells 65 = .ok (.ireturn, 1) := by decide +kernel
theorem dX5_forget_0 : decode cX5_forget 0 = .ok (.aload_n 0, 1) := by decide +kernel
theorem dX5_forget_1 : decode cX5_forget 1 = .ok (.getfield 52, 3) := by decide +kernel
theorem dX5_forget_4 : decode cX5_forget 4 = .ok (.istore_n 1, 1) := by decide +kernel
theorem dX5_forget_5 : decode cX5_forget 5 = .ok (.aload_n 0, 1) := by decide +kernel
theorem dX5_forget_6 : decode cX5_forget 6 = .ok (.iconst 0, 1) := by decide +kernel
theorem dX5_forget_7 : decode cX5_forget 7 = .ok (.putfield 52, 3) := by decide +kernel
theorem dX5_forget_10 : decode cX5_forget 10 = .ok (.iload_n 1, 1) := by decide +kernel
theorem dX5_forget_11 : decode cX5_forget 11 = .ok (.ireturn, 1) := by decide +kernel
theorem dX5_fits_0 : decode cX5_fits 0 = .ok (.iload_n 1, 1) := by decide +kernel
theorem dX5_fits_1 : decode cX5_fits 1 = .ok (.iconst 0, 1) := by decide +kernel
theorem dX5_fits_2 : decode cX5_fits 2 = .ok (.iconst 2, 1) := by decide +kernel
theorem dX5_fits_3 : decode cX5_fits 3 = .ok (.invokestatic 60, 3) := by decide +kernel
theorem dX5_fits_6 : decode cX5_fits 6 = .ok (.ifCond .ne 5, 3) := by decide +kernel
theorem dX5_fits_9 : decode cX5_fits 9 = .ok (.iconst (-1), 1) := by decide +kernel
theorem dX5_fits_10 : decode cX5_fits 10 = .ok (.ireturn, 1) := by decide +kernel
theorem dX5_fits_11 : decode cX5_fits 11 = .ok (.iconst 0, 1) := by decide +kernel
theorem dX5_fits_12 : decode cX5_fits 12 = .ok (.istore_n 2, 1) := by decide +kernel
theorem dX5_fits_13 : decode cX5_fits 13 = .ok (.bipush (-9), 2) := by decide +kernel
theorem dX5_fits_15 : decode cX5_fits 15 = .ok (.istore_n 3, 1) := by decide +kernel
theorem dX5_fits_16 : decode cX5_fits 16 = .ok (.aload_n 0, 1) := by decide +kernel
theorem dX5_fits_17 : decode cX5_fits 17 = .ok (.getfield 19, 3) := by decide +kernel
theorem dX5_fits_20 : decode cX5_fits 20 = .ok (.invokevirtual 221, 3) := by decide +kernel
theorem dX5_fits_23 : decode cX5_fits 23 = .ok (.istore 4, 2) := by decide +kernel
theorem dX5_fits_25 : decode cX5_fits 25 = .ok (.iconst 0, 1) := by decide +kernel
theorem dX5_fits_26 : decode cX5_fits 26 = .ok (.istore 5, 2) := by decide +kernel
theorem dX5_fits_28 : decode cX5_fits 28 = .ok (.iload 5, 2) := by decide +kernel
theorem dX5_fits_30 : decode cX5_fits 30 = .ok (.aload_n 0, 1) := by decide +kernel
theorem dX5_fits_31 : decode cX5_fits 31 = .ok (.getfield 19, 3) := by decide +kernel
theorem dX5_fits_34 : decode cX5_fits 34 = .ok (.getfield 224, 3) := by decide +kernel
theorem dX5_fits_37 : decode cX5_fits 37 = .ok (.if_icmp .ge 95, 3) := by decide +kernel
theorem dX5_fits_40 : decode cX5_fits 40 = .ok (.iconst 1, 1) := by decide +kernel
theorem dX5_fits_41 : decode cX5_fits 41 = .ok (.istore 6, 2) := by decide +kernel
theorem dX5_fits_43 : decode cX5_fits 43 = .ok (.iload 6, 2) := by decide +kernel
theorem dX5_fits_45 : decode cX5_fits 45 = .ok (.bipush 9, 2) := by decide +kernel
theorem dX5_fits_47 : decode cX5_fits 47 = .ok (.if_icmp .gt 79, 3) := by decide +kernel
theorem dX5_fits_50 : decode cX5_fits 50 = .ok (.iload 5, 2) := by decide +kernel
theorem dX5_fits_52 : decode cX5_fits 52 = .ok (.iload 6, 2) := by decide +kernel
theorem dX5_fits_54 : decode cX5_fits 54 = .ok (.iadd, 1) := by decide +kernel
theorem dX5_fits_55 : decode cX5_fits 55 = .ok (.aload_n 0, 1) := by decide +kernel
theorem dX5_fits_56 : decode cX5_fits 56 = .ok (.getfield 19, 3) := by decide +kernel
theorem dX5_fits_59 : decode cX5_fits 59 = .ok (.getfield 224, 3) := by decide +kernel
theorem dX5_fits_62 : decode cX5_fits 62 = .ok (.if_icmp .gt 64, 3) := by decide +kernel
theorem dX5_fits_65 : decode cX5_fits 65 = .ok (.iload 5, 2) := by decide +kernel
theorem dX5_fits_67 : decode cX5_fits 67 = .ok (.iload 6, 2) := by decide +kernel
theorem dX5_fits_69 : decode cX5_fits 69 = .ok (.invokestatic 160, 3) := by decide +kernel
theorem dX5_fits_72 : decode cX5_fits 72 = .ok (.istore 7, 2) := by decide +kernel
theorem dX5_fits_74 : decode cX5_fits 74 = .ok (.aload_n 0, 1) := by decide +kernel
theorem dX5_fits_75 : decode cX5_fits 75 = .ok (.aload_n 0, 1) := by decide +kernel
theorem dX5_fits_76 : decode cX5_fits 76 = .ok (.getfield 19, 3) := by decide +kernel
theorem dX5_fits_79 : decode cX5_fits 79 = .ok (.invokevirtual 221, 3) := by decide +kernel
theorem dX5_fits_82 : decode cX5_fits 82 = .ok (.iload 7, 2) := by decide +kernel
theorem dX5_fits_84 : decode cX5_fits 84 = .ok (.iconst (-1), 1) := by decide +kernel
theorem dX5_fits_85 : decode cX5_fits 85 = .ok (.ixor, 1) := by decide +kernel
theorem dX5_fits_86 : decode cX5_fits 86 = .ok (.iand, 1) := by decide +kernel
theorem dX5_fits_87 : decode cX5_fits 87 = .ok (.invokevirtual 227, 3) := by decide +kernel
theorem dX5_fits_90 : decode cX5_fits 90 = .ok (.ifCond .eq 30, 3) := by decide +kernel
theorem dX5_fits_93 : decode cX5_fits 93 = .ok (.iload_n 2, 1) := by decide +kernel
theorem dX5_fits_94 : decode cX5_fits 94 = .ok (.ifCond .ne 14, 3) := by decide +kernel
theorem dX5_fits_97 : decode cX5_fits 97 = .ok (.iload 5, 2) := by decide +kernel
theorem dX5_fits_99 : decode cX5_fits 99 = .ok (.bipush 100, 2) := by decide +kernel
theorem dX5_fits_101 : decode cX5_fits 101 = .ok (.imul, 1) := by decide +kernel
theorem dX5_fits_102 : decode cX5_fits 102 = .ok (.iload 6, 2) := by decide +kernel
theorem dX5_fits_104 : decode cX5_fits 104 = .ok (.iadd, 1) := by decide +kernel
theorem dX5_fits_105 : decode cX5_fits 105 = .ok (.goto 4, 3) := by decide +kernel
theorem dX5_fits_108 : decode cX5_fits 108 = .ok (.iload_n 3, 1) := by decide +kernel
theorem dX5_fits_109 : decode cX5_fits 109 = .ok (.istore_n 3, 1) := by decide +kernel
theorem dX5_fits_110 : decode cX5_fits 110 = .ok (.iload 4, 2) := by decide +kernel
theorem dX5_fits_112 : decode cX5_fits 112 = .ok (.iload 7, 2) := by decide +kernel
theorem dX5_fits_114 : decode cX5_fits 114 = .ok (.iand, 1) := by decide +kernel
theorem dX5_fits_115 : decode cX5_fits 115 = .ok (.istore 4, 2) := by decide +kernel
theorem dX5_fits_117 : decode cX5_fits 117 = .ok (.iinc 2 1, 3) := by decide +kernel
theorem dX5_fits_120 : decode cX5_fits 120 = .ok (.iinc 6 1, 3) := by decide +kernel
theorem dX5_fits_123 : decode cX5_fits 123 = .ok (.goto (-80), 3) := by decide +kernel
theorem dX5_fits_126 : decode cX5_fits 126 = .ok (.iinc 5 1, 3) := by decide +kernel
theorem dX5_fits_129 : decode cX5_fits 129 = .ok (.goto (-101), 3) := by decide +kernel
theorem dX5_fits_132 : decode cX5_fits 132 = .ok (.iload_n 1, 1) := by decide +kernel
theorem dX5_fits_133 : decode cX5_fits 133 = .ok (.ifCond .ne 5, 3) := by decide +kernel
theorem dX5_fits_136 : decode cX5_fits 136 = .ok (.iload_n 2, 1) := by decide +kernel
theorem dX5_fits_137 : decode cX5_fits 137 = .ok (.ireturn, 1) := by decide +kernel
theorem dX5_fits_138 : decode cX5_fits 138 = .ok (.iload_n 2, 1) := by decide +kernel
theorem dX5_fits_139 : decode cX5_fits 139 = .ok (.ifCond .ne 6, 3) := by decide +kernel
theorem dX5_fits_142 : decode cX5_fits 142 = .ok (.bipush (-9), 2) := by decide +kernel
theorem dX5_fits_144 : decode cX5_fits 144 = .ok (.ireturn, 1) := by decide +kernel
theorem dX5_fits_145 : decode cX5_fits 145 = .ok (.iload_n 1, 1) := by decide +kernel
theorem dX5_fits_146 : decode cX5_fits 146 = .ok (.iconst 1, 1) := by decide +kernel
theorem dX5_fits_147 : decode cX5_fits 147 = .ok (.if_icmp .ne 7, 3) := by decide +kernel
theorem dX5_fits_150 : decode cX5_fits 150 = .ok (.iload_n 3, 1) := by decide +kernel
theorem dX5_fits_151 : decode cX5_fits 151 = .ok (.goto 5, 3) := by decide +kernel
theorem dX5_fits_154 : decode cX5_fits 154 = .ok (.iload 4, 2) := by decide +kernel
theorem dX5_fits_156 : decode cX5_fits 156 = .ok (.ireturn, 1) := by decide +kernel
theorem dX5_odds_0 : decode cX5_odds 0 = .ok (.iload_n 1, 1) := by decide +kernel
theorem dX5_odds_1 : decode cX5_odds 1 = .ok (.iconst 0, 1) := by decide +kernel
theorem dX5_odds_2 : decode cX5_odds 2 = .ok (.bipush 10, 2) := by decide +kernel
theorem dX5_odds_4 : decode cX5_odds 4 = .ok (.invokestatic 60, 3) := by decide +kernel
theorem dX5_odds_7 : decode cX5_odds 7 = .ok (.ifCond .eq 23, 3) := by decide +kernel
theorem dX5_odds_10 : decode cX5_odds 10 = .ok (.iload_n 2, 1) := by decide +kernel
theorem dX5_odds_11 : decode cX5_odds 11 = .ok (.iconst 0, 1) := by decide +kernel
theorem dX5_odds_12 : decode cX5_odds 12 = .ok (.sipush 999, 3) := by decide +kernel
theorem dX5_odds_15 : decode cX5_odds 15 = .ok (.invokestatic 60, 3) := by decide +kernel
theorem dX5_odds_18 : decode cX5_odds 18 = .ok (.ifCond .eq 12, 3) := by decide +kernel
theorem dX5_odds_21 : decode cX5_odds 21 = .ok (.iload_n 3, 1) := by decide +kernel
theorem dX5_odds_22 : decode cX5_odds 22 = .ok (.iconst 0, 1) := by decide +kernel
theorem dX5_odds_23 : decode cX5_odds 23 = .ok (.iconst 1, 1) := by decide +kernel
theorem dX5_odds_24 : decode cX5_odds 24 = .ok (.invokestatic 60, 3) := by decide +kernel
theorem dX5_odds_27 : decode cX5_odds 27 = .ok (.ifCond .ne 5, 3) := by decide +kernel
theorem dX5_odds_30 : decode cX5_odds 30 = .ok (.iconst (-1), 1) := by decide +kernel
theorem dX5_odds_31 : decode cX5_odds 31 = .ok (.ireturn, 1) := by decide +kernel
theorem dX5_odds_32 : decode cX5_odds 32 = .ok (.aload_n 0, 1) := by decide +kernel
theorem dX5_odds_33 : decode cX5_odds 33 = .ok (.getfield 19, 3) := by decide +kernel
theorem dX5_odds_36 : decode cX5_odds 36 = .ok (.aload_n 0, 1) := by decide +kernel
theorem dX5_odds_37 : decode cX5_odds 37 = .ok (.invokevirtual 125, 3) := by decide +kernel
theorem dX5_odds_40 : decode cX5_odds 40 = .ok (.invokevirtual 218, 3) := by decide +kernel
theorem dX5_odds_43 : decode cX5_odds 43 = .ok (.istore 4, 2) := by decide +kernel
theorem dX5_odds_45 : decode cX5_odds 45 = .ok (.iconst 0, 1) := by decide +kernel
theorem dX5_odds_46 : decode cX5_odds 46 = .ok (.istore 5, 2) := by decide +kernel
theorem dX5_odds_48 : decode cX5_odds 48 = .ok (.iconst 0, 1) := by decide +kernel
theorem dX5_odds_49 : decode cX5_odds 49 = .ok (.istore 6, 2) := by decide +kernel
theorem dX5_odds_51 : decode cX5_odds 51 = .ok (.iconst 0, 1) := by decide +kernel
theorem dX5_odds_52 : decode cX5_odds 52 = .ok (.istore 7, 2) := by decide +kernel
theorem dX5_odds_54 : decode cX5_odds 54 = .ok (.iload 7, 2) := by decide +kernel
theorem dX5_odds_56 : decode cX5_odds 56 = .ok (.bipush 16, 2) := by decide +kernel
theorem dX5_odds_58 : decode cX5_odds 58 = .ok (.if_icmp .ge 60, 3) := by decide +kernel
theorem dX5_odds_61 : decode cX5_odds 61 = .ok (.iload 7, 2) := by decide +kernel
theorem dX5_odds_63 : decode cX5_odds 63 = .ok (.iload 4, 2) := by decide +kernel
theorem dX5_odds_65 : decode cX5_odds 65 = .ok (.iconst (-1), 1) := by decide +kernel
theorem dX5_odds_66 : decode cX5_odds 66 = .ok (.ixor, 1) := by decide +kernel
theorem dX5_odds_67 : decode cX5_odds 67 = .ok (.iand, 1) := by decide +kernel
theorem dX5_odds_68 : decode cX5_odds 68 = .ok (.ifCond .ne 44, 3) := by decide +kernel
theorem dX5_odds_71 : decode cX5_odds 71 = .ok (.iload 7, 2) := by decide +kernel
theorem dX5_odds_73 : decode cX5_odds 73 = .ok (.iload 4, 2) := by decide +kernel
theorem dX5_odds_75 : decode cX5_odds 75 = .ok (.iload_n 1, 1) := by decide +kernel
theorem dX5_odds_76 : decode cX5_odds 76 = .ok (.invokestatic 230, 3) := by decide +kernel
theorem dX5_odds_79 : decode cX5_odds 79 = .ok (.istore 8, 2) := by decide +kernel
theorem dX5_odds_81 : decode cX5_odds 81 = .ok (.iload 6, 2) := by decide +kernel
theorem dX5_odds_83 : decode cX5_odds 83 = .ok (.iload 8, 2) := by decide +kernel
theorem dX5_odds_85 : decode cX5_odds 85 = .ok (.iadd, 1) := by decide +kernel
theorem dX5_odds_86 : decode cX5_odds 86 = .ok (.istore 6, 2) := by decide +kernel
theorem dX5_odds_88 : decode cX5_odds 88 = .ok (.iload 5, 2) := by decide +kernel
theorem dX5_odds_90 : decode cX5_odds 90 = .ok (.aload_n 0, 1) := by decide +kernel
theorem dX5_odds_91 : decode cX5_odds 91 = .ok (.getfield 19, 3) := by decide +kernel
theorem dX5_odds_94 : decode cX5_odds 94 = .ok (.iload 7, 2) := by decide +kernel
theorem dX5_odds_96 : decode cX5_odds 96 = .ok (.invokevirtual 234, 3) := by decide +kernel
theorem dX5_odds_99 : decode cX5_odds 99 = .ok (.iload_n 2, 1) := by decide +kernel
theorem dX5_odds_100 : decode cX5_odds 100 = .ok (.if_icmp .lt 8, 3) := by decide +kernel
theorem dX5_odds_103 : decode cX5_odds 103 = .ok (.iload 8, 2) := by decide +kernel
theorem dX5_odds_105 : decode cX5_odds 105 = .ok (.goto 4, 3) := by decide +kernel
theorem dX5_odds_108 : decode cX5_odds 108 = .ok (.iconst 0, 1) := by decide +kernel
theorem dX5_odds_109 : decode cX5_odds 109 = .ok (.iadd, 1) := by decide +kernel
theorem dX5_odds_110 : decode cX5_odds 110 = .ok (.istore 5, 2) := by decide +kernel
theorem dX5_odds_112 : decode cX5_odds 112 = .ok (.iinc 7 1, 3) := by decide +kernel
theorem dX5_odds_115 : decode cX5_odds 115 = .ok (.goto (-61), 3) := by decide +kernel
theorem dX5_odds_118 : decode cX5_odds 118 = .ok (.iload 6, 2) := by decide +kernel
theorem dX5_odds_120 : decode cX5_odds 120 = .ok (.iload 5, 2) := by decide +kernel
theorem dX5_odds_122 : decode cX5_odds 122 = .ok (.invokestatic 237, 3) := by decide +kernel
theorem dX5_odds_125 : decode cX5_odds 125 = .ok (.istore 7, 2) := by decide +kernel
theorem dX5_odds_127 : decode cX5_odds 127 = .ok (.iload 7, 2) := by decide +kernel
theorem dX5_odds_129 : decode cX5_odds 129 = .ok (.ifCond .ne 6, 3) := by decide +kernel
theorem dX5_odds_132 : decode cX5_odds 132 = .ok (.bipush (-9), 2) := by decide +kernel
theorem dX5_odds_134 : decode cX5_odds 134 = .ok (.ireturn, 1) := by decide +kernel
theorem dX5_odds_135 : decode cX5_odds 135 = .ok (.iload_n 3, 1) := by decide +kernel
theorem dX5_odds_136 : decode cX5_odds 136 = .ok (.ifCond .ne 8, 3) := by decide +kernel
theorem dX5_odds_139 : decode cX5_odds 139 = .ok (.iload 5, 2) := by decide +kernel
theorem dX5_odds_141 : decode cX5_odds 141 = .ok (.goto 5, 3) := by decide +kernel
theorem dX5_odds_144 : decode cX5_odds 144 = .ok (.iload 6, 2) := by decide +kernel
theorem dX5_odds_146 : decode cX5_odds 146 = .ok (.iload 7, 2) := by decide +kernel
theorem dX5_odds_148 : decode cX5_odds 148 = .ok (.idiv, 1) := by decide +kernel
theorem dX5_odds_149 : decode cX5_odds 149 = .ok (.ireturn, 1) := by decide +kernel
theorem dX5_mark_0 : decode cX5_mark 0 = .ok (.aload_n 0, 1) := by decide +kernel
theorem dX5_mark_1 : decode cX5_mark 1 = .ok (.iload_n 2, 1) := by decide +kernel
theorem dX5_mark_2 : decode cX5_mark 2 = .ok (.invokevirtual 110, 3) := by decide +kernel
theorem dX5_mark_5 : decode cX5_mark 5 = .ok (.ifCond .ne 6, 3) := by decide +kernel
theorem dX5_mark_8 : decode cX5_mark 8 = .ok (.ldc 240, 2) := by decide +kernel
theorem dX5_mark_10 : decode cX5_mark 10 = .ok (.ireturn, 1) := by decide +kernel
theorem dX5_mark_11 : decode cX5_mark 11 = .ok (.iload_n 1, 1) := by decide +kernel
theorem dX5_mark_12 : decode cX5_mark 12 = .ok (.tableswitch 76 0 5 #[40, 46, 52, 58, 64, 70], 40) := by decide +kernel
theorem dX5_mark_52 : decode cX5_mark 52 = .ok (.aload_n 0, 1) := by decide +kernel
theorem dX5_mark_53 : decode cX5_mark 53 = .ok (.iload_n 2, 1) := by decide +kernel
theorem dX5_mark_54 : decode cX5_mark 54 = .ok (.invokevirtual 241, 3) := by decide +kernel
theorem dX5_mark_57 : decode cX5_mark 57 = .ok (.ireturn, 1) := by decide +kernel
theorem dX5_mark_58 : decode cX5_mark 58 = .ok (.aload_n 0, 1) := by decide +kernel
theorem dX5_mark_59 : decode cX5_mark 59 = .ok (.iload_n 2, 1) := by decide +kernel
theorem dX5_mark_60 : decode cX5_mark 60 = .ok (.invokevirtual 244, 3) := by decide +kernel
theorem dX5_mark_63 : decode cX5_mark 63 = .ok (.ireturn, 1) := by decide +kernel
theorem dX5_mark_64 : decode cX5_mark 64 = .ok (.aload_n 0, 1) := by decide +kernel
theorem dX5_mark_65 : decode cX5_mark 65 = .ok (.iload_n 2, 1) := by decide +kernel
theorem dX5_mark_66 : decode cX5_mark 66 = .ok (.invokevirtual 247, 3) := by decide +kernel
theorem dX5_mark_69 : decode cX5_mark 69 = .ok (.ireturn, 1) := by decide +kernel
theorem dX5_mark_70 : decode cX5_mark 70 = .ok (.aload_n 0, 1) := by decide +kernel
theorem dX5_mark_71 : decode cX5_mark 71 = .ok (.iload_n 2, 1) := by decide +kernel
theorem dX5_mark_72 : decode cX5_mark 72 = .ok (.invokevirtual 250, 3) := by decide +kernel
theorem dX5_mark_75 : decode cX5_mark 75 = .ok (.ireturn, 1) := by decide +kernel
theorem dX5_mark_76 : decode cX5_mark 76 = .ok (.aload_n 0, 1) := by decide +kernel
theorem dX5_mark_77 : decode cX5_mark 77 = .ok (.iload_n 2, 1) := by decide +kernel
theorem dX5_mark_78 : decode cX5_mark 78 = .ok (.invokevirtual 253, 3) := by decide +kernel
theorem dX5_mark_81 : decode cX5_mark 81 = .ok (.ireturn, 1) := by decide +kernel
theorem dX5_mark_82 : decode cX5_mark 82 = .ok (.aload_n 0, 1) := by decide +kernel
theorem dX5_mark_83 : decode cX5_mark 83 = .ok (.iload_n 2, 1) := by decide +kernel
theorem dX5_mark_84 : decode cX5_mark 84 = .ok (.invokevirtual 256, 3) := by decide +kernel
theorem dX5_mark_87 : decode cX5_mark 87 = .ok (.ireturn, 1) := by decide +kernel
theorem dX5_mark_88 : decode cX5_mark 88 = .ok (.ldc 240, 2) := by decide +kernel
theorem dX5_mark_90 : decode cX5_mark 90 = .ok (.ireturn, 1) := by decide +kernel
theorem dX5_keep_0 : decode cX5_keep 0 = .ok (.iload_n 1, 1) := by decide +kernel
theorem dX5_keep_1 : decode cX5_keep 1 = .ok (.iconst 0, 1) := by decide +kernel
theorem dX5_keep_2 : decode cX5_keep 2 = .ok (.iconst 1, 1) := by decide +kernel
theorem dX5_keep_3 : decode cX5_keep 3 = .ok (.invokestatic 60, 3) := by decide +kernel
theorem dX5_keep_6 : decode cX5_keep 6 = .ok (.ifCond .ne 5, 3) := by decide +kernel
theorem dX5_keep_9 : decode cX5_keep 9 = .ok (.iconst (-1), 1) := by decide +kernel
theorem dX5_keep_10 : decode cX5_keep 10 = .ok (.ireturn, 1) := by decide +kernel
theorem dX5_keep_11 : decode cX5_keep 11 = .ok (.aload_n 0, 1) := by decide +kernel
theorem dX5_keep_12 : decode cX5_keep 12 = .ok (.getfield 30, 3) := by decide +kernel
theorem dX5_keep_15 : decode cX5_keep 15 = .ok (.iload_n 1, 1) := by decide +kernel
theorem dX5_keep_16 : decode cX5_keep 16 = .ok (.aaload, 1) := by decide +kernel
theorem dX5_keep_17 : decode cX5_keep 17 = .ok (.aload_n 0, 1) := by decide +kernel
theorem dX5_keep_18 : decode cX5_keep 18 = .ok (.getfield 26, 3) := by decide +kernel
theorem dX5_keep_21 : decode cX5_keep 21 = .ok (.invokevirtual 259, 3) := by decide +kernel
theorem dX5_keep_24 : decode cX5_keep 24 = .ok (.aload_n 0, 1) := by decide +kernel
theorem dX5_keep_25 : decode cX5_keep 25 = .ok (.getfield 34, 3) := by decide +kernel
theorem dX5_keep_28 : decode cX5_keep 28 = .ok (.iload_n 1, 1) := by decide +kernel
theorem dX5_keep_29 : decode cX5_keep 29 = .ok (.iconst 1, 1) := by decide +kernel
theorem dX5_keep_30 : decode cX5_keep 30 = .ok (.bastore, 1) := by decide +kernel
theorem dX5_keep_31 : decode cX5_keep 31 = .ok (.aload_n 0, 1) := by decide +kernel
theorem dX5_keep_32 : decode cX5_keep 32 = .ok (.getfield 26, 3) := by decide +kernel
theorem dX5_keep_35 : decode cX5_keep 35 = .ok (.getfield 104, 3) := by decide +kernel
theorem dX5_keep_38 : decode cX5_keep 38 = .ok (.getfield 167, 3) := by decide +kernel
theorem dX5_keep_41 : decode cX5_keep 41 = .ok (.ireturn, 1) := by decide +kernel
theorem dX5_back_0 : decode cX5_back 0 = .ok (.iload_n 1, 1) := by decide +kernel
theorem dX5_back_1 : decode cX5_back 1 = .ok (.iconst 0, 1) := by decide +kernel
theorem dX5_back_2 : decode cX5_back 2 = .ok (.iconst 1, 1) := by decide +kernel
theorem dX5_back_3 : decode cX5_back 3 = .ok (.invokestatic 60, 3) := by decide +kernel
theorem dX5_back_6 : decode cX5_back 6 = .ok (.ifCond .ne 5, 3) := by decide +kernel
theorem dX5_back_9 : decode cX5_back 9 = .ok (.iconst (-1), 1) := by decide +kernel
theorem dX5_back_10 : decode cX5_back 10 = .ok (.ireturn, 1) := by decide +kernel
theorem dX5_back_11 : decode cX5_back 11 = .ok (.aload_n 0, 1) := by decide +kernel
theorem dX5_back_12 : decode cX5_back 12 = .ok (.getfield 34, 3) := by decide +kernel
theorem dX5_back_15 : decode cX5_back 15 = .ok (.iload_n 1, 1) := by decide +kernel
theorem dX5_back_16 : decode cX5_back 16 = .ok (.baload, 1) := by decide +kernel
theorem dX5_back_17 : decode cX5_back 17 = .ok (.ifCond .ne 6, 3) := by decide +kernel
theorem dX5_back_20 : decode cX5_back 20 = .ok (.bipush (-2), 2) := by decide +kernel
theorem dX5_back_22 : decode cX5_back 22 = .ok (.ireturn, 1) := by decide +kernel
theorem dX5_back_23 : decode cX5_back 23 = .ok (.aload_n 0, 1) := by decide +kernel
theorem dX5_back_24 : decode cX5_back 24 = .ok (.getfield 26, 3) := by decide +kernel
theorem dX5_back_27 : decode cX5_back 27 = .ok (.aload_n 0, 1) := by decide +kernel
theorem dX5_back_28 : decode cX5_back 28 = .ok (.getfield 30, 3) := by decide +kernel
theorem dX5_back_31 : decode cX5_back 31 = .ok (.iload_n 1, 1) := by decide +kernel
theorem dX5_back_32 : decode cX5_back 32 = .ok (.aaload, 1) := by decide +kernel
theorem dX5_back_33 : decode cX5_back 33 = .ok (.invokevirtual 259, 3) := by decide +kernel
theorem dX5_back_36 : decode cX5_back 36 = .ok (.aload_n 0, 1) := by decide +kernel
theorem dX5_back_37 : decode cX5_back 37 = .ok (.getfield 26, 3) := by decide +kernel
theorem dX5_back_40 : decode cX5_back 40 = .ok (.getfield 104, 3) := by decide +kernel
theorem dX5_back_43 : decode cX5_back 43 = .ok (.getfield 167, 3) := by decide +kernel
theorem dX5_back_46 : decode cX5_back 46 = .ok (.ireturn, 1) := by decide +kernel
theorem dX5_count_0 : decode cX5_count 0 = .ok (.iload_n 1, 1) := by decide +kernel
theorem dX5_count_1 : decode cX5_count 1 = .ok (.tableswitch 123 0 8 #[51, 59, 67, 75, 83, 91, 99, 104, 112], 51) := by decide +kernel
theorem dX5_count_52 : decode cX5_count 52 = .ok (.aload_n 0, 1) := by decide +kernel
theorem dX5_count_53 : decode cX5_count 53 = .ok (.getfield 19, 3) := by decide +kernel
theorem dX5_count_56 : decode cX5_count 56 = .ok (.getfield 224, 3) := by decide +kernel
theorem dX5_count_59 : decode cX5_count 59 = .ok (.ireturn, 1) := by decide +kernel
theorem dX5_count_60 : decode cX5_count 60 = .ok (.aload_n 0, 1) := by decide +kernel
theorem dX5_count_61 : decode cX5_count 61 = .ok (.getfield 19, 3) := by decide +kernel
theorem dX5_count_64 : decode cX5_count 64 = .ok (.getfield 262, 3) := by decide +kernel
theorem dX5_count_67 : decode cX5_count 67 = .ok (.ireturn, 1) := by decide +kernel
theorem dX5_count_68 : decode cX5_count 68 = .ok (.aload_n 0, 1) := by decide +kernel
theorem dX5_count_69 : decode cX5_count 69 = .ok (.getfield 19, 3) := by decide +kernel
theorem dX5_count_72 : decode cX5_count 72 = .ok (.getfield 265, 3) := by decide +kernel
theorem dX5_count_75 : decode cX5_count 75 = .ok (.ireturn, 1) := by decide +kernel
theorem dX5_count_76 : decode cX5_count 76 = .ok (.aload_n 0, 1) := by decide +kernel
theorem dX5_count_77 : decode cX5_count 77 = .ok (.getfield 19, 3) := by decide +kernel
theorem dX5_count_80 : decode cX5_count 80 = .ok (.getfield 268, 3) := by decide +kernel
theorem dX5_count_83 : decode cX5_count 83 = .ok (.ireturn, 1) := by decide +kernel
theorem dX5_count_84 : decode cX5_count 84 = .ok (.aload_n 0, 1) := by decide +kernel
theorem dX5_count_85 : decode cX5_count 85 = .ok (.getfield 19, 3) := by decide +kernel
theorem dX5_count_88 : decode cX5_count 88 = .ok (.getfield 271, 3) := by decide +kernel
theorem dX5_count_91 : decode cX5_count 91 = .ok (.ireturn, 1) := by decide +kernel
theorem dX5_count_92 : decode cX5_count 92 = .ok (.aload_n 0, 1) := by decide +kernel
theorem dX5_count_93 : decode cX5_count 93 = .ok (.getfield 19, 3) := by decide +kernel
theorem dX5_count_96 : decode cX5_count 96 = .ok (.getfield 274, 3) := by decide +kernel
theorem dX5_count_99 : decode cX5_count 99 = .ok (.ireturn, 1) := by decide +kernel
theorem dX5_count_100 : decode cX5_count 100 = .ok (.aload_n 0, 1) := by decide +kernel
theorem dX5_count_101 : decode cX5_count 101 = .ok (.getfield 52, 3) := by decide +kernel
theorem dX5_count_104 : decode cX5_count 104 = .ok (.ireturn, 1) := by decide +kernel
theorem dX5_count_105 : decode cX5_count 105 = .ok (.aload_n 0, 1) := by decide +kernel
theorem dX5_count_106 : decode cX5_count 106 = .ok (.getfield 26, 3) := by decide +kernel
theorem dX5_count_109 : decode cX5_count 109 = .ok (.getfield 185, 3) := by decide +kernel
theorem dX5_count_112 : decode cX5_count 112 = .ok (.ireturn, 1) := by decide +kernel
theorem dX5_count_113 : decode cX5_count 113 = .ok (.aload_n 0, 1) := by decide +kernel
theorem dX5_count_114 : decode cX5_count 114 = .ok (.getfield 12, 3) := by decide +kernel
theorem dX5_count_117 : decode cX5_count 117 = .ok (.getfield 64, 3) := by decide +kernel
theorem dX5_count_120 : decode cX5_count 120 = .ok (.getfield 74, 3) := by decide +kernel
theorem dX5_count_123 : decode cX5_count 123 = .ok (.ireturn, 1) := by decide +kernel
theorem dX5_count_124 : decode cX5_count 124 = .ok (.iconst (-1), 1) := by decide +kernel
theorem dX5_count_125 : decode cX5_count 125 = .ok (.ireturn, 1) := by decide +kernel
theorem dX5_trace_0 : decode cX5_trace 0 = .ok (.aload_n 0, 1) := by decide +kernel
theorem dX5_trace_1 : decode cX5_trace 1 = .ok (.getfield 56, 3) := by decide +kernel
theorem dX5_trace_4 : decode cX5_trace 4 = .ok (.lreturn, 1) := by decide +kernel
theorem dX5_isWithin_0 : decode cX5_isWithin 0 = .ok (.iload_n 0, 1) := by decide +kernel
theorem dX5_isWithin_1 : decode cX5_isWithin 1 = .ok (.iload_n 1, 1) := by decide +kernel
theorem dX5_isWithin_2 : decode cX5_isWithin 2 = .ok (.if_icmp .lt 12, 3) := by decide +kernel
theorem dX5_isWithin_5 : decode cX5_isWithin 5 = .ok (.iload_n 0, 1) := by decide +kernel
theorem dX5_isWithin_6 : decode cX5_isWithin 6 = .ok (.iload_n 2, 1) := by decide +kernel
theorem dX5_isWithin_7 : decode cX5_isWithin 7 = .ok (.if_icmp .gt 7, 3) := by decide +kernel
theorem dX5_isWithin_10 : decode cX5_isWithin 10 = .ok (.iconst 1, 1) := by decide +kernel
theorem dX5_isWithin_11 : decode cX5_isWithin 11 = .ok (.goto 4, 3) := by decide +kernel
theorem dX5_isWithin_14 : decode cX5_isWithin 14 = .ok (.iconst 0, 1) := by decide +kernel
theorem dX5_isWithin_15 : decode cX5_isWithin 15 = .ok (.ireturn, 1) := by decide +kernel
theorem dX5_isDay_0 : decode cX5_isDay 0 = .ok (.iload_n 1, 1) := by decide +kernel
theorem dX5_isDay_1 : decode cX5_isDay 1 = .ok (.iconst 0, 1) := by decide +kernel
theorem dX5_isDay_2 : decode cX5_isDay 2 = .ok (.aload_n 0, 1) := by decide +kernel
theorem dX5_isDay_3 : decode cX5_isDay 3 = .ok (.getfield 19, 3) := by decide +kernel
theorem dX5_isDay_6 : decode cX5_isDay 6 = .ok (.getfield 224, 3) := by decide +kernel
theorem dX5_isDay_9 : decode cX5_isDay 9 = .ok (.iconst 1, 1) := by decide +kernel
theorem dX5_isDay_10 : decode cX5_isDay 10 = .ok (.isub, 1) := by decide +kernel
theorem dX5_isDay_11 : decode cX5_isDay 11 = .ok (.invokestatic 60, 3) := by decide +kernel
theorem dX5_isDay_14 : decode cX5_isDay 14 = .ok (.ireturn, 1) := by decide +kernel
theorem dX5_isCrop_0 : decode cX5_isCrop 0 = .ok (.iload_n 1, 1) := by decide +kernel
theorem dX5_isCrop_1 : decode cX5_isCrop 1 = .ok (.iconst 0, 1) := by decide +kernel
theorem dX5_isCrop_2 : decode cX5_isCrop 2 = .ok (.aload_n 0, 1) := by decide +kernel
theorem dX5_isCrop_3 : decode cX5_isCrop 3 = .ok (.getfield 19, 3) := by decide +kernel
theorem dX5_isCrop_6 : decode cX5_isCrop 6 = .ok (.getfield 265, 3) := by decide +kernel
theorem dX5_isCrop_9 : decode cX5_isCrop 9 = .ok (.iconst 1, 1) := by decide +kernel
theorem dX5_isCrop_10 : decode cX5_isCrop 10 = .ok (.isub, 1) := by decide +kernel
theorem dX5_isCrop_11 : decode cX5_isCrop 11 = .ok (.invokestatic 60, 3) := by decide +kernel
theorem dX5_isCrop_14 : decode cX5_isCrop 14 = .ok (.ireturn, 1) := by decide +kernel
theorem dX5_isLoan_0 : decode cX5_isLoan 0 = .ok (.iload_n 0, 1) := by decide +kernel
theorem dX5_isLoan_1 : decode cX5_isLoan 1 = .ok (.iconst 0, 1) := by decide +kernel
theorem dX5_isLoan_2 : decode cX5_isLoan 2 = .ok (.iconst 3, 1) := by decide +kernel
theorem dX5_isLoan_3 : decode cX5_isLoan 3 = .ok (.invokestatic 60, 3) := by decide +kernel
theorem dX5_isLoan_6 : decode cX5_isLoan 6 = .ok (.ireturn, 1) := by decide +kernel
theorem dX5_has_0 : decode cX5_has 0 = .ok (.iload_n 0, 1) := by decide +kernel
theorem dX5_has_1 : decode cX5_has 1 = .ok (.iload_n 1, 1) := by decide +kernel
theorem dX5_has_2 : decode cX5_has 2 = .ok (.ishr, 1) := by decide +kernel
theorem dX5_has_3 : decode cX5_has 3 = .ok (.iconst 1, 1) := by decide +kernel
theorem dX5_has_4 : decode cX5_has 4 = .ok (.iand, 1) := by decide +kernel
theorem dX5_has_5 : decode cX5_has 5 = .ok (.ifCond .eq 7, 3) := by decide +kernel
theorem dX5_has_8 : decode cX5_has 8 = .ok (.iconst 1, 1) := by decide +kernel
theorem dX5_has_9 : decode cX5_has 9 = .ok (.goto 4, 3) := by decide +kernel
theorem dX5_has_12 : decode cX5_has 12 = .ok (.iconst 0, 1) := by decide +kernel
theorem dX5_has_13 : decode cX5_has 13 = .ok (.ireturn, 1) := by decide +kernel
theorem dX5_rowBits_0 : decode cX5_rowBits 0 = .ok (.iconst 1, 1) := by decide +kernel
theorem dX5_rowBits_1 : decode cX5_rowBits 1 = .ok (.iload_n 1, 1) := by decide +kernel
theorem dX5_rowBits_2 : decode cX5_rowBits 2 = .ok (.ishl, 1) := by decide +kernel
theorem dX5_rowBits_3 : decode cX5_rowBits 3 = .ok (.iconst 1, 1) := by decide +kernel
theorem dX5_rowBits_4 : decode cX5_rowBits 4 = .ok (.isub, 1) := by decide +kernel
theorem dX5_rowBits_5 : decode cX5_rowBits 5 = .ok (.iload_n 0, 1) := by decide +kernel
theorem dX5_rowBits_6 : decode cX5_rowBits 6 = .ok (.ishl, 1) := by decide +kernel
theorem dX5_rowBits_7 : decode cX5_rowBits 7 = .ok (.ireturn, 1) := by decide +kernel
theorem dX5_daysIn_0 : decode cX5_daysIn 0 = .ok (.aload_n 0, 1) := by decide +kernel
theorem dX5_daysIn_1 : decode cX5_daysIn 1 = .ok (.getfield 26, 3) := by decide +kernel
theorem dX5_daysIn_4 : decode cX5_daysIn 4 = .ok (.getfield 104, 3) := by decide +kernel
theorem dX5_daysIn_7 : decode cX5_daysIn 7 = .ok (.aload_n 0, 1) := by decide +kernel
theorem dX5_daysIn_8 : decode cX5_daysIn 8 = .ok (.getfield 19, 3) := by decide +kernel
theorem dX5_daysIn_11 : decode cX5_daysIn 11 = .ok (.invokevirtual 216, 3) := by decide +kernel
theorem dX5_daysIn_14 : decode cX5_daysIn 14 = .ok (.ireturn, 1) := by decide +kernel
theorem dX5_isRowIn_0 : decode cX5_isRowIn 0 = .ok (.iload_n 1, 1) := by decide +kernel
theorem dX5_isRowIn_1 : decode cX5_isRowIn 1 = .ok (.iload_n 2, 1) := by decide +kernel
theorem dX5_isRowIn_2 : decode cX5_isRowIn 2 = .ok (.iadd, 1) := by decide +kernel
theorem dX5_isRowIn_3 : decode cX5_isRowIn 3 = .ok (.aload_n 0, 1) := by decide +kernel
theorem dX5_isRowIn_4 : decode cX5_isRowIn 4 = .ok (.getfield 19, 3) := by decide +kernel
theorem dX5_isRowIn_7 : decode cX5_isRowIn 7 = .ok (.getfield 224, 3) := by decide +kernel
theorem dX5_isRowIn_10 : decode cX5_isRowIn 10 = .ok (.if_icmp .gt 22, 3) := by decide +kernel
theorem dX5_isRowIn_13 : decode cX5_isRowIn 13 = .ok (.iload_n 1, 1) := by decide +kernel
theorem dX5_isRowIn_14 : decode cX5_isRowIn 14 = .ok (.iload_n 2, 1) := by decide +kernel
theorem dX5_isRowIn_15 : decode cX5_isRowIn 15 = .ok (.invokestatic 160, 3) := by decide +kernel
theorem dX5_isRowIn_18 : decode cX5_isRowIn 18 = .ok (.aload_n 0, 1) := by decide +kernel
theorem dX5_isRowIn_19 : decode cX5_isRowIn 19 = .ok (.invokevirtual 125, 3) := by decide +kernel
theorem dX5_isRowIn_22 : decode cX5_isRowIn 22 = .ok (.iconst (-1), 1) := by decide +kernel
theorem dX5_isRowIn_23 : decode cX5_isRowIn 23 = .ok (.ixor, 1) := by decide +kernel
theorem dX5_isRowIn_24 : decode cX5_isRowIn 24 = .ok (.iand, 1) := by decide +kernel
theorem dX5_isRowIn_25 : decode cX5_isRowIn 25 = .ok (.ifCond .ne 7, 3) := by decide +kernel
theorem dX5_isRowIn_28 : decode cX5_isRowIn 28 = .ok (.iconst 1, 1) := by decide +kernel
theorem dX5_isRowIn_29 : decode cX5_isRowIn 29 = .ok (.goto 4, 3) := by decide +kernel
theorem dX5_isRowIn_32 : decode cX5_isRowIn 32 = .ok (.iconst 0, 1) := by decide +kernel
theorem dX5_isRowIn_33 : decode cX5_isRowIn 33 = .ok (.ireturn, 1) := by decide +kernel
theorem dX5_ripensNow_0 : decode cX5_ripensNow 0 = .ok (.aload_n 0, 1) := by decide +kernel
theorem dX5_ripensNow_1 : decode cX5_ripensNow 1 = .ok (.getfield 19, 3) := by decide +kernel
theorem dX5_ripensNow_4 : decode cX5_ripensNow 4 = .ok (.iload_n 1, 1) := by decide +kernel
theorem dX5_ripensNow_5 : decode cX5_ripensNow 5 = .ok (.aload_n 0, 1) := by decide +kernel
theorem dX5_ripensNow_6 : decode cX5_ripensNow 6 = .ok (.invokevirtual 125, 3) := by decide +kernel
theorem dX5_ripensNow_9 : decode cX5_ripensNow 9 = .ok (.invokevirtual 128, 3) := by decide +kernel
theorem dX5_ripensNow_12 : decode cX5_ripensNow 12 = .ok (.bipush (-9), 2) := by decide +kernel
theorem dX5_ripensNow_14 : decode cX5_ripensNow 14 = .ok (.if_icmp .eq 7, 3) := by decide +kernel
theorem dX5_ripensNow_17 : decode cX5_ripensNow 17 = .ok (.iconst 1, 1) := by decide +kernel
theorem dX5_ripensNow_18 : decode cX5_ripensNow 18 = .ok (.goto 4, 3) := by decide +kernel
theorem dX5_ripensNow_21 : decode cX5_ripensNow 21 = .ok (.iconst 0, 1) := by decide +kernel
theorem dX5_ripensNow_22 : decode cX5_ripensNow 22 = .ok (.ireturn, 1) := by decide +kernel
theorem dX5_howDayIs_0 : decode cX5_howDayIs 0 = .ok (.aload_n 0, 1) := by decide +kernel
theorem dX5_howDayIs_1 : decode cX5_howDayIs 1 = .ok (.getfield 26, 3) := by decide +kernel
theorem dX5_howDayIs_4 : decode cX5_howDayIs 4 = .ok (.getfield 104, 3) := by decide +kernel
theorem dX5_howDayIs_7 : decode cX5_howDayIs 7 = .ok (.getfield 191, 3) := by decide +kernel
theorem dX5_howDayIs_10 : decode cX5_howDayIs 10 = .ok (.iload_n 1, 1) := by decide +kernel
theorem dX5_howDayIs_11 : decode cX5_howDayIs 11 = .ok (.invokestatic 277, 3) := by decide +kernel
theorem dX5_howDayIs_14 : decode cX5_howDayIs 14 = .ok (.ifCond .eq 5, 3) := by decide +kernel
theorem dX5_howDayIs_17 : decode cX5_howDayIs 17 = .ok (.iconst 2, 1) := by decide +kernel
theorem dX5_howDayIs_18 : decode cX5_howDayIs 18 = .ok (.ireturn, 1) := by decide +kernel
theorem dX5_howDayIs_19 : decode cX5_howDayIs 19 = .ok (.aload_n 0, 1) := by decide +kernel
theorem dX5_howDayIs_20 : decode cX5_howDayIs 20 = .ok (.getfield 26, 3) := by decide +kernel
theorem dX5_howDayIs_23 : decode cX5_howDayIs 23 = .ok (.getfield 104, 3) := by decide +kernel
theorem dX5_howDayIs_26 : decode cX5_howDayIs 26 = .ok (.iload_n 1, 1) := by decide +kernel
theorem dX5_howDayIs_27 : decode cX5_howDayIs 27 = .ok (.invokevirtual 107, 3) := by decide +kernel
theorem dX5_howDayIs_30 : decode cX5_howDayIs 30 = .ok (.bipush (-9), 2) := by decide +kernel
theorem dX5_howDayIs_32 : decode cX5_howDayIs 32 = .ok (.if_icmp .ne 7, 3) := by decide +kernel
theorem dX5_howDayIs_35 : decode cX5_howDayIs 35 = .ok (.iconst 0, 1) := by decide +kernel
theorem dX5_howDayIs_36 : decode cX5_howDayIs 36 = .ok (.goto 4, 3) := by decide +kernel
theorem dX5_howDayIs_39 : decode cX5_howDayIs 39 = .ok (.iconst 1, 1) := by decide +kernel
theorem dX5_howDayIs_40 : decode cX5_howDayIs 40 = .ok (.ireturn, 1) := by decide +kernel
theorem dX5_cheapestRow_0 : decode cX5_cheapestRow 0 = .ok (.aload_n 0, 1) := by decide +kernel
theorem dX5_cheapestRow_1 : decode cX5_cheapestRow 1 = .ok (.invokevirtual 125, 3) := by decide +kernel
theorem dX5_cheapestRow_4 : decode cX5_cheapestRow 4 = .ok (.istore_n 2, 1) := by decide +kernel
theorem dX5_cheapestRow_5 : decode cX5_cheapestRow 5 = .ok (.bipush (-9), 2) := by decide +kernel
theorem dX5_cheapestRow_7 : decode cX5_cheapestRow 7 = .ok (.istore_n 3, 1) := by decide +kernel
theorem dX5_cheapestRow_8 : decode cX5_cheapestRow 8 = .ok (.iconst (-1), 1) := by decide +kernel
theorem dX5_cheapestRow_9 : decode cX5_cheapestRow 9 = .ok (.istore 4, 2) := by decide +kernel
theorem dX5_cheapestRow_11 : decode cX5_cheapestRow 11 = .ok (.iconst 1, 1) := by decide +kernel
theorem dX5_cheapestRow_12 : decode cX5_cheapestRow 12 = .ok (.istore 5, 2) := by decide +kernel
theorem dX5_cheapestRow_14 : decode cX5_cheapestRow 14 = .ok (.iload 5, 2) := by decide +kernel
theorem dX5_cheapestRow_16 : decode cX5_cheapestRow 16 = .ok (.bipush 9, 2) := by decide +kernel
theorem dX5_cheapestRow_18 : decode cX5_cheapestRow 18 = .ok (.if_icmp .gt 101, 3) := by decide +kernel
theorem dX5_cheapestRow_21 : decode cX5_cheapestRow 21 = .ok (.iconst 0, 1) := by decide +kernel
theorem dX5_cheapestRow_22 : decode cX5_cheapestRow 22 = .ok (.istore 6, 2) := by decide +kernel
theorem dX5_cheapestRow_24 : decode cX5_cheapestRow 24 = .ok (.iload 6, 2) := by decide +kernel
theorem dX5_cheapestRow_26 : decode cX5_cheapestRow 26 = .ok (.iload 5, 2) := by decide +kernel
theorem dX5_cheapestRow_28 : decode cX5_cheapestRow 28 = .ok (.iadd, 1) := by decide +kernel
theorem dX5_cheapestRow_29 : decode cX5_cheapestRow 29 = .ok (.aload_n 0, 1) := by decide +kernel
theorem dX5_cheapestRow_30 : decode cX5_cheapestRow 30 = .ok (.getfield 19, 3) := by decide +kernel
theorem dX5_cheapestRow_33 : decode cX5_cheapestRow 33 = .ok (.getfield 224, 3) := by decide +kernel
theorem dX5_cheapestRow_36 : decode cX5_cheapestRow 36 = .ok (.if_icmp .gt 77, 3) := by decide +kernel
theorem dX5_cheapestRow_39 : decode cX5_cheapestRow 39 = .ok (.iload 6, 2) := by decide +kernel
theorem dX5_cheapestRow_41 : decode cX5_cheapestRow 41 = .ok (.iload 5, 2) := by decide +kernel
theorem dX5_cheapestRow_43 : decode cX5_cheapestRow 43 = .ok (.invokestatic 160, 3) := by decide +kernel
theorem dX5_cheapestRow_46 : decode cX5_cheapestRow 46 = .ok (.istore 7, 2) := by decide +kernel
theorem dX5_cheapestRow_48 : decode cX5_cheapestRow 48 = .ok (.iload 7, 2) := by decide +kernel
theorem dX5_cheapestRow_50 : decode cX5_cheapestRow 50 = .ok (.iload_n 2, 1) := by decide +kernel
theorem dX5_cheapestRow_51 : decode cX5_cheapestRow 51 = .ok (.iconst (-1), 1) := by decide +kernel
theorem dX5_cheapestRow_52 : decode cX5_cheapestRow 52 = .ok (.ixor, 1) := by decide +kernel
theorem dX5_cheapestRow_53 : decode cX5_cheapestRow 53 = .ok (.iand, 1) := by decide +kernel
theorem dX5_cheapestRow_54 : decode cX5_cheapestRow 54 = .ok (.ifCond .ne 53, 3) := by decide +kernel
theorem dX5_cheapestRow_57 : decode cX5_cheapestRow 57 = .ok (.aload_n 0, 1) := by decide +kernel
theorem dX5_cheapestRow_58 : decode cX5_cheapestRow 58 = .ok (.getfield 19, 3) := by decide +kernel
theorem dX5_cheapestRow_61 : decode cX5_cheapestRow 61 = .ok (.iload 6, 2) := by decide +kernel
theorem dX5_cheapestRow_63 : decode cX5_cheapestRow 63 = .ok (.iload 5, 2) := by decide +kernel
theorem dX5_cheapestRow_65 : decode cX5_cheapestRow 65 = .ok (.invokevirtual 157, 3) := by decide +kernel
theorem dX5_cheapestRow_68 : decode cX5_cheapestRow 68 = .ok (.iload_n 1, 1) := by decide +kernel
theorem dX5_cheapestRow_69 : decode cX5_cheapestRow 69 = .ok (.if_icmp .lt 38, 3) := by decide +kernel
theorem dX5_cheapestRow_72 : decode cX5_cheapestRow 72 = .ok (.aload_n 0, 1) := by decide +kernel
theorem dX5_cheapestRow_73 : decode cX5_cheapestRow 73 = .ok (.getfield 19, 3) := by decide +kernel
theorem dX5_cheapestRow_76 : decode cX5_cheapestRow 76 = .ok (.iload_n 2, 1) := by decide +kernel
theorem dX5_cheapestRow_77 : decode cX5_cheapestRow 77 = .ok (.iload 7, 2) := by decide +kernel
theorem dX5_cheapestRow_79 : decode cX5_cheapestRow 79 = .ok (.iconst (-1), 1) := by decide +kernel
theorem dX5_cheapestRow_80 : decode cX5_cheapestRow 80 = .ok (.ixor, 1) := by decide +kernel
theorem dX5_cheapestRow_81 : decode cX5_cheapestRow 81 = .ok (.iand, 1) := by decide +kernel
theorem dX5_cheapestRow_82 : decode cX5_cheapestRow 82 = .ok (.invokevirtual 194, 3) := by decide +kernel
theorem dX5_cheapestRow_85 : decode cX5_cheapestRow 85 = .ok (.istore 8, 2) := by decide +kernel
theorem dX5_cheapestRow_87 : decode cX5_cheapestRow 87 = .ok (.iload 8, 2) := by decide +kernel
theorem dX5_cheapestRow_89 : decode cX5_cheapestRow 89 = .ok (.iload 4, 2) := by decide +kernel
theorem dX5_cheapestRow_91 : decode cX5_cheapestRow 91 = .ok (.if_icmp .le 16, 3) := by decide +kernel
theorem dX5_cheapestRow_94 : decode cX5_cheapestRow 94 = .ok (.iload 6, 2) := by decide +kernel
theorem dX5_cheapestRow_96 : decode cX5_cheapestRow 96 = .ok (.bipush 100, 2) := by decide +kernel
theorem dX5_cheapestRow_98 : decode cX5_cheapestRow 98 = .ok (.imul, 1) := by decide +kernel
theorem dX5_cheapestRow_99 : decode cX5_cheapestRow 99 = .ok (.iload 5, 2) := by decide +kernel
theorem dX5_cheapestRow_101 : decode cX5_cheapestRow 101 = .ok (.iadd, 1) := by decide +kernel
theorem dX5_cheapestRow_102 : decode cX5_cheapestRow 102 = .ok (.istore_n 3, 1) := by decide +kernel
theorem dX5_cheapestRow_103 : decode cX5_cheapestRow 103 = .ok (.iload 8, 2) := by decide +kernel
theorem dX5_cheapestRow_105 : decode cX5_cheapestRow 105 = .ok (.istore 4, 2) := by decide +kernel
theorem dX5_cheapestRow_107 : decode cX5_cheapestRow 107 = .ok (.iinc 6 1, 3) := by decide +kernel
theorem dX5_cheapestRow_110 : decode cX5_cheapestRow 110 = .ok (.goto (-86), 3) := by decide +kernel
theorem dX5_cheapestRow_113 : decode cX5_cheapestRow 113 = .ok (.iinc 5 1, 3) := by decide +kernel
theorem dX5_cheapestRow_116 : decode cX5_cheapestRow 116 = .ok (.goto (-102), 3) := by decide +kernel
theorem dX5_cheapestRow_119 : decode cX5_cheapestRow 119 = .ok (.iload_n 3, 1) := by decide +kernel
theorem dX5_cheapestRow_120 : decode cX5_cheapestRow 120 = .ok (.ireturn, 1) := by decide +kernel
theorem dX5_bestFreeing_0 : decode cX5_bestFreeing 0 = .ok (.aload_n 0, 1) := by decide +kernel
theorem dX5_bestFreeing_1 : decode cX5_bestFreeing 1 = .ok (.getfield 26, 3) := by decide +kernel
theorem dX5_bestFreeing_4 : decode cX5_bestFreeing 4 = .ok (.getfield 104, 3) := by decide +kernel
theorem dX5_bestFreeing_7 : decode cX5_bestFreeing 7 = .ok (.astore_n 1, 1) := by decide +kernel
theorem dX5_bestFreeing_8 : decode cX5_bestFreeing 8 = .ok (.aload_n 0, 1) := by decide +kernel
theorem dX5_bestFreeing_9 : decode cX5_bestFreeing 9 = .ok (.invokevirtual 125, 3) := by decide +kernel
theorem dX5_bestFreeing_12 : decode cX5_bestFreeing 12 = .ok (.istore_n 2, 1) := by decide +kernel
theorem dX5_bestFreeing_13 : decode cX5_bestFreeing 13 = .ok (.iconst 0, 1) := by decide +kernel
theorem dX5_bestFreeing_14 : decode cX5_bestFreeing 14 = .ok (.istore_n 3, 1) := by decide +kernel
theorem dX5_bestFreeing_15 : decode cX5_bestFreeing 15 = .ok (.iconst 0, 1) := by decide +kernel
theorem dX5_bestFreeing_16 : decode cX5_bestFreeing 16 = .ok (.istore 4, 2) := by decide +kernel
theorem dX5_bestFreeing_18 : decode cX5_bestFreeing 18 = .ok (.aload_n 0, 1) := by decide +kernel
theorem dX5_bestFreeing_19 : decode cX5_bestFreeing 19 = .ok (.getfield 19, 3) := by decide +kernel
theorem dX5_bestFreeing_22 : decode cX5_bestFreeing 22 = .ok (.iload_n 2, 1) := by decide +kernel
theorem dX5_bestFreeing_23 : decode cX5_bestFreeing 23 = .ok (.invokevirtual 194, 3) := by decide +kernel
theorem dX5_bestFreeing_26 : decode cX5_bestFreeing 26 = .ok (.istore 5, 2) := by decide +kernel
theorem dX5_bestFreeing_28 : decode cX5_bestFreeing 28 = .ok (.iconst 1, 1) := by decide +kernel
theorem dX5_bestFreeing_29 : decode cX5_bestFreeing 29 = .ok (.istore 6, 2) := by decide +kernel
theorem dX5_bestFreeing_31 : decode cX5_bestFreeing 31 = .ok (.iload 6, 2) := by decide +kernel
theorem dX5_bestFreeing_33 : decode cX5_bestFreeing 33 = .ok (.bipush 16, 2) := by decide +kernel
theorem dX5_bestFreeing_35 : decode cX5_bestFreeing 35 = .ok (.if_icmp .ge 84, 3) := by decide +kernel
theorem dX5_bestFreeing_38 : decode cX5_bestFreeing 38 = .ok (.aload_n 1, 1) := by decide +kernel
theorem dX5_bestFreeing_39 : decode cX5_bestFreeing 39 = .ok (.iload 6, 2) := by decide +kernel
theorem dX5_bestFreeing_41 : decode cX5_bestFreeing 41 = .ok (.invokevirtual 280, 3) := by decide +kernel
theorem dX5_bestFreeing_44 : decode cX5_bestFreeing 44 = .ok (.istore 7, 2) := by decide +kernel
theorem dX5_bestFreeing_46 : decode cX5_bestFreeing 46 = .ok (.aload_n 1, 1) := by decide +kernel
theorem dX5_bestFreeing_47 : decode cX5_bestFreeing 47 = .ok (.iload 6, 2) := by decide +kernel
theorem dX5_bestFreeing_49 : decode cX5_bestFreeing 49 = .ok (.invokevirtual 283, 3) := by decide +kernel
theorem dX5_bestFreeing_52 : decode cX5_bestFreeing 52 = .ok (.ifCond .eq 61, 3) := by decide +kernel
theorem dX5_bestFreeing_55 : decode cX5_bestFreeing 55 = .ok (.iload 7, 2) := by decide +kernel
theorem dX5_bestFreeing_57 : decode cX5_bestFreeing 57 = .ok (.aload_n 1, 1) := by decide +kernel
theorem dX5_bestFreeing_58 : decode cX5_bestFreeing 58 = .ok (.getfield 167, 3) := by decide +kernel
theorem dX5_bestFreeing_61 : decode cX5_bestFreeing 61 = .ok (.if_icmp .gt 52, 3) := by decide +kernel
theorem dX5_bestFreeing_64 : decode cX5_bestFreeing 64 = .ok (.aload_n 0, 1) := by decide +kernel
theorem dX5_bestFreeing_65 : decode cX5_bestFreeing 65 = .ok (.getfield 19, 3) := by decide +kernel
theorem dX5_bestFreeing_68 : decode cX5_bestFreeing 68 = .ok (.iload_n 2, 1) := by decide +kernel
theorem dX5_bestFreeing_69 : decode cX5_bestFreeing 69 = .ok (.aload_n 1, 1) := by decide +kernel
theorem dX5_bestFreeing_70 : decode cX5_bestFreeing 70 = .ok (.iload 6, 2) := by decide +kernel
theorem dX5_bestFreeing_72 : decode cX5_bestFreeing 72 = .ok (.invokevirtual 209, 3) := by decide +kernel
theorem dX5_bestFreeing_75 : decode cX5_bestFreeing 75 = .ok (.ior, 1) := by decide +kernel
theorem dX5_bestFreeing_76 : decode cX5_bestFreeing 76 = .ok (.invokevirtual 194, 3) := by decide +kernel
theorem dX5_bestFreeing_79 : decode cX5_bestFreeing 79 = .ok (.istore 8, 2) := by decide +kernel
theorem dX5_bestFreeing_81 : decode cX5_bestFreeing 81 = .ok (.iload 8, 2) := by decide +kernel
theorem dX5_bestFreeing_83 : decode cX5_bestFreeing 83 = .ok (.iload 5, 2) := by decide +kernel
theorem dX5_bestFreeing_85 : decode cX5_bestFreeing 85 = .ok (.if_icmp .gt 17, 3) := by decide +kernel
theorem dX5_bestFreeing_88 : decode cX5_bestFreeing 88 = .ok (.iload 8, 2) := by decide +kernel
theorem dX5_bestFreeing_90 : decode cX5_bestFreeing 90 = .ok (.iload 5, 2) := by decide +kernel
theorem dX5_bestFreeing_92 : decode cX5_bestFreeing 92 = .ok (.if_icmp .ne 21, 3) := by decide +kernel
theorem dX5_bestFreeing_95 : decode cX5_bestFreeing 95 = .ok (.iload 7, 2) := by decide +kernel
theorem dX5_bestFreeing_97 : decode cX5_bestFreeing 97 = .ok (.iload 4, 2) := by decide +kernel
theorem dX5_bestFreeing_99 : decode cX5_bestFreeing 99 = .ok (.if_icmp .ge 14, 3) := by decide +kernel
theorem dX5_bestFreeing_102 : decode cX5_bestFreeing 102 = .ok (.iload 6, 2) := by decide +kernel
theorem dX5_bestFreeing_104 : decode cX5_bestFreeing 104 = .ok (.istore_n 3, 1) := by decide +kernel
theorem dX5_bestFreeing_105 : decode cX5_bestFreeing 105 = .ok (.iload 7, 2) := by decide +kernel
theorem dX5_bestFreeing_107 : decode cX5_bestFreeing 107 = .ok (.istore 4, 2) := by decide +kernel
theorem dX5_bestFreeing_109 : decode cX5_bestFreeing 109 = .ok (.iload 8, 2) := by decide +kernel
theorem dX5_bestFreeing_111 : decode cX5_bestFreeing 111 = .ok (.istore 5, 2) := by decide +kernel
theorem dX5_bestFreeing_113 : decode cX5_bestFreeing 113 = .ok (.iinc 6 1, 3) := by decide +kernel
theorem dX5_bestFreeing_116 : decode cX5_bestFreeing 116 = .ok (.goto (-85), 3) := by decide +kernel
theorem dX5_bestFreeing_119 : decode cX5_bestFreeing 119 = .ok (.iload_n 3, 1) := by decide +kernel
theorem dX5_bestFreeing_120 : decode cX5_bestFreeing 120 = .ok (.ireturn, 1) := by decide +kernel
theorem dX5_agreesWithTold_0 : decode cX5_agreesWithTold 0 = .ok (.iconst 0, 1) := by decide +kernel
theorem dX5_agreesWithTold_1 : decode cX5_agreesWithTold 1 = .ok (.istore_n 2, 1) := by decide +kernel
theorem dX5_agreesWithTold_2 : decode cX5_agreesWithTold 2 = .ok (.iload_n 2, 1) := by decide +kernel
theorem dX5_agreesWithTold_3 : decode cX5_agreesWithTold 3 = .ok (.aload_n 0, 1) := by decide +kernel
theorem dX5_agreesWithTold_4 : decode cX5_agreesWithTold 4 = .ok (.getfield 52, 3) := by decide +kernel
theorem dX5_agreesWithTold_7 : decode cX5_agreesWithTold 7 = .ok (.if_icmp .ge 55, 3) := by decide +kernel
theorem dX5_agreesWithTold_10 : decode cX5_agreesWithTold 10 = .ok (.aload_n 0, 1) := by decide +kernel
theorem dX5_agreesWithTold_11 : decode cX5_agreesWithTold 11 = .ok (.getfield 19, 3) := by decide +kernel
theorem dX5_agreesWithTold_14 : decode cX5_agreesWithTold 14 = .ok (.aload_n 0, 1) := by decide +kernel
theorem dX5_agreesWithTold_15 : decode cX5_agreesWithTold 15 = .ok (.getfield 45, 3) := by decide +kernel
theorem dX5_agreesWithTold_18 : decode cX5_agreesWithTold 18 = .ok (.iload_n 2, 1) := by decide +kernel
theorem dX5_agreesWithTold_19 : decode cX5_agreesWithTold 19 = .ok (.iaload, 1) := by decide +kernel
theorem dX5_agreesWithTold_20 : decode cX5_agreesWithTold 20 = .ok (.iload_n 1, 1) := by decide +kernel
theorem dX5_agreesWithTold_21 : decode cX5_agreesWithTold 21 = .ok (.invokevirtual 128, 3) := by decide +kernel
theorem dX5_agreesWithTold_24 : decode cX5_agreesWithTold 24 = .ok (.bipush (-9), 2) := by decide +kernel
theorem dX5_agreesWithTold_26 : decode cX5_agreesWithTold 26 = .ok (.if_icmp .eq 7, 3) := by decide +kernel
theorem dX5_agreesWithTold_29 : decode cX5_agreesWithTold 29 = .ok (.iconst 1, 1) := by decide +kernel
theorem dX5_agreesWithTold_30 : decode cX5_agreesWithTold 30 = .ok (.goto 4, 3) := by decide +kernel
theorem dX5_agreesWithTold_33 : decode cX5_agreesWithTold 33 = .ok (.iconst 0, 1) := by decide +kernel
theorem dX5_agreesWithTold_34 : decode cX5_agreesWithTold 34 = .ok (.istore_n 3, 1) := by decide +kernel
theorem dX5_agreesWithTold_35 : decode cX5_agreesWithTold 35 = .ok (.iload_n 3, 1) := by decide +kernel
theorem dX5_agreesWithTold_36 : decode cX5_agreesWithTold 36 = .ok (.aload_n 0, 1) := by decide +kernel
theorem dX5_agreesWithTold_37 : decode cX5_agreesWithTold 37 = .ok (.getfield 49, 3) := by decide +kernel
theorem dX5_agreesWithTold_40 : decode cX5_agreesWithTold 40 = .ok (.iload_n 2, 1) := by decide +kernel
theorem dX5_agreesWithTold_41 : decode cX5_agreesWithTold 41 = .ok (.iaload, 1) := by decide +kernel
theorem dX5_agreesWithTold_42 : decode cX5_agreesWithTold 42 = .ok (.iconst 1, 1) := by decide +kernel
theorem dX5_agreesWithTold_43 : decode cX5_agreesWithTold 43 = .ok (.if_icmp .ne 7, 3) := by decide +kernel
theorem dX5_agreesWithTold_46 : decode cX5_agreesWithTold 46 = .ok (.iconst 1, 1) := by decide +kernel
theorem dX5_agreesWithTold_47 : decode cX5_agreesWithTold 47 = .ok (.goto 4, 3) := by decide +kernel
theorem dX5_agreesWithTold_50 : decode cX5_agreesWithTold 50 = .ok (.iconst 0, 1) := by decide +kernel
theorem dX5_agreesWithTold_51 : decode cX5_agreesWithTold 51 = .ok (.if_icmp .eq 5, 3) := by decide +kernel
theorem dX5_agreesWithTold_54 : decode cX5_agreesWithTold 54 = .ok (.iconst 0, 1) := by decide +kernel
theorem dX5_agreesWithTold_55 : decode cX5_agreesWithTold 55 = .ok (.ireturn, 1) := by decide +kernel
theorem dX5_agreesWithTold_56 : decode cX5_agreesWithTold 56 = .ok (.iinc 2 1, 3) := by decide +kernel
theorem dX5_agreesWithTold_59 : decode cX5_agreesWithTold 59 = .ok (.goto (-57), 3) := by decide +kernel
theorem dX5_agreesWithTold_62 : decode cX5_agreesWithTold 62 = .ok (.iconst 1, 1) := by decide +kernel
theorem dX5_agreesWithTold_63 : decode cX5_agreesWithTold 63 = .ok (.ireturn, 1) := by decide +kernel
theorem dX5_chancesOf_0 : decode cX5_chancesOf 0 = .ok (.iconst 1, 1) := by decide +kernel
theorem dX5_chancesOf_1 : decode cX5_chancesOf 1 = .ok (.istore_n 3, 1) := by decide +kernel
theorem dX5_chancesOf_2 : decode cX5_chancesOf 2 = .ok (.iconst 0, 1) := by decide +kernel
theorem dX5_chancesOf_3 : decode cX5_chancesOf 3 = .ok (.istore 4, 2) := by decide +kernel
theorem dX5_chancesOf_5 : decode cX5_chancesOf 5 = .ok (.iload 4, 2) := by decide +kernel
theorem dX5_chancesOf_7 : decode cX5_chancesOf 7 = .ok (.iconst 4, 1) := by decide +kernel
theorem dX5_chancesOf_8 : decode cX5_chancesOf 8 = .ok (.if_icmp .ge 38, 3) := by decide +kernel
theorem dX5_chancesOf_11 : decode cX5_chancesOf 11 = .ok (.iload_n 1, 1) := by decide +kernel
theorem dX5_chancesOf_12 : decode cX5_chancesOf 12 = .ok (.iload 4, 2) := by decide +kernel
theorem dX5_chancesOf_14 : decode cX5_chancesOf 14 = .ok (.invokestatic 277, 3) := by decide +kernel
theorem dX5_chancesOf_17 : decode cX5_chancesOf 17 = .ok (.ifCond .eq 23, 3) := by decide +kernel
theorem dX5_chancesOf_20 : decode cX5_chancesOf 20 = .ok (.iload_n 3, 1) := by decide +kernel
theorem dX5_chancesOf_21 : decode cX5_chancesOf 21 = .ok (.iload_n 0, 1) := by decide +kernel
theorem dX5_chancesOf_22 : decode cX5_chancesOf 22 = .ok (.iload 4, 2) := by decide +kernel
theorem dX5_chancesOf_24 : decode cX5_chancesOf 24 = .ok (.invokestatic 277, 3) := by decide +kernel
theorem dX5_chancesOf_27 : decode cX5_chancesOf 27 = .ok (.ifCond .eq 10, 3) := by decide +kernel
theorem dX5_chancesOf_30 : decode cX5_chancesOf 30 = .ok (.bipush 10, 2) := by decide +kernel
theorem dX5_chancesOf_32 : decode cX5_chancesOf 32 = .ok (.iload_n 2, 1) := by decide +kernel
theorem dX5_chancesOf_33 : decode cX5_chancesOf 33 = .ok (.isub, 1) := by decide +kernel
theorem dX5_chancesOf_34 : decode cX5_chancesOf 34 = .ok (.goto 4, 3) := by decide +kernel
theorem dX5_chancesOf_37 : decode cX5_chancesOf 37 = .ok (.iload_n 2, 1) := by decide +kernel
theorem dX5_chancesOf_38 : decode cX5_chancesOf 38 = .ok (.imul, 1) := by decide +kernel
theorem dX5_chancesOf_39 : decode cX5_chancesOf 39 = .ok (.istore_n 3, 1) := by decide +kernel
theorem dX5_chancesOf_40 : decode cX5_chancesOf 40 = .ok (.iinc 4 1, 3) := by decide +kernel
theorem dX5_chancesOf_43 : decode cX5_chancesOf 43 = .ok (.goto (-38), 3) := by decide +kernel
theorem dX5_chancesOf_46 : decode cX5_chancesOf 46 = .ok (.iload_n 3, 1) := by decide +kernel
theorem dX5_chancesOf_47 : decode cX5_chancesOf 47 = .ok (.ireturn, 1) := by decide +kernel
theorem dX5_greatestDivisor_0 : decode cX5_greatestDivisor 0 = .ok (.iload_n 0, 1) := by decide +kernel
theorem dX5_greatestDivisor_1 : decode cX5_greatestDivisor 1 = .ok (.istore_n 2, 1) := by decide +kernel
theorem dX5_greatestDivisor_2 : decode cX5_greatestDivisor 2 = .ok (.iload_n 1, 1) := by decide +kernel
theorem dX5_greatestDivisor_3 : decode cX5_greatestDivisor 3 = .ok (.istore_n 3, 1) := by decide +kernel
theorem dX5_greatestDivisor_4 : decode cX5_greatestDivisor 4 = .ok (.iconst 0, 1) := by decide +kernel
theorem dX5_greatestDivisor_5 : decode cX5_greatestDivisor 5 = .ok (.istore 4, 2) := by decide +kernel
theorem dX5_greatestDivisor_7 : decode cX5_greatestDivisor 7 = .ok (.iload 4, 2) := by decide +kernel
theorem dX5_greatestDivisor_9 : decode cX5_greatestDivisor 9 = .ok (.bipush 64, 2) := by decide +kernel
theorem dX5_greatestDivisor_11 : decode cX5_greatestDivisor 11 = .ok (.if_icmp .ge 23, 3) := by decide +kernel
theorem dX5_greatestDivisor_14 : decode cX5_greatestDivisor 14 = .ok (.iload_n 3, 1) := by decide +kernel
theorem dX5_greatestDivisor_15 : decode cX5_greatestDivisor 15 = .ok (.ifCond .eq 19, 3) := by decide +kernel
theorem dX5_greatestDivisor_18 : decode cX5_greatestDivisor 18 = .ok (.iload_n 2, 1) := by decide +kernel
theorem dX5_greatestDivisor_19 : decode cX5_greatestDivisor 19 = .ok (.iload_n 3, 1) := by decide +kernel
theorem dX5_greatestDivisor_20 : decode cX5_greatestDivisor 20 = .ok (.irem, 1) := by decide +kernel
theorem dX5_greatestDivisor_21 : decode cX5_greatestDivisor 21 = .ok (.istore 5, 2) := by decide +kernel
theorem dX5_greatestDivisor_23 : decode cX5_greatestDivisor 23 = .ok (.iload_n 3, 1) := by decide +kernel
theorem dX5_greatestDivisor_24 : decode cX5_greatestDivisor 24 = .ok (.istore_n 2, 1) := by decide +kernel
theorem dX5_greatestDivisor_25 : decode cX5_greatestDivisor 25 = .ok (.iload 5, 2) := by decide +kernel
theorem dX5_greatestDivisor_27 : decode cX5_greatestDivisor 27 = .ok (.istore_n 3, 1) := by decide +kernel
theorem dX5_greatestDivisor_28 : decode cX5_greatestDivisor 28 = .ok (.iinc 4 1, 3) := by decide +kernel
theorem dX5_greatestDivisor_31 : decode cX5_greatestDivisor 31 = .ok (.goto (-24), 3) := by decide +kernel
theorem dX5_greatestDivisor_34 : decode cX5_greatestDivisor 34 = .ok (.iload_n 2, 1) := by decide +kernel
theorem dX5_greatestDivisor_35 : decode cX5_greatestDivisor 35 = .ok (.ireturn, 1) := by decide +kernel
theorem dX5_markAsCrop_0 : decode cX5_markAsCrop 0 = .ok (.aload_n 0, 1) := by decide +kernel
theorem dX5_markAsCrop_1 : decode cX5_markAsCrop 1 = .ok (.dup, 1) := by decide +kernel
theorem dX5_markAsCrop_2 : decode cX5_markAsCrop 2 = .ok (.getfield 56, 3) := by decide +kernel
theorem dX5_markAsCrop_5 : decode cX5_markAsCrop 5 = .ok (.lconst 1, 1) := by decide +kernel
theorem dX5_markAsCrop_6 : decode cX5_markAsCrop 6 = .ok (.ladd, 1) := by decide +kernel
theorem dX5_markAsCrop_7 : decode cX5_markAsCrop 7 = .ok (.putfield 56, 3) := by decide +kernel
theorem dX5_markAsCrop_10 : decode cX5_markAsCrop 10 = .ok (.aload_n 0, 1) := by decide +kernel
theorem dX5_markAsCrop_11 : decode cX5_markAsCrop 11 = .ok (.getfield 19, 3) := by decide +kernel
theorem dX5_markAsCrop_14 : decode cX5_markAsCrop 14 = .ok (.getfield 119, 3) := by decide +kernel
theorem dX5_markAsCrop_17 : decode cX5_markAsCrop 17 = .ok (.iload_n 1, 1) := by decide +kernel
theorem dX5_markAsCrop_18 : decode cX5_markAsCrop 18 = .ok (.iaload, 1) := by decide +kernel
theorem dX5_markAsCrop_19 : decode cX5_markAsCrop 19 = .ok (.ireturn, 1) := by decide +kernel
theorem dX5_markAsHay_0 : decode cX5_markAsHay 0 = .ok (.aload_n 0, 1) := by decide +kernel
theorem dX5_markAsHay_1 : decode cX5_markAsHay 1 = .ok (.dup, 1) := by decide +kernel
theorem dX5_markAsHay_2 : decode cX5_markAsHay 2 = .ok (.getfield 56, 3) := by decide +kernel
theorem dX5_markAsHay_5 : decode cX5_markAsHay 5 = .ok (.ldc2_w 286, 3) := by decide +kernel
theorem dX5_markAsHay_8 : decode cX5_markAsHay 8 = .ok (.ladd, 1) := by decide +kernel
theorem dX5_markAsHay_9 : decode cX5_markAsHay 9 = .ok (.putfield 56, 3) := by decide +kernel
theorem dX5_markAsHay_12 : decode cX5_markAsHay 12 = .ok (.aload_n 0, 1) := by decide +kernel
theorem dX5_markAsHay_13 : decode cX5_markAsHay 13 = .ok (.iload_n 1, 1) := by decide +kernel
theorem dX5_markAsHay_14 : decode cX5_markAsHay 14 = .ok (.invokevirtual 241, 3) := by decide +kernel
theorem dX5_markAsHay_17 : decode cX5_markAsHay 17 = .ok (.aload_n 0, 1) := by decide +kernel
theorem dX5_markAsHay_18 : decode cX5_markAsHay 18 = .ok (.getfield 19, 3) := by decide +kernel
theorem dX5_markAsHay_21 : decode cX5_markAsHay 21 = .ok (.getfield 113, 3) := by decide +kernel
theorem dX5_markAsHay_24 : decode cX5_markAsHay 24 = .ok (.iload_n 1, 1) := by decide +kernel
theorem dX5_markAsHay_25 : decode cX5_markAsHay 25 = .ok (.iaload, 1) := by decide +kernel
theorem dX5_markAsHay_26 : decode cX5_markAsHay 26 = .ok (.iadd, 1) := by decide +kernel
theorem dX5_markAsHay_27 : decode cX5_markAsHay 27 = .ok (.ireturn, 1) := by decide +kernel
theorem dX5_markAsPlum_0 : decode cX5_markAsPlum 0 = .ok (.aload_n 0, 1) := by decide +kernel
theorem dX5_markAsPlum_1 : decode cX5_markAsPlum 1 = .ok (.dup, 1) := by decide +kernel
theorem dX5_markAsPlum_2 : decode cX5_markAsPlum 2 = .ok (.getfield 56, 3) := by decide +kernel
theorem dX5_markAsPlum_5 : decode cX5_markAsPlum 5 = .ok (.ldc2_w 288, 3) := by decide +kernel
theorem dX5_markAsPlum_8 : decode cX5_markAsPlum 8 = .ok (.ladd, 1) := by decide +kernel
theorem dX5_markAsPlum_9 : decode cX5_markAsPlum 9 = .ok (.putfield 56, 3) := by decide +kernel
theorem dX5_markAsPlum_12 : decode cX5_markAsPlum 12 = .ok (.aload_n 0, 1) := by decide +kernel
theorem dX5_markAsPlum_13 : decode cX5_markAsPlum 13 = .ok (.iload_n 1, 1) := by decide +kernel
theorem dX5_markAsPlum_14 : decode cX5_markAsPlum 14 = .ok (.invokevirtual 241, 3) := by decide +kernel
theorem dX5_markAsPlum_17 : decode cX5_markAsPlum 17 = .ok (.aload_n 0, 1) := by decide +kernel
theorem dX5_markAsPlum_18 : decode cX5_markAsPlum 18 = .ok (.getfield 19, 3) := by decide +kernel
theorem dX5_markAsPlum_21 : decode cX5_markAsPlum 21 = .ok (.getfield 116, 3) := by decide +kernel
theorem dX5_markAsPlum_24 : decode cX5_markAsPlum 24 = .ok (.iload_n 1, 1) := by decide +kernel
theorem dX5_markAsPlum_25 : decode cX5_markAsPlum 25 = .ok (.iaload, 1) := by decide +kernel
theorem dX5_markAsPlum_26 : decode cX5_markAsPlum 26 = .ok (.isub, 1) := by decide +kernel
theorem dX5_markAsPlum_27 : decode cX5_markAsPlum 27 = .ok (.ireturn, 1) := by decide +kernel
theorem dX5_markAsClover_0 : decode cX5_markAsClover 0 = .ok (.aload_n 0, 1) := by decide +kernel
theorem dX5_markAsClover_1 : decode cX5_markAsClover 1 = .ok (.dup, 1) := by decide +kernel
theorem dX5_markAsClover_2 : decode cX5_markAsClover 2 = .ok (.getfield 56, 3) := by decide +kernel
theorem dX5_markAsClover_5 : decode cX5_markAsClover 5 = .ok (.ldc2_w 290, 3) := by decide +kernel
theorem dX5_markAsClover_8 : decode cX5_markAsClover 8 = .ok (.ladd, 1) := by decide +kernel
theorem dX5_markAsClover_9 : decode cX5_markAsClover 9 = .ok (.putfield 56, 3) := by decide +kernel
theorem dX5_markAsClover_12 : decode cX5_markAsClover 12 = .ok (.aload_n 0, 1) := by decide +kernel
theorem dX5_markAsClover_13 : decode cX5_markAsClover 13 = .ok (.iload_n 1, 1) := by decide +kernel
theorem dX5_markAsClover_14 : decode cX5_markAsClover 14 = .ok (.invokevirtual 244, 3) := by decide +kernel
theorem dX5_markAsClover_17 : decode cX5_markAsClover 17 = .ok (.iconst 2, 1) := by decide +kernel
theorem dX5_markAsClover_18 : decode cX5_markAsClover 18 = .ok (.imul, 1) := by decide +kernel
theorem dX5_markAsClover_19 : decode cX5_markAsClover 19 = .ok (.ireturn, 1) := by decide +kernel
theorem dX5_markAsSloe_0 : decode cX5_markAsSloe 0 = .ok (.aload_n 0, 1) := by decide +kernel
theorem dX5_markAsSloe_1 : decode cX5_markAsSloe 1 = .ok (.dup, 1) := by decide +kernel
theorem dX5_markAsSloe_2 : decode cX5_markAsSloe 2 = .ok (.getfield 56, 3) := by decide +kernel
theorem dX5_markAsSloe_5 : decode cX5_markAsSloe 5 = .ok (.ldc2_w 292, 3) := by decide +kernel
theorem dX5_markAsSloe_8 : decode cX5_markAsSloe 8 = .ok (.ladd, 1) := by decide +kernel
theorem dX5_markAsSloe_9 : decode cX5_markAsSloe 9 = .ok (.putfield 56, 3) := by decide +kernel
theorem dX5_markAsSloe_12 : decode cX5_markAsSloe 12 = .ok (.aload_n 0, 1) := by decide +kernel
theorem dX5_markAsSloe_13 : decode cX5_markAsSloe 13 = .ok (.iload_n 1, 1) := by decide +kernel
theorem dX5_markAsSloe_14 : decode cX5_markAsSloe 14 = .ok (.invokevirtual 247, 3) := by decide +kernel
theorem dX5_markAsSloe_17 : decode cX5_markAsSloe 17 = .ok (.aload_n 0, 1) := by decide +kernel
theorem dX5_markAsSloe_18 : decode cX5_markAsSloe 18 = .ok (.iload_n 1, 1) := by decide +kernel
theorem dX5_markAsSloe_19 : decode cX5_markAsSloe 19 = .ok (.invokevirtual 122, 3) := by decide +kernel
theorem dX5_markAsSloe_22 : decode cX5_markAsSloe 22 = .ok (.ifCond .eq 8, 3) := by decide +kernel
theorem dX5_markAsSloe_25 : decode cX5_markAsSloe 25 = .ok (.bipush 9, 2) := by decide +kernel
theorem dX5_markAsSloe_27 : decode cX5_markAsSloe 27 = .ok (.goto 4, 3) := by decide +kernel
theorem dX5_markAsSloe_30 : decode cX5_markAsSloe 30 = .ok (.iconst 0, 1) := by decide +kernel
theorem dX5_markAsSloe_31 : decode cX5_markAsSloe 31 = .ok (.iadd, 1) := by decide +kernel
theorem dX5_markAsSloe_32 : decode cX5_markAsSloe 32 = .ok (.ireturn, 1) := by decide +kernel
theorem dX5_markAsLamb_0 : decode cX5_markAsLamb 0 = .ok (.aload_n 0, 1) := by decide +kernel
theorem dX5_markAsLamb_1 : decode cX5_markAsLamb 1 = .ok (.dup, 1) := by decide +kernel
theorem dX5_markAsLamb_2 : decode cX5_markAsLamb 2 = .ok (.getfield 56, 3) := by decide +kernel
theorem dX5_markAsLamb_5 : decode cX5_markAsLamb 5 = .ok (.ldc2_w 294, 3) := by decide +kernel
theorem dX5_markAsLamb_8 : decode cX5_markAsLamb 8 = .ok (.ladd, 1) := by decide +kernel
theorem dX5_markAsLamb_9 : decode cX5_markAsLamb 9 = .ok (.putfield 56, 3) := by decide +kernel
theorem dX5_markAsLamb_12 : decode cX5_markAsLamb 12 = .ok (.aload_n 0, 1) := by decide +kernel
theorem dX5_markAsLamb_13 : decode cX5_markAsLamb 13 = .ok (.iload_n 1, 1) := by decide +kernel
theorem dX5_markAsLamb_14 : decode cX5_markAsLamb 14 = .ok (.invokevirtual 241, 3) := by decide +kernel
theorem dX5_markAsLamb_17 : decode cX5_markAsLamb 17 = .ok (.aload_n 0, 1) := by decide +kernel
theorem dX5_markAsLamb_18 : decode cX5_markAsLamb 18 = .ok (.getfield 26, 3) := by decide +kernel
theorem dX5_markAsLamb_21 : decode cX5_markAsLamb 21 = .ok (.getfield 104, 3) := by decide +kernel
theorem dX5_markAsLamb_24 : decode cX5_markAsLamb 24 = .ok (.getfield 174, 3) := by decide +kernel
theorem dX5_markAsLamb_27 : decode cX5_markAsLamb 27 = .ok (.iadd, 1) := by decide +kernel
theorem dX5_markAsLamb_28 : decode cX5_markAsLamb 28 = .ok (.ireturn, 1) := by decide +kernel
