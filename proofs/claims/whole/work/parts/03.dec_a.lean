theorem dX0_init_0 : decode cX0_init 0 = .ok (.aload_n 0, 1) := by decide +kernel
theorem dX0_init_1 : decode cX0_init 1 = .ok (.invokespecial 3, 3) := by decide +kernel
theorem dX0_init_4 : decode cX0_init 4 = .ok (.aload_n 0, 1) := by decide +kernel
theorem dX0_init_5 : decode cX0_init 5 = .ok (.iconst 0, 1) := by decide +kernel
theorem dX0_init_6 : decode cX0_init 6 = .ok (.putfield 9, 3) := by decide +kernel
theorem dX0_init_9 : decode cX0_init 9 = .ok (.aload_n 0, 1) := by decide +kernel
theorem dX0_init_10 : decode cX0_init 10 = .ok (.iconst 0, 1) := by decide +kernel
theorem dX0_init_11 : decode cX0_init 11 = .ok (.putfield 15, 3) := by decide +kernel
theorem dX0_init_14 : decode cX0_init 14 = .ok (.aload_n 0, 1) := by decide +kernel
theorem dX0_init_15 : decode cX0_init 15 = .ok (.bipush 30, 2) := by decide +kernel
theorem dX0_init_17 : decode cX0_init 17 = .ok (.newarray .int, 2) := by decide +kernel
theorem dX0_init_19 : decode cX0_init 19 = .ok (.putfield 18, 3) := by decide +kernel
theorem dX0_init_22 : decode cX0_init 22 = .ok (.aload_n 0, 1) := by decide +kernel
theorem dX0_init_23 : decode cX0_init 23 = .ok (.bipush 30, 2) := by decide +kernel
theorem dX0_init_25 : decode cX0_init 25 = .ok (.newarray .int, 2) := by decide +kernel
theorem dX0_init_27 : decode cX0_init 27 = .ok (.putfield 22, 3) := by decide +kernel
theorem dX0_init_30 : decode cX0_init 30 = .ok (.aload_n 0, 1) := by decide +kernel
theorem dX0_init_31 : decode cX0_init 31 = .ok (.iconst 0, 1) := by decide +kernel
theorem dX0_init_32 : decode cX0_init 32 = .ok (.putfield 25, 3) := by decide +kernel
theorem dX0_init_35 : decode cX0_init 35 = .ok (.aload_n 0, 1) := by decide +kernel
theorem dX0_init_36 : decode cX0_init 36 = .ok (.iconst 4, 1) := by decide +kernel
theorem dX0_init_37 : decode cX0_init 37 = .ok (.newarray .int, 2) := by decide +kernel
theorem dX0_init_39 : decode cX0_init 39 = .ok (.putfield 28, 3) := by decide +kernel
theorem dX0_init_42 : decode cX0_init 42 = .ok (.aload_n 0, 1) := by decide +kernel
theorem dX0_init_43 : decode cX0_init 43 = .ok (.iconst 4, 1) := by decide +kernel
theorem dX0_init_44 : decode cX0_init 44 = .ok (.newarray .int, 2) := by decide +kernel
theorem dX0_init_46 : decode cX0_init 46 = .ok (.putfield 31, 3) := by decide +kernel
theorem dX0_init_49 : decode cX0_init 49 = .ok (.aload_n 0, 1) := by decide +kernel
theorem dX0_init_50 : decode cX0_init 50 = .ok (.iconst 4, 1) := by decide +kernel
theorem dX0_init_51 : decode cX0_init 51 = .ok (.newarray .int, 2) := by decide +kernel
theorem dX0_init_53 : decode cX0_init 53 = .ok (.putfield 34, 3) := by decide +kernel
theorem dX0_init_56 : decode cX0_init 56 = .ok (.aload_n 0, 1) := by decide +kernel
theorem dX0_init_57 : decode cX0_init 57 = .ok (.iconst 2, 1) := by decide +kernel
theorem dX0_init_58 : decode cX0_init 58 = .ok (.putfield 37, 3) := by decide +kernel
theorem dX0_init_61 : decode cX0_init 61 = .ok (.aload_n 0, 1) := by decide +kernel
theorem dX0_init_62 : decode cX0_init 62 = .ok (.iconst 3, 1) := by decide +kernel
theorem dX0_init_63 : decode cX0_init 63 = .ok (.putfield 40, 3) := by decide +kernel
theorem dX0_init_66 : decode cX0_init 66 = .ok (.aload_n 0, 1) := by decide +kernel
theorem dX0_init_67 : decode cX0_init 67 = .ok (.bipush 9, 2) := by decide +kernel
theorem dX0_init_69 : decode cX0_init 69 = .ok (.putfield 43, 3) := by decide +kernel
theorem dX0_init_72 : decode cX0_init 72 = .ok (.return_, 1) := by decide +kernel
theorem dX0_startAnew_0 : decode cX0_startAnew 0 = .ok (.aload_n 0, 1) := by decide +kernel
theorem dX0_startAnew_1 : decode cX0_startAnew 1 = .ok (.iconst 0, 1) := by decide +kernel
theorem dX0_startAnew_2 : decode cX0_startAnew 2 = .ok (.putfield 9, 3) := by decide +kernel
theorem dX0_startAnew_5 : decode cX0_startAnew 5 = .ok (.aload_n 0, 1) := by decide +kernel
theorem dX0_startAnew_6 : decode cX0_startAnew 6 = .ok (.iconst 0, 1) := by decide +kernel
theorem dX0_startAnew_7 : decode cX0_startAnew 7 = .ok (.putfield 15, 3) := by decide +kernel
theorem dX0_startAnew_10 : decode cX0_startAnew 10 = .ok (.aload_n 0, 1) := by decide +kernel
theorem dX0_startAnew_11 : decode cX0_startAnew 11 = .ok (.iconst 0, 1) := by decide +kernel
theorem dX0_startAnew_12 : decode cX0_startAnew 12 = .ok (.putfield 25, 3) := by decide +kernel
theorem dX0_startAnew_15 : decode cX0_startAnew 15 = .ok (.aload_n 0, 1) := by decide +kernel
theorem dX0_startAnew_16 : decode cX0_startAnew 16 = .ok (.iconst 2, 1) := by decide +kernel
theorem dX0_startAnew_17 : decode cX0_startAnew 17 = .ok (.putfield 37, 3) := by decide +kernel
theorem dX0_startAnew_20 : decode cX0_startAnew 20 = .ok (.aload_n 0, 1) := by decide +kernel
theorem dX0_startAnew_21 : decode cX0_startAnew 21 = .ok (.iconst 3, 1) := by decide +kernel
theorem dX0_startAnew_22 : decode cX0_startAnew 22 = .ok (.putfield 40, 3) := by decide +kernel
theorem dX0_startAnew_25 : decode cX0_startAnew 25 = .ok (.aload_n 0, 1) := by decide +kernel
theorem dX0_startAnew_26 : decode cX0_startAnew 26 = .ok (.bipush 9, 2) := by decide +kernel
theorem dX0_startAnew_28 : decode cX0_startAnew 28 = .ok (.putfield 43, 3) := by decide +kernel
theorem dX0_startAnew_31 : decode cX0_startAnew 31 = .ok (.return_, 1) := by decide +kernel
theorem dX0_addSeason_0 : decode cX0_addSeason 0 = .ok (.iconst 0, 1) := by decide +kernel
theorem dX0_addSeason_1 : decode cX0_addSeason 1 = .ok (.istore_n 3, 1) := by decide +kernel
theorem dX0_addSeason_2 : decode cX0_addSeason 2 = .ok (.iload_n 3, 1) := by decide +kernel
theorem dX0_addSeason_3 : decode cX0_addSeason 3 = .ok (.iload_n 1, 1) := by decide +kernel
theorem dX0_addSeason_4 : decode cX0_addSeason 4 = .ok (.if_icmp .ge 51, 3) := by decide +kernel
theorem dX0_addSeason_7 : decode cX0_addSeason 7 = .ok (.aload_n 0, 1) := by decide +kernel
theorem dX0_addSeason_8 : decode cX0_addSeason 8 = .ok (.getfield 15, 3) := by decide +kernel
theorem dX0_addSeason_11 : decode cX0_addSeason 11 = .ok (.bipush 30, 2) := by decide +kernel
theorem dX0_addSeason_13 : decode cX0_addSeason 13 = .ok (.if_icmp .ge 42, 3) := by decide +kernel
theorem dX0_addSeason_16 : decode cX0_addSeason 16 = .ok (.aload_n 0, 1) := by decide +kernel
theorem dX0_addSeason_17 : decode cX0_addSeason 17 = .ok (.getfield 18, 3) := by decide +kernel
theorem dX0_addSeason_20 : decode cX0_addSeason 20 = .ok (.aload_n 0, 1) := by decide +kernel
theorem dX0_addSeason_21 : decode cX0_addSeason 21 = .ok (.getfield 15, 3) := by decide +kernel
theorem dX0_addSeason_24 : decode cX0_addSeason 24 = .ok (.aload_n 0, 1) := by decide +kernel
theorem dX0_addSeason_25 : decode cX0_addSeason 25 = .ok (.getfield 9, 3) := by decide +kernel
theorem dX0_addSeason_28 : decode cX0_addSeason 28 = .ok (.iastore, 1) := by decide +kernel
theorem dX0_addSeason_29 : decode cX0_addSeason 29 = .ok (.aload_n 0, 1) := by decide +kernel
theorem dX0_addSeason_30 : decode cX0_addSeason 30 = .ok (.getfield 22, 3) := by decide +kernel
theorem dX0_addSeason_33 : decode cX0_addSeason 33 = .ok (.aload_n 0, 1) := by decide +kernel
theorem dX0_addSeason_34 : decode cX0_addSeason 34 = .ok (.getfield 15, 3) := by decide +kernel
theorem dX0_addSeason_37 : decode cX0_addSeason 37 = .ok (.iload_n 2, 1) := by decide +kernel
theorem dX0_addSeason_38 : decode cX0_addSeason 38 = .ok (.iastore, 1) := by decide +kernel
theorem dX0_addSeason_39 : decode cX0_addSeason 39 = .ok (.aload_n 0, 1) := by decide +kernel
theorem dX0_addSeason_40 : decode cX0_addSeason 40 = .ok (.dup, 1) := by decide +kernel
theorem dX0_addSeason_41 : decode cX0_addSeason 41 = .ok (.getfield 15, 3) := by decide +kernel
theorem dX0_addSeason_44 : decode cX0_addSeason 44 = .ok (.iconst 1, 1) := by decide +kernel
theorem dX0_addSeason_45 : decode cX0_addSeason 45 = .ok (.iadd, 1) := by decide +kernel
theorem dX0_addSeason_46 : decode cX0_addSeason 46 = .ok (.putfield 15, 3) := by decide +kernel
theorem dX0_addSeason_49 : decode cX0_addSeason 49 = .ok (.iinc 3 1, 3) := by decide +kernel
theorem dX0_addSeason_52 : decode cX0_addSeason 52 = .ok (.goto (-50), 3) := by decide +kernel
theorem dX0_addSeason_55 : decode cX0_addSeason 55 = .ok (.aload_n 0, 1) := by decide +kernel
theorem dX0_addSeason_56 : decode cX0_addSeason 56 = .ok (.dup, 1) := by decide +kernel
theorem dX0_addSeason_57 : decode cX0_addSeason 57 = .ok (.getfield 9, 3) := by decide +kernel
theorem dX0_addSeason_60 : decode cX0_addSeason 60 = .ok (.iconst 1, 1) := by decide +kernel
theorem dX0_addSeason_61 : decode cX0_addSeason 61 = .ok (.iadd, 1) := by decide +kernel
theorem dX0_addSeason_62 : decode cX0_addSeason 62 = .ok (.putfield 9, 3) := by decide +kernel
theorem dX0_addSeason_65 : decode cX0_addSeason 65 = .ok (.return_, 1) := by decide +kernel
theorem dX0_addCrop_0 : decode cX0_addCrop 0 = .ok (.aload_n 0, 1) := by decide +kernel
theorem dX0_addCrop_1 : decode cX0_addCrop 1 = .ok (.getfield 25, 3) := by decide +kernel
theorem dX0_addCrop_4 : decode cX0_addCrop 4 = .ok (.iconst 4, 1) := by decide +kernel
theorem dX0_addCrop_5 : decode cX0_addCrop 5 = .ok (.if_icmp .ge 43, 3) := by decide +kernel
theorem dX0_addCrop_8 : decode cX0_addCrop 8 = .ok (.aload_n 0, 1) := by decide +kernel
theorem dX0_addCrop_9 : decode cX0_addCrop 9 = .ok (.getfield 28, 3) := by decide +kernel
theorem dX0_addCrop_12 : decode cX0_addCrop 12 = .ok (.aload_n 0, 1) := by decide +kernel
theorem dX0_addCrop_13 : decode cX0_addCrop 13 = .ok (.getfield 25, 3) := by decide +kernel
theorem dX0_addCrop_16 : decode cX0_addCrop 16 = .ok (.iload_n 1, 1) := by decide +kernel
theorem dX0_addCrop_17 : decode cX0_addCrop 17 = .ok (.iastore, 1) := by decide +kernel
theorem dX0_addCrop_18 : decode cX0_addCrop 18 = .ok (.aload_n 0, 1) := by decide +kernel
theorem dX0_addCrop_19 : decode cX0_addCrop 19 = .ok (.getfield 31, 3) := by decide +kernel
theorem dX0_addCrop_22 : decode cX0_addCrop 22 = .ok (.aload_n 0, 1) := by decide +kernel
theorem dX0_addCrop_23 : decode cX0_addCrop 23 = .ok (.getfield 25, 3) := by decide +kernel
theorem dX0_addCrop_26 : decode cX0_addCrop 26 = .ok (.iload_n 2, 1) := by decide +kernel
theorem dX0_addCrop_27 : decode cX0_addCrop 27 = .ok (.iastore, 1) := by decide +kernel
theorem dX0_addCrop_28 : decode cX0_addCrop 28 = .ok (.aload_n 0, 1) := by decide +kernel
theorem dX0_addCrop_29 : decode cX0_addCrop 29 = .ok (.getfield 34, 3) := by decide +kernel
theorem dX0_addCrop_32 : decode cX0_addCrop 32 = .ok (.aload_n 0, 1) := by decide +kernel
theorem dX0_addCrop_33 : decode cX0_addCrop 33 = .ok (.getfield 25, 3) := by decide +kernel
theorem dX0_addCrop_36 : decode cX0_addCrop 36 = .ok (.iload_n 3, 1) := by decide +kernel
theorem dX0_addCrop_37 : decode cX0_addCrop 37 = .ok (.iastore, 1) := by decide +kernel
theorem dX0_addCrop_38 : decode cX0_addCrop 38 = .ok (.aload_n 0, 1) := by decide +kernel
theorem dX0_addCrop_39 : decode cX0_addCrop 39 = .ok (.dup, 1) := by decide +kernel
theorem dX0_addCrop_40 : decode cX0_addCrop 40 = .ok (.getfield 25, 3) := by decide +kernel
theorem dX0_addCrop_43 : decode cX0_addCrop 43 = .ok (.iconst 1, 1) := by decide +kernel
theorem dX0_addCrop_44 : decode cX0_addCrop 44 = .ok (.iadd, 1) := by decide +kernel
theorem dX0_addCrop_45 : decode cX0_addCrop 45 = .ok (.putfield 25, 3) := by decide +kernel
theorem dX0_addCrop_48 : decode cX0_addCrop 48 = .ok (.return_, 1) := by decide +kernel
theorem dX0_allDays_0 : decode cX0_allDays 0 = .ok (.iconst 0, 1) := by decide +kernel
theorem dX0_allDays_1 : decode cX0_allDays 1 = .ok (.aload_n 0, 1) := by decide +kernel
theorem dX0_allDays_2 : decode cX0_allDays 2 = .ok (.getfield 15, 3) := by decide +kernel
theorem dX0_allDays_5 : decode cX0_allDays 5 = .ok (.invokestatic 46, 3) := by decide +kernel
theorem dX0_allDays_8 : decode cX0_allDays 8 = .ok (.ireturn, 1) := by decide +kernel
theorem dX0_lentFor_0 : decode cX0_lentFor 0 = .ok (.iconst 0, 1) := by decide +kernel
theorem dX0_lentFor_1 : decode cX0_lentFor 1 = .ok (.istore_n 3, 1) := by decide +kernel
theorem dX0_lentFor_2 : decode cX0_lentFor 2 = .ok (.iload_n 1, 1) := by decide +kernel
theorem dX0_lentFor_3 : decode cX0_lentFor 3 = .ok (.istore 4, 2) := by decide +kernel
theorem dX0_lentFor_5 : decode cX0_lentFor 5 = .ok (.iload 4, 2) := by decide +kernel
theorem dX0_lentFor_7 : decode cX0_lentFor 7 = .ok (.iload_n 1, 1) := by decide +kernel
theorem dX0_lentFor_8 : decode cX0_lentFor 8 = .ok (.iload_n 2, 1) := by decide +kernel
theorem dX0_lentFor_9 : decode cX0_lentFor 9 = .ok (.iadd, 1) := by decide +kernel
theorem dX0_lentFor_10 : decode cX0_lentFor 10 = .ok (.if_icmp .ge 28, 3) := by decide +kernel
theorem dX0_lentFor_13 : decode cX0_lentFor 13 = .ok (.iload 4, 2) := by decide +kernel
theorem dX0_lentFor_15 : decode cX0_lentFor 15 = .ok (.aload_n 0, 1) := by decide +kernel
theorem dX0_lentFor_16 : decode cX0_lentFor 16 = .ok (.getfield 15, 3) := by decide +kernel
theorem dX0_lentFor_19 : decode cX0_lentFor 19 = .ok (.if_icmp .ge 19, 3) := by decide +kernel
theorem dX0_lentFor_22 : decode cX0_lentFor 22 = .ok (.iload_n 3, 1) := by decide +kernel
theorem dX0_lentFor_23 : decode cX0_lentFor 23 = .ok (.aload_n 0, 1) := by decide +kernel
theorem dX0_lentFor_24 : decode cX0_lentFor 24 = .ok (.getfield 22, 3) := by decide +kernel
theorem dX0_lentFor_27 : decode cX0_lentFor 27 = .ok (.iload 4, 2) := by decide +kernel
theorem dX0_lentFor_29 : decode cX0_lentFor 29 = .ok (.iaload, 1) := by decide +kernel
theorem dX0_lentFor_30 : decode cX0_lentFor 30 = .ok (.iadd, 1) := by decide +kernel
theorem dX0_lentFor_31 : decode cX0_lentFor 31 = .ok (.istore_n 3, 1) := by decide +kernel
theorem dX0_lentFor_32 : decode cX0_lentFor 32 = .ok (.iinc 4 1, 3) := by decide +kernel
theorem dX0_lentFor_35 : decode cX0_lentFor 35 = .ok (.goto (-30), 3) := by decide +kernel
theorem dX0_lentFor_38 : decode cX0_lentFor 38 = .ok (.iload_n 3, 1) := by decide +kernel
theorem dX0_lentFor_39 : decode cX0_lentFor 39 = .ok (.aload_n 0, 1) := by decide +kernel
theorem dX0_lentFor_40 : decode cX0_lentFor 40 = .ok (.getfield 37, 3) := by decide +kernel
theorem dX0_lentFor_43 : decode cX0_lentFor 43 = .ok (.imul, 1) := by decide +kernel
theorem dX0_lentFor_44 : decode cX0_lentFor 44 = .ok (.ireturn, 1) := by decide +kernel
theorem dX0_ripensOn_0 : decode cX0_ripensOn 0 = .ok (.aload_n 0, 1) := by decide +kernel
theorem dX0_ripensOn_1 : decode cX0_ripensOn 1 = .ok (.getfield 28, 3) := by decide +kernel
theorem dX0_ripensOn_4 : decode cX0_ripensOn 4 = .ok (.iload_n 1, 1) := by decide +kernel
theorem dX0_ripensOn_5 : decode cX0_ripensOn 5 = .ok (.iaload, 1) := by decide +kernel
theorem dX0_ripensOn_6 : decode cX0_ripensOn 6 = .ok (.istore_n 3, 1) := by decide +kernel
theorem dX0_ripensOn_7 : decode cX0_ripensOn 7 = .ok (.aload_n 0, 1) := by decide +kernel
theorem dX0_ripensOn_8 : decode cX0_ripensOn 8 = .ok (.getfield 31, 3) := by decide +kernel
theorem dX0_ripensOn_11 : decode cX0_ripensOn 11 = .ok (.iload_n 1, 1) := by decide +kernel
theorem dX0_ripensOn_12 : decode cX0_ripensOn 12 = .ok (.iaload, 1) := by decide +kernel
theorem dX0_ripensOn_13 : decode cX0_ripensOn 13 = .ok (.istore 4, 2) := by decide +kernel
theorem dX0_ripensOn_15 : decode cX0_ripensOn 15 = .ok (.iconst 0, 1) := by decide +kernel
theorem dX0_ripensOn_16 : decode cX0_ripensOn 16 = .ok (.istore 5, 2) := by decide +kernel
theorem dX0_ripensOn_18 : decode cX0_ripensOn 18 = .ok (.iconst 0, 1) := by decide +kernel
theorem dX0_ripensOn_19 : decode cX0_ripensOn 19 = .ok (.istore 6, 2) := by decide +kernel
theorem dX0_ripensOn_21 : decode cX0_ripensOn 21 = .ok (.iload 6, 2) := by decide +kernel
theorem dX0_ripensOn_23 : decode cX0_ripensOn 23 = .ok (.aload_n 0, 1) := by decide +kernel
theorem dX0_ripensOn_24 : decode cX0_ripensOn 24 = .ok (.getfield 15, 3) := by decide +kernel
theorem dX0_ripensOn_27 : decode cX0_ripensOn 27 = .ok (.if_icmp .ge 49, 3) := by decide +kernel
theorem dX0_ripensOn_30 : decode cX0_ripensOn 30 = .ok (.iload_n 2, 1) := by decide +kernel
theorem dX0_ripensOn_31 : decode cX0_ripensOn 31 = .ok (.iload 6, 2) := by decide +kernel
theorem dX0_ripensOn_33 : decode cX0_ripensOn 33 = .ok (.invokestatic 50, 3) := by decide +kernel
theorem dX0_ripensOn_36 : decode cX0_ripensOn 36 = .ok (.ifCond .eq 34, 3) := by decide +kernel
theorem dX0_ripensOn_39 : decode cX0_ripensOn 39 = .ok (.aload_n 0, 1) := by decide +kernel
theorem dX0_ripensOn_40 : decode cX0_ripensOn 40 = .ok (.getfield 22, 3) := by decide +kernel
theorem dX0_ripensOn_43 : decode cX0_ripensOn 43 = .ok (.iload 6, 2) := by decide +kernel
theorem dX0_ripensOn_45 : decode cX0_ripensOn 45 = .ok (.iaload, 1) := by decide +kernel
theorem dX0_ripensOn_46 : decode cX0_ripensOn 46 = .ok (.iload 4, 2) := by decide +kernel
theorem dX0_ripensOn_48 : decode cX0_ripensOn 48 = .ok (.if_icmp .lt 10, 3) := by decide +kernel
theorem dX0_ripensOn_51 : decode cX0_ripensOn 51 = .ok (.iload 5, 2) := by decide +kernel
theorem dX0_ripensOn_53 : decode cX0_ripensOn 53 = .ok (.iconst 1, 1) := by decide +kernel
theorem dX0_ripensOn_54 : decode cX0_ripensOn 54 = .ok (.iadd, 1) := by decide +kernel
theorem dX0_ripensOn_55 : decode cX0_ripensOn 55 = .ok (.goto 4, 3) := by decide +kernel
theorem dX0_ripensOn_58 : decode cX0_ripensOn 58 = .ok (.iconst 0, 1) := by decide +kernel
theorem dX0_ripensOn_59 : decode cX0_ripensOn 59 = .ok (.istore 5, 2) := by decide +kernel
theorem dX0_ripensOn_61 : decode cX0_ripensOn 61 = .ok (.iload 5, 2) := by decide +kernel
theorem dX0_ripensOn_63 : decode cX0_ripensOn 63 = .ok (.iload_n 3, 1) := by decide +kernel
theorem dX0_ripensOn_64 : decode cX0_ripensOn 64 = .ok (.if_icmp .lt 6, 3) := by decide +kernel
theorem dX0_ripensOn_67 : decode cX0_ripensOn 67 = .ok (.iload 6, 2) := by decide +kernel
theorem dX0_ripensOn_69 : decode cX0_ripensOn 69 = .ok (.ireturn, 1) := by decide +kernel
theorem dX0_ripensOn_70 : decode cX0_ripensOn 70 = .ok (.iinc 6 1, 3) := by decide +kernel
theorem dX0_ripensOn_73 : decode cX0_ripensOn 73 = .ok (.goto (-52), 3) := by decide +kernel
theorem dX0_ripensOn_76 : decode cX0_ripensOn 76 = .ok (.bipush (-9), 2) := by decide +kernel
theorem dX0_ripensOn_78 : decode cX0_ripensOn 78 = .ok (.ireturn, 1) := by decide +kernel
theorem dX0_ripening_0 : decode cX0_ripening 0 = .ok (.iconst 0, 1) := by decide +kernel
theorem dX0_ripening_1 : decode cX0_ripening 1 = .ok (.istore_n 2, 1) := by decide +kernel
theorem dX0_ripening_2 : decode cX0_ripening 2 = .ok (.iconst 0, 1) := by decide +kernel
theorem dX0_ripening_3 : decode cX0_ripening 3 = .ok (.istore_n 3, 1) := by decide +kernel
theorem dX0_ripening_4 : decode cX0_ripening 4 = .ok (.iload_n 3, 1) := by decide +kernel
theorem dX0_ripening_5 : decode cX0_ripening 5 = .ok (.aload_n 0, 1) := by decide +kernel
theorem dX0_ripening_6 : decode cX0_ripening 6 = .ok (.getfield 25, 3) := by decide +kernel
theorem dX0_ripening_9 : decode cX0_ripening 9 = .ok (.if_icmp .ge 26, 3) := by decide +kernel
theorem dX0_ripening_12 : decode cX0_ripening 12 = .ok (.aload_n 0, 1) := by decide +kernel
theorem dX0_ripening_13 : decode cX0_ripening 13 = .ok (.iload_n 3, 1) := by decide +kernel
theorem dX0_ripening_14 : decode cX0_ripening 14 = .ok (.iload_n 1, 1) := by decide +kernel
theorem dX0_ripening_15 : decode cX0_ripening 15 = .ok (.invokevirtual 54, 3) := by decide +kernel
theorem dX0_ripening_18 : decode cX0_ripening 18 = .ok (.bipush (-9), 2) := by decide +kernel
theorem dX0_ripening_20 : decode cX0_ripening 20 = .ok (.if_icmp .eq 9, 3) := by decide +kernel
theorem dX0_ripening_23 : decode cX0_ripening 23 = .ok (.iload_n 2, 1) := by decide +kernel
theorem dX0_ripening_24 : decode cX0_ripening 24 = .ok (.iconst 1, 1) := by decide +kernel
theorem dX0_ripening_25 : decode cX0_ripening 25 = .ok (.iload_n 3, 1) := by decide +kernel
theorem dX0_ripening_26 : decode cX0_ripening 26 = .ok (.ishl, 1) := by decide +kernel
theorem dX0_ripening_27 : decode cX0_ripening 27 = .ok (.ior, 1) := by decide +kernel
theorem dX0_ripening_28 : decode cX0_ripening 28 = .ok (.istore_n 2, 1) := by decide +kernel
theorem dX0_ripening_29 : decode cX0_ripening 29 = .ok (.iinc 3 1, 3) := by decide +kernel
theorem dX0_ripening_32 : decode cX0_ripening 32 = .ok (.goto (-28), 3) := by decide +kernel
theorem dX0_ripening_35 : decode cX0_ripening 35 = .ok (.iload_n 2, 1) := by decide +kernel
theorem dX0_ripening_36 : decode cX0_ripening 36 = .ok (.ireturn, 1) := by decide +kernel
theorem dX0_worthOf_0 : decode cX0_worthOf 0 = .ok (.iconst 0, 1) := by decide +kernel
theorem dX0_worthOf_1 : decode cX0_worthOf 1 = .ok (.istore_n 2, 1) := by decide +kernel
theorem dX0_worthOf_2 : decode cX0_worthOf 2 = .ok (.iconst 0, 1) := by decide +kernel
theorem dX0_worthOf_3 : decode cX0_worthOf 3 = .ok (.istore_n 3, 1) := by decide +kernel
theorem dX0_worthOf_4 : decode cX0_worthOf 4 = .ok (.iload_n 3, 1) := by decide +kernel
theorem dX0_worthOf_5 : decode cX0_worthOf 5 = .ok (.aload_n 0, 1) := by decide +kernel
theorem dX0_worthOf_6 : decode cX0_worthOf 6 = .ok (.getfield 25, 3) := by decide +kernel
theorem dX0_worthOf_9 : decode cX0_worthOf 9 = .ok (.if_icmp .ge 26, 3) := by decide +kernel
theorem dX0_worthOf_12 : decode cX0_worthOf 12 = .ok (.iload_n 1, 1) := by decide +kernel
theorem dX0_worthOf_13 : decode cX0_worthOf 13 = .ok (.iload_n 3, 1) := by decide +kernel
theorem dX0_worthOf_14 : decode cX0_worthOf 14 = .ok (.invokestatic 50, 3) := by decide +kernel
theorem dX0_worthOf_17 : decode cX0_worthOf 17 = .ok (.ifCond .eq 12, 3) := by decide +kernel
theorem dX0_worthOf_20 : decode cX0_worthOf 20 = .ok (.iload_n 2, 1) := by decide +kernel
theorem dX0_worthOf_21 : decode cX0_worthOf 21 = .ok (.aload_n 0, 1) := by decide +kernel
theorem dX0_worthOf_22 : decode cX0_worthOf 22 = .ok (.getfield 34, 3) := by decide +kernel
theorem dX0_worthOf_25 : decode cX0_worthOf 25 = .ok (.iload_n 3, 1) := by decide +kernel
theorem dX0_worthOf_26 : decode cX0_worthOf 26 = .ok (.iaload, 1) := by decide +kernel
theorem dX0_worthOf_27 : decode cX0_worthOf 27 = .ok (.iadd, 1) := by decide +kernel
theorem dX0_worthOf_28 : decode cX0_worthOf 28 = .ok (.istore_n 2, 1) := by decide +kernel
theorem dX0_worthOf_29 : decode cX0_worthOf 29 = .ok (.iinc 3 1, 3) := by decide +kernel
theorem dX0_worthOf_32 : decode cX0_worthOf 32 = .ok (.goto (-28), 3) := by decide +kernel
theorem dX0_worthOf_35 : decode cX0_worthOf 35 = .ok (.iload_n 2, 1) := by decide +kernel
theorem dX0_worthOf_36 : decode cX0_worthOf 36 = .ok (.ireturn, 1) := by decide +kernel
theorem dX0_harvest_0 : decode cX0_harvest 0 = .ok (.aload_n 0, 1) := by decide +kernel
theorem dX0_harvest_1 : decode cX0_harvest 1 = .ok (.aload_n 0, 1) := by decide +kernel
theorem dX0_harvest_2 : decode cX0_harvest 2 = .ok (.iload_n 1, 1) := by decide +kernel
theorem dX0_harvest_3 : decode cX0_harvest 3 = .ok (.invokevirtual 57, 3) := by decide +kernel
theorem dX0_harvest_6 : decode cX0_harvest 6 = .ok (.invokevirtual 61, 3) := by decide +kernel
theorem dX0_harvest_9 : decode cX0_harvest 9 = .ok (.ireturn, 1) := by decide +kernel
theorem dX0_gap_0 : decode cX0_gap 0 = .ok (.iconst 0, 1) := by decide +kernel
theorem dX0_gap_1 : decode cX0_gap 1 = .ok (.istore_n 2, 1) := by decide +kernel
theorem dX0_gap_2 : decode cX0_gap 2 = .ok (.iconst 0, 1) := by decide +kernel
theorem dX0_gap_3 : decode cX0_gap 3 = .ok (.istore_n 3, 1) := by decide +kernel
theorem dX0_gap_4 : decode cX0_gap 4 = .ok (.iconst 0, 1) := by decide +kernel
theorem dX0_gap_5 : decode cX0_gap 5 = .ok (.istore 4, 2) := by decide +kernel
theorem dX0_gap_7 : decode cX0_gap 7 = .ok (.iload 4, 2) := by decide +kernel
theorem dX0_gap_9 : decode cX0_gap 9 = .ok (.aload_n 0, 1) := by decide +kernel
theorem dX0_gap_10 : decode cX0_gap 10 = .ok (.getfield 15, 3) := by decide +kernel
theorem dX0_gap_13 : decode cX0_gap 13 = .ok (.if_icmp .ge 32, 3) := by decide +kernel
theorem dX0_gap_16 : decode cX0_gap 16 = .ok (.iload_n 1, 1) := by decide +kernel
theorem dX0_gap_17 : decode cX0_gap 17 = .ok (.iload 4, 2) := by decide +kernel
theorem dX0_gap_19 : decode cX0_gap 19 = .ok (.invokestatic 50, 3) := by decide +kernel
theorem dX0_gap_22 : decode cX0_gap 22 = .ok (.ifCond .eq 7, 3) := by decide +kernel
theorem dX0_gap_25 : decode cX0_gap 25 = .ok (.iconst 0, 1) := by decide +kernel
theorem dX0_gap_26 : decode cX0_gap 26 = .ok (.goto 6, 3) := by decide +kernel
theorem dX0_gap_29 : decode cX0_gap 29 = .ok (.iload_n 3, 1) := by decide +kernel
theorem dX0_gap_30 : decode cX0_gap 30 = .ok (.iconst 1, 1) := by decide +kernel
theorem dX0_gap_31 : decode cX0_gap 31 = .ok (.iadd, 1) := by decide +kernel
theorem dX0_gap_32 : decode cX0_gap 32 = .ok (.istore_n 3, 1) := by decide +kernel
theorem dX0_gap_33 : decode cX0_gap 33 = .ok (.iload_n 2, 1) := by decide +kernel
theorem dX0_gap_34 : decode cX0_gap 34 = .ok (.iload_n 3, 1) := by decide +kernel
theorem dX0_gap_35 : decode cX0_gap 35 = .ok (.invokestatic 64, 3) := by decide +kernel
theorem dX0_gap_38 : decode cX0_gap 38 = .ok (.istore_n 2, 1) := by decide +kernel
theorem dX0_gap_39 : decode cX0_gap 39 = .ok (.iinc 4 1, 3) := by decide +kernel
theorem dX0_gap_42 : decode cX0_gap 42 = .ok (.goto (-35), 3) := by decide +kernel
theorem dX0_gap_45 : decode cX0_gap 45 = .ok (.iload_n 2, 1) := by decide +kernel
theorem dX0_gap_46 : decode cX0_gap 46 = .ok (.ireturn, 1) := by decide +kernel
theorem dX1_init_0 : decode cX1_init 0 = .ok (.aload_n 0, 1) := by decide +kernel
theorem dX1_init_1 : decode cX1_init 1 = .ok (.invokespecial 3, 3) := by decide +kernel
theorem dX1_init_4 : decode cX1_init 4 = .ok (.aload_n 0, 1) := by decide +kernel
theorem dX1_init_5 : decode cX1_init 5 = .ok (.new 9, 3) := by decide +kernel
theorem dX1_init_8 : decode cX1_init 8 = .ok (.dup, 1) := by decide +kernel
theorem dX1_init_9 : decode cX1_init 9 = .ok (.invokespecial 11, 3) := by decide +kernel
theorem dX1_init_12 : decode cX1_init 12 = .ok (.putfield 12, 3) := by decide +kernel
theorem dX1_init_15 : decode cX1_init 15 = .ok (.aload_n 0, 1) := by decide +kernel
theorem dX1_init_16 : decode cX1_init 16 = .ok (.new 18, 3) := by decide +kernel
theorem dX1_init_19 : decode cX1_init 19 = .ok (.dup, 1) := by decide +kernel
theorem dX1_init_20 : decode cX1_init 20 = .ok (.invokespecial 20, 3) := by decide +kernel
theorem dX1_init_23 : decode cX1_init 23 = .ok (.putfield 21, 3) := by decide +kernel
theorem dX1_init_26 : decode cX1_init 26 = .ok (.aload_n 0, 1) := by decide +kernel
theorem dX1_init_27 : decode cX1_init 27 = .ok (.bipush (-9), 2) := by decide +kernel
theorem dX1_init_29 : decode cX1_init 29 = .ok (.putfield 25, 3) := by decide +kernel
theorem dX1_init_32 : decode cX1_init 32 = .ok (.aload_n 0, 1) := by decide +kernel
theorem dX1_init_33 : decode cX1_init 33 = .ok (.iconst 0, 1) := by decide +kernel
theorem dX1_init_34 : decode cX1_init 34 = .ok (.putfield 29, 3) := by decide +kernel
theorem dX1_init_37 : decode cX1_init 37 = .ok (.aload_n 0, 1) := by decide +kernel
theorem dX1_init_38 : decode cX1_init 38 = .ok (.iconst 0, 1) := by decide +kernel
theorem dX1_init_39 : decode cX1_init 39 = .ok (.putfield 33, 3) := by decide +kernel
theorem dX1_init_42 : decode cX1_init 42 = .ok (.aload_n 0, 1) := by decide +kernel
theorem dX1_init_43 : decode cX1_init 43 = .ok (.iconst 0, 1) := by decide +kernel
theorem dX1_init_44 : decode cX1_init 44 = .ok (.putfield 36, 3) := by decide +kernel
theorem dX1_init_47 : decode cX1_init 47 = .ok (.return_, 1) := by decide +kernel
theorem dX1_readItems_0 : decode cX1_readItems 0 = .ok (.aload_n 0, 1) := by decide +kernel
theorem dX1_readItems_1 : decode cX1_readItems 1 = .ok (.bipush (-9), 2) := by decide +kernel
theorem dX1_readItems_3 : decode cX1_readItems 3 = .ok (.putfield 25, 3) := by decide +kernel
theorem dX1_readItems_6 : decode cX1_readItems 6 = .ok (.aload_n 0, 1) := by decide +kernel
theorem dX1_readItems_7 : decode cX1_readItems 7 = .ok (.iconst 0, 1) := by decide +kernel
theorem dX1_readItems_8 : decode cX1_readItems 8 = .ok (.putfield 29, 3) := by decide +kernel
theorem dX1_readItems_11 : decode cX1_readItems 11 = .ok (.aload_n 0, 1) := by decide +kernel
theorem dX1_readItems_12 : decode cX1_readItems 12 = .ok (.iconst 0, 1) := by decide +kernel
theorem dX1_readItems_13 : decode cX1_readItems 13 = .ok (.putfield 33, 3) := by decide +kernel
theorem dX1_readItems_16 : decode cX1_readItems 16 = .ok (.aload_n 0, 1) := by decide +kernel
theorem dX1_readItems_17 : decode cX1_readItems 17 = .ok (.iconst 0, 1) := by decide +kernel
theorem dX1_readItems_18 : decode cX1_readItems 18 = .ok (.putfield 36, 3) := by decide +kernel
theorem dX1_readItems_21 : decode cX1_readItems 21 = .ok (.aload_n 0, 1) := by decide +kernel
theorem dX1_readItems_22 : decode cX1_readItems 22 = .ok (.getfield 21, 3) := by decide +kernel
theorem dX1_readItems_25 : decode cX1_readItems 25 = .ok (.invokevirtual 39, 3) := by decide +kernel
theorem dX1_readItems_28 : decode cX1_readItems 28 = .ok (.aload_n 0, 1) := by decide +kernel
theorem dX1_readItems_29 : decode cX1_readItems 29 = .ok (.getfield 12, 3) := by decide +kernel
theorem dX1_readItems_32 : decode cX1_readItems 32 = .ok (.invokevirtual 42, 3) := by decide +kernel
theorem dX1_readItems_35 : decode cX1_readItems 35 = .ok (.iconst 0, 1) := by decide +kernel
theorem dX1_readItems_36 : decode cX1_readItems 36 = .ok (.istore_n 1, 1) := by decide +kernel
theorem dX1_readItems_37 : decode cX1_readItems 37 = .ok (.iload_n 1, 1) := by decide +kernel
theorem dX1_readItems_38 : decode cX1_readItems 38 = .ok (.sipush 150, 3) := by decide +kernel
theorem dX1_readItems_41 : decode cX1_readItems 41 = .ok (.if_icmp .ge 32, 3) := by decide +kernel
theorem dX1_readItems_44 : decode cX1_readItems 44 = .ok (.aload_n 0, 1) := by decide +kernel
theorem dX1_readItems_45 : decode cX1_readItems 45 = .ok (.getfield 25, 3) := by decide +kernel
theorem dX1_readItems_48 : decode cX1_readItems 48 = .ok (.bipush (-9), 2) := by decide +kernel
theorem dX1_readItems_50 : decode cX1_readItems 50 = .ok (.if_icmp .ne 23, 3) := by decide +kernel
theorem dX1_readItems_53 : decode cX1_readItems 53 = .ok (.aload_n 0, 1) := by decide +kernel
theorem dX1_readItems_54 : decode cX1_readItems 54 = .ok (.getfield 12, 3) := by decide +kernel
theorem dX1_readItems_57 : decode cX1_readItems 57 = .ok (.getfield 45, 3) := by decide +kernel
theorem dX1_readItems_60 : decode cX1_readItems 60 = .ok (.ifCond .eq 13, 3) := by decide +kernel
theorem dX1_readItems_63 : decode cX1_readItems 63 = .ok (.aload_n 0, 1) := by decide +kernel
theorem dX1_readItems_64 : decode cX1_readItems 64 = .ok (.invokevirtual 48, 3) := by decide +kernel
theorem dX1_readItems_67 : decode cX1_readItems 67 = .ok (.iinc 1 1, 3) := by decide +kernel
theorem dX1_readItems_70 : decode cX1_readItems 70 = .ok (.goto (-33), 3) := by decide +kernel
theorem dX1_readItems_73 : decode cX1_readItems 73 = .ok (.aload_n 0, 1) := by decide +kernel
theorem dX1_readItems_74 : decode cX1_readItems 74 = .ok (.getfield 25, 3) := by decide +kernel
theorem dX1_readItems_77 : decode cX1_readItems 77 = .ok (.bipush (-9), 2) := by decide +kernel
theorem dX1_readItems_79 : decode cX1_readItems 79 = .ok (.if_icmp .ne 7, 3) := by decide +kernel
theorem dX1_readItems_82 : decode cX1_readItems 82 = .ok (.iload_n 1, 1) := by decide +kernel
theorem dX1_readItems_83 : decode cX1_readItems 83 = .ok (.goto 10, 3) := by decide +kernel
theorem dX1_readItems_86 : decode cX1_readItems 86 = .ok (.bipush (-10), 2) := by decide +kernel
theorem dX1_readItems_88 : decode cX1_readItems 88 = .ok (.aload_n 0, 1) := by decide +kernel
theorem dX1_readItems_89 : decode cX1_readItems 89 = .ok (.getfield 25, 3) := by decide +kernel
theorem dX1_readItems_92 : decode cX1_readItems 92 = .ok (.isub, 1) := by decide +kernel
theorem dX1_readItems_93 : decode cX1_readItems 93 = .ok (.ireturn, 1) := by decide +kernel
theorem dX1_handOver_0 : decode cX1_handOver 0 = .ok (.aload_n 0, 1) := by decide +kernel
theorem dX1_handOver_1 : decode cX1_handOver 1 = .ok (.getfield 21, 3) := by decide +kernel
theorem dX1_handOver_4 : decode cX1_handOver 4 = .ok (.astore_n 2, 1) := by decide +kernel
theorem dX1_handOver_5 : decode cX1_handOver 5 = .ok (.aload_n 0, 1) := by decide +kernel
theorem dX1_handOver_6 : decode cX1_handOver 6 = .ok (.aload_n 1, 1) := by decide +kernel
theorem dX1_handOver_7 : decode cX1_handOver 7 = .ok (.putfield 21, 3) := by decide +kernel
theorem dX1_handOver_10 : decode cX1_handOver 10 = .ok (.aload_n 2, 1) := by decide +kernel
theorem dX1_handOver_11 : decode cX1_handOver 11 = .ok (.areturn, 1) := by decide +kernel
theorem dX1_readItem_0 : decode cX1_readItem 0 = .ok (.aload_n 0, 1) := by decide +kernel
theorem dX1_readItem_1 : decode cX1_readItem 1 = .ok (.getfield 12, 3) := by decide +kernel
theorem dX1_readItem_4 : decode cX1_readItem 4 = .ok (.getfield 45, 3) := by decide +kernel
theorem dX1_readItem_7 : decode cX1_readItem 7 = .ok (.iconst 1, 1) := by decide +kernel
theorem dX1_readItem_8 : decode cX1_readItem 8 = .ok (.if_icmp .ne 13, 3) := by decide +kernel
theorem dX1_readItem_11 : decode cX1_readItem 11 = .ok (.aload_n 0, 1) := by decide +kernel
theorem dX1_readItem_12 : decode cX1_readItem 12 = .ok (.getfield 12, 3) := by decide +kernel
theorem dX1_readItem_15 : decode cX1_readItem 15 = .ok (.getfield 51, 3) := by decide +kernel
theorem dX1_readItem_18 : decode cX1_readItem 18 = .ok (.goto 4, 3) := by decide +kernel
theorem dX1_readItem_21 : decode cX1_readItem 21 = .ok (.iconst 0, 1) := by decide +kernel
theorem dX1_readItem_22 : decode cX1_readItem 22 = .ok (.lookupswitch 85 #[(99, 57), (105, 71), (108, 78), (112, 64), (115, 50)], 50) := by decide +kernel
theorem dX1_readItem_72 : decode cX1_readItem 72 = .ok (.aload_n 0, 1) := by decide +kernel
theorem dX1_readItem_73 : decode cX1_readItem 73 = .ok (.invokevirtual 54, 3) := by decide +kernel
theorem dX1_readItem_76 : decode cX1_readItem 76 = .ok (.goto 36, 3) := by decide +kernel
theorem dX1_readItem_79 : decode cX1_readItem 79 = .ok (.aload_n 0, 1) := by decide +kernel
theorem dX1_readItem_80 : decode cX1_readItem 80 = .ok (.invokevirtual 57, 3) := by decide +kernel
theorem dX1_readItem_83 : decode cX1_readItem 83 = .ok (.goto 29, 3) := by decide +kernel
theorem dX1_readItem_86 : decode cX1_readItem 86 = .ok (.aload_n 0, 1) := by decide +kernel
theorem dX1_readItem_87 : decode cX1_readItem 87 = .ok (.invokevirtual 60, 3) := by decide +kernel
theorem dX1_readItem_90 : decode cX1_readItem 90 = .ok (.goto 22, 3) := by decide +kernel
theorem dX1_readItem_93 : decode cX1_readItem 93 = .ok (.aload_n 0, 1) := by decide +kernel
theorem dX1_readItem_94 : decode cX1_readItem 94 = .ok (.invokevirtual 63, 3) := by decide +kernel
theorem dX1_readItem_97 : decode cX1_readItem 97 = .ok (.goto 15, 3) := by decide +kernel
theorem dX1_readItem_100 : decode cX1_readItem 100 = .ok (.aload_n 0, 1) := by decide +kernel
theorem dX1_readItem_101 : decode cX1_readItem 101 = .ok (.invokevirtual 66, 3) := by decide +kernel
theorem dX1_readItem_104 : decode cX1_readItem 104 = .ok (.goto 8, 3) := by decide +kernel
theorem dX1_readItem_107 : decode cX1_readItem 107 = .ok (.aload_n 0, 1) := by decide +kernel
theorem dX1_readItem_108 : decode cX1_readItem 108 = .ok (.iconst 0, 1) := by decide +kernel
theorem dX1_readItem_109 : decode cX1_readItem 109 = .ok (.invokevirtual 69, 3) := by decide +kernel
theorem dX1_readItem_112 : decode cX1_readItem 112 = .ok (.aload_n 0, 1) := by decide +kernel
theorem dX1_readItem_113 : decode cX1_readItem 113 = .ok (.invokevirtual 73, 3) := by decide +kernel
theorem dX1_readItem_116 : decode cX1_readItem 116 = .ok (.return_, 1) := by decide +kernel
theorem dX1_readSeason_0 : decode cX1_readSeason 0 = .ok (.aload_n 0, 1) := by decide +kernel
theorem dX1_readSeason_1 : decode cX1_readSeason 1 = .ok (.aload_n 0, 1) := by decide +kernel
theorem dX1_readSeason_2 : decode cX1_readSeason 2 = .ok (.getfield 21, 3) := by decide +kernel
theorem dX1_readSeason_5 : decode cX1_readSeason 5 = .ok (.getfield 76, 3) := by decide +kernel
theorem dX1_readSeason_8 : decode cX1_readSeason 8 = .ok (.iconst 5, 1) := by decide +kernel
theorem dX1_readSeason_9 : decode cX1_readSeason 9 = .ok (.if_icmp .ge 7, 3) := by decide +kernel
theorem dX1_readSeason_12 : decode cX1_readSeason 12 = .ok (.iconst 1, 1) := by decide +kernel
theorem dX1_readSeason_13 : decode cX1_readSeason 13 = .ok (.goto 4, 3) := by decide +kernel
theorem dX1_readSeason_16 : decode cX1_readSeason 16 = .ok (.iconst 0, 1) := by decide +kernel
theorem dX1_readSeason_17 : decode cX1_readSeason 17 = .ok (.invokevirtual 79, 3) := by decide +kernel
theorem dX1_readSeason_20 : decode cX1_readSeason 20 = .ok (.aload_n 0, 1) := by decide +kernel
theorem dX1_readSeason_21 : decode cX1_readSeason 21 = .ok (.iconst 1, 1) := by decide +kernel
theorem dX1_readSeason_22 : decode cX1_readSeason 22 = .ok (.bipush 9, 2) := by decide +kernel
theorem dX1_readSeason_24 : decode cX1_readSeason 24 = .ok (.bipush 30, 2) := by decide +kernel
theorem dX1_readSeason_26 : decode cX1_readSeason 26 = .ok (.aload_n 0, 1) := by decide +kernel
theorem dX1_readSeason_27 : decode cX1_readSeason 27 = .ok (.getfield 21, 3) := by decide +kernel
theorem dX1_readSeason_30 : decode cX1_readSeason 30 = .ok (.getfield 82, 3) := by decide +kernel
theorem dX1_readSeason_33 : decode cX1_readSeason 33 = .ok (.isub, 1) := by decide +kernel
theorem dX1_readSeason_34 : decode cX1_readSeason 34 = .ok (.invokestatic 85, 3) := by decide +kernel
theorem dX1_readSeason_37 : decode cX1_readSeason 37 = .ok (.invokevirtual 91, 3) := by decide +kernel
theorem dX1_readSeason_40 : decode cX1_readSeason 40 = .ok (.istore_n 1, 1) := by decide +kernel
theorem dX1_readSeason_41 : decode cX1_readSeason 41 = .ok (.aload_n 0, 1) := by decide +kernel
theorem dX1_readSeason_42 : decode cX1_readSeason 42 = .ok (.iconst 0, 1) := by decide +kernel
theorem dX1_readSeason_43 : decode cX1_readSeason 43 = .ok (.bipush 9, 2) := by decide +kernel
theorem dX1_readSeason_45 : decode cX1_readSeason 45 = .ok (.invokevirtual 91, 3) := by decide +kernel
theorem dX1_readSeason_48 : decode cX1_readSeason 48 = .ok (.istore_n 2, 1) := by decide +kernel
theorem dX1_readSeason_49 : decode cX1_readSeason 49 = .ok (.aload_n 0, 1) := by decide +kernel
theorem dX1_readSeason_50 : decode cX1_readSeason 50 = .ok (.getfield 25, 3) := by decide +kernel
theorem dX1_readSeason_53 : decode cX1_readSeason 53 = .ok (.bipush (-9), 2) := by decide +kernel
theorem dX1_readSeason_55 : decode cX1_readSeason 55 = .ok (.if_icmp .ne 12, 3) := by decide +kernel
theorem dX1_readSeason_58 : decode cX1_readSeason 58 = .ok (.aload_n 0, 1) := by decide +kernel
theorem dX1_readSeason_59 : decode cX1_readSeason 59 = .ok (.getfield 21, 3) := by decide +kernel
theorem dX1_readSeason_62 : decode cX1_readSeason 62 = .ok (.iload_n 1, 1) := by decide +kernel
theorem dX1_readSeason_63 : decode cX1_readSeason 63 = .ok (.iload_n 2, 1) := by decide +kernel
theorem dX1_readSeason_64 : decode cX1_readSeason 64 = .ok (.invokevirtual 94, 3) := by decide +kernel
theorem dX1_readSeason_67 : decode cX1_readSeason 67 = .ok (.return_, 1) := by decide +kernel
theorem dX1_readCrop_0 : decode cX1_readCrop 0 = .ok (.aload_n 0, 1) := by decide +kernel
theorem dX1_readCrop_1 : decode cX1_readCrop 1 = .ok (.aload_n 0, 1) := by decide +kernel
theorem dX1_readCrop_2 : decode cX1_readCrop 2 = .ok (.getfield 21, 3) := by decide +kernel
theorem dX1_readCrop_5 : decode cX1_readCrop 5 = .ok (.getfield 98, 3) := by decide +kernel
theorem dX1_readCrop_8 : decode cX1_readCrop 8 = .ok (.iconst 4, 1) := by decide +kernel
theorem dX1_readCrop_9 : decode cX1_readCrop 9 = .ok (.if_icmp .ge 7, 3) := by decide +kernel
theorem dX1_readCrop_12 : decode cX1_readCrop 12 = .ok (.iconst 1, 1) := by decide +kernel
theorem dX1_readCrop_13 : decode cX1_readCrop 13 = .ok (.goto 4, 3) := by decide +kernel
theorem dX1_readCrop_16 : decode cX1_readCrop 16 = .ok (.iconst 0, 1) := by decide +kernel
theorem dX1_readCrop_17 : decode cX1_readCrop 17 = .ok (.invokevirtual 79, 3) := by decide +kernel
theorem dX1_readCrop_20 : decode cX1_readCrop 20 = .ok (.aload_n 0, 1) := by decide +kernel
theorem dX1_readCrop_21 : decode cX1_readCrop 21 = .ok (.iconst 1, 1) := by decide +kernel
theorem dX1_readCrop_22 : decode cX1_readCrop 22 = .ok (.bipush 9, 2) := by decide +kernel
theorem dX1_readCrop_24 : decode cX1_readCrop 24 = .ok (.invokevirtual 91, 3) := by decide +kernel
theorem dX1_readCrop_27 : decode cX1_readCrop 27 = .ok (.istore_n 1, 1) := by decide +kernel
theorem dX1_readCrop_28 : decode cX1_readCrop 28 = .ok (.aload_n 0, 1) := by decide +kernel
theorem dX1_readCrop_29 : decode cX1_readCrop 29 = .ok (.iconst 0, 1) := by decide +kernel
theorem dX1_readCrop_30 : decode cX1_readCrop 30 = .ok (.bipush 9, 2) := by decide +kernel
theorem dX1_readCrop_32 : decode cX1_readCrop 32 = .ok (.invokevirtual 91, 3) := by decide +kernel
theorem dX1_readCrop_35 : decode cX1_readCrop 35 = .ok (.istore_n 2, 1) := by decide +kernel
theorem dX1_readCrop_36 : decode cX1_readCrop 36 = .ok (.aload_n 0, 1) := by decide +kernel
theorem dX1_readCrop_37 : decode cX1_readCrop 37 = .ok (.iconst 0, 1) := by decide +kernel
theorem dX1_readCrop_38 : decode cX1_readCrop 38 = .ok (.bipush 99, 2) := by decide +kernel
theorem dX1_readCrop_40 : decode cX1_readCrop 40 = .ok (.invokevirtual 91, 3) := by decide +kernel
theorem dX1_readCrop_43 : decode cX1_readCrop 43 = .ok (.istore_n 3, 1) := by decide +kernel
theorem dX1_readCrop_44 : decode cX1_readCrop 44 = .ok (.aload_n 0, 1) := by decide +kernel
theorem dX1_readCrop_45 : decode cX1_readCrop 45 = .ok (.getfield 25, 3) := by decide +kernel
theorem dX1_readCrop_48 : decode cX1_readCrop 48 = .ok (.bipush (-9), 2) := by decide +kernel
theorem dX1_readCrop_50 : decode cX1_readCrop 50 = .ok (.if_icmp .ne 13, 3) := by decide +kernel
theorem dX1_readCrop_53 : decode cX1_readCrop 53 = .ok (.aload_n 0, 1) := by decide +kernel
theorem dX1_readCrop_54 : decode cX1_readCrop 54 = .ok (.getfield 21, 3) := by decide +kernel
theorem dX1_readCrop_57 : decode cX1_readCrop 57 = .ok (.iload_n 1, 1) := by decide +kernel
theorem dX1_readCrop_58 : decode cX1_readCrop 58 = .ok (.iload_n 2, 1) := by decide +kernel
theorem dX1_readCrop_59 : decode cX1_readCrop 59 = .ok (.iload_n 3, 1) := by decide +kernel
theorem dX1_readCrop_60 : decode cX1_readCrop 60 = .ok (.invokevirtual 101, 3) := by decide +kernel
theorem dX1_readCrop_63 : decode cX1_readCrop 63 = .ok (.return_, 1) := by decide +kernel
theorem dX1_readPrice_0 : decode cX1_readPrice 0 = .ok (.aload_n 0, 1) := by decide +kernel
theorem dX1_readPrice_1 : decode cX1_readPrice 1 = .ok (.aload_n 0, 1) := by decide +kernel
theorem dX1_readPrice_2 : decode cX1_readPrice 2 = .ok (.getfield 29, 3) := by decide +kernel
theorem dX1_readPrice_5 : decode cX1_readPrice 5 = .ok (.ifCond .ne 7, 3) := by decide +kernel
theorem dX1_readPrice_8 : decode cX1_readPrice 8 = .ok (.iconst 1, 1) := by decide +kernel
theorem dX1_readPrice_9 : decode cX1_readPrice 9 = .ok (.goto 4, 3) := by decide +kernel
theorem dX1_readPrice_12 : decode cX1_readPrice 12 = .ok (.iconst 0, 1) := by decide +kernel
theorem dX1_readPrice_13 : decode cX1_readPrice 13 = .ok (.invokevirtual 79, 3) := by decide +kernel
theorem dX1_readPrice_16 : decode cX1_readPrice 16 = .ok (.aload_n 0, 1) := by decide +kernel
theorem dX1_readPrice_17 : decode cX1_readPrice 17 = .ok (.iconst 1, 1) := by decide +kernel
theorem dX1_readPrice_18 : decode cX1_readPrice 18 = .ok (.putfield 29, 3) := by decide +kernel
theorem dX1_readPrice_21 : decode cX1_readPrice 21 = .ok (.aload_n 0, 1) := by decide +kernel
theorem dX1_readPrice_22 : decode cX1_readPrice 22 = .ok (.getfield 21, 3) := by decide +kernel
theorem dX1_readPrice_25 : decode cX1_readPrice 25 = .ok (.aload_n 0, 1) := by decide +kernel
theorem dX1_readPrice_26 : decode cX1_readPrice 26 = .ok (.iconst 1, 1) := by decide +kernel
theorem dX1_readPrice_27 : decode cX1_readPrice 27 = .ok (.bipush 9, 2) := by decide +kernel
theorem dX1_readPrice_29 : decode cX1_readPrice 29 = .ok (.invokevirtual 91, 3) := by decide +kernel
theorem dX1_readPrice_32 : decode cX1_readPrice 32 = .ok (.putfield 105, 3) := by decide +kernel
theorem dX1_readPrice_35 : decode cX1_readPrice 35 = .ok (.return_, 1) := by decide +kernel
theorem dX1_readInterest_0 : decode cX1_readInterest 0 = .ok (.aload_n 0, 1) := by decide +kernel
theorem dX1_readInterest_1 : decode cX1_readInterest 1 = .ok (.aload_n 0, 1) := by decide +kernel
theorem dX1_readInterest_2 : decode cX1_readInterest 2 = .ok (.getfield 33, 3) := by decide +kernel
theorem dX1_readInterest_5 : decode cX1_readInterest 5 = .ok (.ifCond .ne 7, 3) := by decide +kernel
theorem dX1_readInterest_8 : decode cX1_readInterest 8 = .ok (.iconst 1, 1) := by decide +kernel
theorem dX1_readInterest_9 : decode cX1_readInterest 9 = .ok (.goto 4, 3) := by decide +kernel
theorem dX1_readInterest_12 : decode cX1_readInterest 12 = .ok (.iconst 0, 1) := by decide +kernel
theorem dX1_readInterest_13 : decode cX1_readInterest 13 = .ok (.invokevirtual 79, 3) := by decide +kernel
theorem dX1_readInterest_16 : decode cX1_readInterest 16 = .ok (.aload_n 0, 1) := by decide +kernel
theorem dX1_readInterest_17 : decode cX1_readInterest 17 = .ok (.iconst 1, 1) := by decide +kernel
theorem dX1_readInterest_18 : decode cX1_readInterest 18 = .ok (.putfield 33, 3) := by decide +kernel
theorem dX1_readInterest_21 : decode cX1_readInterest 21 = .ok (.aload_n 0, 1) := by decide +kernel
theorem dX1_readInterest_22 : decode cX1_readInterest 22 = .ok (.getfield 21, 3) := by decide +kernel
theorem dX1_readInterest_25 : decode cX1_readInterest 25 = .ok (.aload_n 0, 1) := by decide +kernel
theorem dX1_readInterest_26 : decode cX1_readInterest 26 = .ok (.iconst 0, 1) := by decide +kernel
theorem dX1_readInterest_27 : decode cX1_readInterest 27 = .ok (.iconst 5, 1) := by decide +kernel
theorem dX1_readInterest_28 : decode cX1_readInterest 28 = .ok (.invokevirtual 91, 3) := by decide +kernel
theorem dX1_readInterest_31 : decode cX1_readInterest 31 = .ok (.putfield 108, 3) := by decide +kernel
theorem dX1_readInterest_34 : decode cX1_readInterest 34 = .ok (.return_, 1) := by decide +kernel
theorem dX1_readLapse_0 : decode cX1_readLapse 0 = .ok (.aload_n 0, 1) := by decide +kernel
theorem dX1_readLapse_1 : decode cX1_readLapse 1 = .ok (.aload_n 0, 1) := by decide +kernel
theorem dX1_readLapse_2 : decode cX1_readLapse 2 = .ok (.getfield 36, 3) := by decide +kernel
theorem dX1_readLapse_5 : decode cX1_readLapse 5 = .ok (.ifCond .ne 7, 3) := by decide +kernel
theorem dX1_readLapse_8 : decode cX1_readLapse 8 = .ok (.iconst 1, 1) := by decide +kernel
theorem dX1_readLapse_9 : decode cX1_readLapse 9 = .ok (.goto 4, 3) := by decide +kernel
theorem dX1_readLapse_12 : decode cX1_readLapse 12 = .ok (.iconst 0, 1) := by decide +kernel
theorem dX1_readLapse_13 : decode cX1_readLapse 13 = .ok (.invokevirtual 79, 3) := by decide +kernel
theorem dX1_readLapse_16 : decode cX1_readLapse 16 = .ok (.aload_n 0, 1) := by decide +kernel
theorem dX1_readLapse_17 : decode cX1_readLapse 17 = .ok (.iconst 1, 1) := by decide +kernel
theorem dX1_readLapse_18 : decode cX1_readLapse 18 = .ok (.putfield 36, 3) := by decide +kernel
theorem dX1_readLapse_21 : decode cX1_readLapse 21 = .ok (.aload_n 0, 1) := by decide +kernel
theorem dX1_readLapse_22 : decode cX1_readLapse 22 = .ok (.getfield 21, 3) := by decide +kernel
theorem dX1_readLapse_25 : decode cX1_readLapse 25 = .ok (.aload_n 0, 1) := by decide +kernel
theorem dX1_readLapse_26 : decode cX1_readLapse 26 = .ok (.iconst 1, 1) := by decide +kernel
theorem dX1_readLapse_27 : decode cX1_readLapse 27 = .ok (.bipush 9, 2) := by decide +kernel
theorem dX1_readLapse_29 : decode cX1_readLapse 29 = .ok (.invokevirtual 91, 3) := by decide +kernel
theorem dX1_readLapse_32 : decode cX1_readLapse 32 = .ok (.putfield 111, 3) := by decide +kernel
theorem dX1_readLapse_35 : decode cX1_readLapse 35 = .ok (.return_, 1) := by decide +kernel
theorem dX1_readLetter_0 : decode cX1_readLetter 0 = .ok (.aload_n 0, 1) := by decide +kernel
theorem dX1_readLetter_1 : decode cX1_readLetter 1 = .ok (.iload_n 1, 1) := by decide +kernel
theorem dX1_readLetter_2 : decode cX1_readLetter 2 = .ok (.invokevirtual 69, 3) := by decide +kernel
theorem dX1_readLetter_5 : decode cX1_readLetter 5 = .ok (.aload_n 0, 1) := by decide +kernel
theorem dX1_readLetter_6 : decode cX1_readLetter 6 = .ok (.getfield 12, 3) := by decide +kernel
theorem dX1_readLetter_9 : decode cX1_readLetter 9 = .ok (.invokevirtual 114, 3) := by decide +kernel
theorem dX1_readLetter_12 : decode cX1_readLetter 12 = .ok (.return_, 1) := by decide +kernel
theorem dX1_readNumber_0 : decode cX1_readNumber 0 = .ok (.aload_n 0, 1) := by decide +kernel
theorem dX1_readNumber_1 : decode cX1_readNumber 1 = .ok (.getfield 12, 3) := by decide +kernel
theorem dX1_readNumber_4 : decode cX1_readNumber 4 = .ok (.getfield 51, 3) := by decide +kernel
theorem dX1_readNumber_7 : decode cX1_readNumber 7 = .ok (.istore_n 3, 1) := by decide +kernel
theorem dX1_readNumber_8 : decode cX1_readNumber 8 = .ok (.aload_n 0, 1) := by decide +kernel
theorem dX1_readNumber_9 : decode cX1_readNumber 9 = .ok (.aload_n 0, 1) := by decide +kernel
theorem dX1_readNumber_10 : decode cX1_readNumber 10 = .ok (.getfield 12, 3) := by decide +kernel
theorem dX1_readNumber_13 : decode cX1_readNumber 13 = .ok (.getfield 45, 3) := by decide +kernel
theorem dX1_readNumber_16 : decode cX1_readNumber 16 = .ok (.iconst 2, 1) := by decide +kernel
theorem dX1_readNumber_17 : decode cX1_readNumber 17 = .ok (.if_icmp .ne 16, 3) := by decide +kernel
theorem dX1_readNumber_20 : decode cX1_readNumber 20 = .ok (.iload_n 3, 1) := by decide +kernel
theorem dX1_readNumber_21 : decode cX1_readNumber 21 = .ok (.iload_n 1, 1) := by decide +kernel
theorem dX1_readNumber_22 : decode cX1_readNumber 22 = .ok (.iload_n 2, 1) := by decide +kernel
theorem dX1_readNumber_23 : decode cX1_readNumber 23 = .ok (.invokestatic 117, 3) := by decide +kernel
theorem dX1_readNumber_26 : decode cX1_readNumber 26 = .ok (.ifCond .eq 7, 3) := by decide +kernel
theorem dX1_readNumber_29 : decode cX1_readNumber 29 = .ok (.iconst 1, 1) := by decide +kernel
theorem dX1_readNumber_30 : decode cX1_readNumber 30 = .ok (.goto 4, 3) := by decide +kernel
theorem dX1_readNumber_33 : decode cX1_readNumber 33 = .ok (.iconst 0, 1) := by decide +kernel
theorem dX1_readNumber_34 : decode cX1_readNumber 34 = .ok (.invokevirtual 69, 3) := by decide +kernel
theorem dX1_readNumber_37 : decode cX1_readNumber 37 = .ok (.aload_n 0, 1) := by decide +kernel
theorem dX1_readNumber_38 : decode cX1_readNumber 38 = .ok (.getfield 12, 3) := by decide +kernel
theorem dX1_readNumber_41 : decode cX1_readNumber 41 = .ok (.invokevirtual 114, 3) := by decide +kernel
theorem dX1_readNumber_44 : decode cX1_readNumber 44 = .ok (.iload_n 3, 1) := by decide +kernel
theorem dX1_readNumber_45 : decode cX1_readNumber 45 = .ok (.ireturn, 1) := by decide +kernel
theorem dX1_readEnd_0 : decode cX1_readEnd 0 = .ok (.aload_n 0, 1) := by decide +kernel
theorem dX1_readEnd_1 : decode cX1_readEnd 1 = .ok (.aload_n 0, 1) := by decide +kernel
theorem dX1_readEnd_2 : decode cX1_readEnd 2 = .ok (.getfield 12, 3) := by decide +kernel
theorem dX1_readEnd_5 : decode cX1_readEnd 5 = .ok (.getfield 45, 3) := by decide +kernel
theorem dX1_readEnd_8 : decode cX1_readEnd 8 = .ok (.iconst 3, 1) := by decide +kernel
theorem dX1_readEnd_9 : decode cX1_readEnd 9 = .ok (.if_icmp .ne 7, 3) := by decide +kernel
theorem dX1_readEnd_12 : decode cX1_readEnd 12 = .ok (.iconst 1, 1) := by decide +kernel
theorem dX1_readEnd_13 : decode cX1_readEnd 13 = .ok (.goto 4, 3) := by decide +kernel
theorem dX1_readEnd_16 : decode cX1_readEnd 16 = .ok (.iconst 0, 1) := by decide +kernel
theorem dX1_readEnd_17 : decode cX1_readEnd 17 = .ok (.invokevirtual 69, 3) := by decide +kernel
theorem dX1_readEnd_20 : decode cX1_readEnd 20 = .ok (.aload_n 0, 1) := by decide +kernel
theorem dX1_readEnd_21 : decode cX1_readEnd 21 = .ok (.getfield 12, 3) := by decide +kernel
theorem dX1_readEnd_24 : decode cX1_readEnd 24 = .ok (.invokevirtual 114, 3) := by decide +kernel
theorem dX1_readEnd_27 : decode cX1_readEnd 27 = .ok (.return_, 1) := by decide +kernel
theorem dX1_refuseUnless_0 : decode cX1_refuseUnless 0 = .ok (.iload_n 1, 1) := by decide +kernel
theorem dX1_refuseUnless_1 : decode cX1_refuseUnless 1 = .ok (.ifCond .ne 23, 3) := by decide +kernel
theorem dX1_refuseUnless_4 : decode cX1_refuseUnless 4 = .ok (.aload_n 0, 1) := by decide +kernel
theorem dX1_refuseUnless_5 : decode cX1_refuseUnless 5 = .ok (.getfield 25, 3) := by decide +kernel
theorem dX1_refuseUnless_8 : decode cX1_refuseUnless 8 = .ok (.bipush (-9), 2) := by decide +kernel
theorem dX1_refuseUnless_10 : decode cX1_refuseUnless 10 = .ok (.if_icmp .ne 14, 3) := by decide +kernel
theorem dX1_refuseUnless_13 : decode cX1_refuseUnless 13 = .ok (.aload_n 0, 1) := by decide +kernel
theorem dX1_refuseUnless_14 : decode cX1_refuseUnless 14 = .ok (.aload_n 0, 1) := by decide +kernel
theorem dX1_refuseUnless_15 : decode cX1_refuseUnless 15 = .ok (.getfield 12, 3) := by decide +kernel
theorem dX1_refuseUnless_18 : decode cX1_refuseUnless 18 = .ok (.getfield 121, 3) := by decide +kernel
theorem dX1_refuseUnless_21 : decode cX1_refuseUnless 21 = .ok (.putfield 25, 3) := by decide +kernel
theorem dX1_refuseUnless_24 : decode cX1_refuseUnless 24 = .ok (.return_, 1) := by decide +kernel
theorem dX2_init_0 : decode cX2_init 0 = .ok (.aload_n 0, 1) := by decide +kernel
theorem dX2_init_1 : decode cX2_init 1 = .ok (.invokespecial 3, 3) := by decide +kernel
theorem dX2_init_4 : decode cX2_init 4 = .ok (.aload_n 0, 1) := by decide +kernel
theorem dX2_init_5 : decode cX2_init 5 = .ok (.iconst 4, 1) := by decide +kernel
theorem dX2_init_6 : decode cX2_init 6 = .ok (.newarray .int, 2) := by decide +kernel
theorem dX2_init_8 : decode cX2_init 8 = .ok (.putfield 9, 3) := by decide +kernel
theorem dX2_init_11 : decode cX2_init 11 = .ok (.aload_n 0, 1) := by decide +kernel
theorem dX2_init_12 : decode cX2_init 12 = .ok (.iconst 4, 1) := by decide +kernel
theorem dX2_init_13 : decode cX2_init 13 = .ok (.newarray .int, 2) := by decide +kernel
theorem dX2_init_15 : decode cX2_init 15 = .ok (.putfield 15, 3) := by decide +kernel
theorem dX2_init_18 : decode cX2_init 18 = .ok (.aload_n 0, 1) := by decide +kernel
theorem dX2_init_19 : decode cX2_init 19 = .ok (.iconst 4, 1) := by decide +kernel
theorem dX2_init_20 : decode cX2_init 20 = .ok (.newarray .int, 2) := by decide +kernel
theorem dX2_init_22 : decode cX2_init 22 = .ok (.putfield 18, 3) := by decide +kernel
theorem dX2_init_25 : decode cX2_init 25 = .ok (.aload_n 0, 1) := by decide +kernel
theorem dX2_init_26 : decode cX2_init 26 = .ok (.iconst 0, 1) := by decide +kernel
theorem dX2_init_27 : decode cX2_init 27 = .ok (.putfield 21, 3) := by decide +kernel
theorem dX2_init_30 : decode cX2_init 30 = .ok (.aload_n 0, 1) := by decide +kernel
theorem dX2_init_31 : decode cX2_init 31 = .ok (.iconst 0, 1) := by decide +kernel
theorem dX2_init_32 : decode cX2_init 32 = .ok (.putfield 25, 3) := by decide +kernel
theorem dX2_init_35 : decode cX2_init 35 = .ok (.aload_n 0, 1) := by decide +kernel
theorem dX2_init_36 : decode cX2_init 36 = .ok (.iconst 0, 1) := by decide +kernel
theorem dX2_init_37 : decode cX2_init 37 = .ok (.putfield 28, 3) := by decide +kernel
theorem dX2_init_40 : decode cX2_init 40 = .ok (.return_, 1) := by decide +kernel
theorem dX2_startAnew_0 : decode cX2_startAnew 0 = .ok (.iconst 0, 1) := by decide +kernel
theorem dX2_startAnew_1 : decode cX2_startAnew 1 = .ok (.istore_n 1, 1) := by decide +kernel
theorem dX2_startAnew_2 : decode cX2_startAnew 2 = .ok (.iload_n 1, 1) := by decide +kernel
theorem dX2_startAnew_3 : decode cX2_startAnew 3 = .ok (.iconst 4, 1) := by decide +kernel
theorem dX2_startAnew_4 : decode cX2_startAnew 4 = .ok (.if_icmp .ge 14, 3) := by decide +kernel
theorem dX2_startAnew_7 : decode cX2_startAnew 7 = .ok (.aload_n 0, 1) := by decide +kernel
theorem dX2_startAnew_8 : decode cX2_startAnew 8 = .ok (.iload_n 1, 1) := by decide +kernel
theorem dX2_startAnew_9 : decode cX2_startAnew 9 = .ok (.invokevirtual 31, 3) := by decide +kernel
theorem dX2_startAnew_12 : decode cX2_startAnew 12 = .ok (.iinc 1 1, 3) := by decide +kernel
theorem dX2_startAnew_15 : decode cX2_startAnew 15 = .ok (.goto (-13), 3) := by decide +kernel
theorem dX2_startAnew_18 : decode cX2_startAnew 18 = .ok (.aload_n 0, 1) := by decide +kernel
theorem dX2_startAnew_19 : decode cX2_startAnew 19 = .ok (.iconst 0, 1) := by decide +kernel
theorem dX2_startAnew_20 : decode cX2_startAnew 20 = .ok (.putfield 21, 3) := by decide +kernel
theorem dX2_startAnew_23 : decode cX2_startAnew 23 = .ok (.aload_n 0, 1) := by decide +kernel
theorem dX2_startAnew_24 : decode cX2_startAnew 24 = .ok (.iconst 0, 1) := by decide +kernel
theorem dX2_startAnew_25 : decode cX2_startAnew 25 = .ok (.putfield 25, 3) := by decide +kernel
theorem dX2_startAnew_28 : decode cX2_startAnew 28 = .ok (.aload_n 0, 1) := by decide +kernel
theorem dX2_startAnew_29 : decode cX2_startAnew 29 = .ok (.iconst 0, 1) := by decide +kernel
theorem dX2_startAnew_30 : decode cX2_startAnew 30 = .ok (.putfield 28, 3) := by decide +kernel
theorem dX2_startAnew_33 : decode cX2_startAnew 33 = .ok (.return_, 1) := by decide +kernel
theorem dX2_become_0 : decode cX2_become 0 = .ok (.iconst 0, 1) := by decide +kernel
theorem dX2_become_1 : decode cX2_become 1 = .ok (.istore_n 2, 1) := by decide +kernel
theorem dX2_become_2 : decode cX2_become 2 = .ok (.iload_n 2, 1) := by decide +kernel
theorem dX2_become_3 : decode cX2_become 3 = .ok (.iconst 4, 1) := by decide +kernel
theorem dX2_become_4 : decode cX2_become 4 = .ok (.if_icmp .ge 45, 3) := by decide +kernel
theorem dX2_become_7 : decode cX2_become 7 = .ok (.aload_n 0, 1) := by decide +kernel
theorem dX2_become_8 : decode cX2_become 8 = .ok (.getfield 9, 3) := by decide +kernel
theorem dX2_become_11 : decode cX2_become 11 = .ok (.iload_n 2, 1) := by decide +kernel
theorem dX2_become_12 : decode cX2_become 12 = .ok (.aload_n 1, 1) := by decide +kernel
theorem dX2_become_13 : decode cX2_become 13 = .ok (.getfield 9, 3) := by decide +kernel
theorem dX2_become_16 : decode cX2_become 16 = .ok (.iload_n 2, 1) := by decide +kernel
theorem dX2_become_17 : decode cX2_become 17 = .ok (.iaload, 1) := by decide +kernel
theorem dX2_become_18 : decode cX2_become 18 = .ok (.iastore, 1) := by decide +kernel
theorem dX2_become_19 : decode cX2_become 19 = .ok (.aload_n 0, 1) := by decide +kernel
theorem dX2_become_20 : decode cX2_become 20 = .ok (.getfield 15, 3) := by decide +kernel
theorem dX2_become_23 : decode cX2_become 23 = .ok (.iload_n 2, 1) := by decide +kernel
theorem dX2_become_24 : decode cX2_become 24 = .ok (.aload_n 1, 1) := by decide +kernel
theorem dX2_become_25 : decode cX2_become 25 = .ok (.getfield 15, 3) := by decide +kernel
theorem dX2_become_28 : decode cX2_become 28 = .ok (.iload_n 2, 1) := by decide +kernel
theorem dX2_become_29 : decode cX2_become 29 = .ok (.iaload, 1) := by decide +kernel
theorem dX2_become_30 : decode cX2_become 30 = .ok (.iastore, 1) := by decide +kernel
theorem dX2_become_31 : decode cX2_become 31 = .ok (.aload_n 0, 1) := by decide +kernel
theorem dX2_become_32 : decode cX2_become 32 = .ok (.getfield 18, 3) := by decide +kernel
theorem dX2_become_35 : decode cX2_become 35 = .ok (.iload_n 2, 1) := by decide +kernel
theorem dX2_become_36 : decode cX2_become 36 = .ok (.aload_n 1, 1) := by decide +kernel
theorem dX2_become_37 : decode cX2_become 37 = .ok (.getfield 18, 3) := by decide +kernel
theorem dX2_become_40 : decode cX2_become 40 = .ok (.iload_n 2, 1) := by decide +kernel
theorem dX2_become_41 : decode cX2_become 41 = .ok (.iaload, 1) := by decide +kernel
theorem dX2_become_42 : decode cX2_become 42 = .ok (.iastore, 1) := by decide +kernel
theorem dX2_become_43 : decode cX2_become 43 = .ok (.iinc 2 1, 3) := by decide +kernel
theorem dX2_become_46 : decode cX2_become 46 = .ok (.goto (-44), 3) := by decide +kernel
theorem dX2_become_49 : decode cX2_become 49 = .ok (.aload_n 0, 1) := by decide +kernel
theorem dX2_become_50 : decode cX2_become 50 = .ok (.aload_n 1, 1) := by decide +kernel
theorem dX2_become_51 : decode cX2_become 51 = .ok (.getfield 21, 3) := by decide +kernel
theorem dX2_become_54 : decode cX2_become 54 = .ok (.putfield 21, 3) := by decide +kernel
theorem dX2_become_57 : decode cX2_become 57 = .ok (.aload_n 0, 1) := by decide +kernel
theorem dX2_become_58 : decode cX2_become 58 = .ok (.aload_n 1, 1) := by decide +kernel
theorem dX2_become_59 : decode cX2_become 59 = .ok (.getfield 25, 3) := by decide +kernel
theorem dX2_become_62 : decode cX2_become 62 = .ok (.putfield 25, 3) := by decide +kernel
theorem dX2_become_65 : decode cX2_become 65 = .ok (.aload_n 0, 1) := by decide +kernel
theorem dX2_become_66 : decode cX2_become 66 = .ok (.aload_n 1, 1) := by decide +kernel
theorem dX2_become_67 : decode cX2_become 67 = .ok (.getfield 28, 3) := by decide +kernel
theorem dX2_become_70 : decode cX2_become 70 = .ok (.putfield 28, 3) := by decide +kernel
theorem dX2_become_73 : decode cX2_become 73 = .ok (.return_, 1) := by decide +kernel
theorem dX2_isFree_0 : decode cX2_isFree 0 = .ok (.aload_n 0, 1) := by decide +kernel
theorem dX2_isFree_1 : decode cX2_isFree 1 = .ok (.getfield 9, 3) := by decide +kernel
theorem dX2_isFree_4 : decode cX2_isFree 4 = .ok (.iload_n 1, 1) := by decide +kernel
theorem dX2_isFree_5 : decode cX2_isFree 5 = .ok (.iaload, 1) := by decide +kernel
theorem dX2_isFree_6 : decode cX2_isFree 6 = .ok (.ifCond .ne 7, 3) := by decide +kernel
theorem dX2_isFree_9 : decode cX2_isFree 9 = .ok (.iconst 1, 1) := by decide +kernel
theorem dX2_isFree_10 : decode cX2_isFree 10 = .ok (.goto 4, 3) := by decide +kernel
theorem dX2_isFree_13 : decode cX2_isFree 13 = .ok (.iconst 0, 1) := by decide +kernel
theorem dX2_isFree_14 : decode cX2_isFree 14 = .ok (.ireturn, 1) := by decide +kernel
theorem dX2_lowestFree_0 : decode cX2_lowestFree 0 = .ok (.iconst 0, 1) := by decide +kernel
theorem dX2_lowestFree_1 : decode cX2_lowestFree 1 = .ok (.istore_n 1, 1) := by decide +kernel
theorem dX2_lowestFree_2 : decode cX2_lowestFree 2 = .ok (.iload_n 1, 1) := by decide +kernel
theorem dX2_lowestFree_3 : decode cX2_lowestFree 3 = .ok (.iconst 4, 1) := by decide +kernel
theorem dX2_lowestFree_4 : decode cX2_lowestFree 4 = .ok (.if_icmp .ge 19, 3) := by decide +kernel
theorem dX2_lowestFree_7 : decode cX2_lowestFree 7 = .ok (.aload_n 0, 1) := by decide +kernel
theorem dX2_lowestFree_8 : decode cX2_lowestFree 8 = .ok (.iload_n 1, 1) := by decide +kernel
theorem dX2_lowestFree_9 : decode cX2_lowestFree 9 = .ok (.invokevirtual 35, 3) := by decide +kernel
theorem dX2_lowestFree_12 : decode cX2_lowestFree 12 = .ok (.ifCond .eq 5, 3) := by decide +kernel
theorem dX2_lowestFree_15 : decode cX2_lowestFree 15 = .ok (.iload_n 1, 1) := by decide +kernel
theorem dX2_lowestFree_16 : decode cX2_lowestFree 16 = .ok (.ireturn, 1) := by decide +kernel
theorem dX2_lowestFree_17 : decode cX2_lowestFree 17 = .ok (.iinc 1 1, 3) := by decide +kernel
theorem dX2_lowestFree_20 : decode cX2_lowestFree 20 = .ok (.goto (-18), 3) := by decide +kernel
theorem dX2_lowestFree_23 : decode cX2_lowestFree 23 = .ok (.bipush (-9), 2) := by decide +kernel
theorem dX2_lowestFree_25 : decode cX2_lowestFree 25 = .ok (.ireturn, 1) := by decide +kernel
theorem dX2_loanOf_0 : decode cX2_loanOf 0 = .ok (.iconst 0, 1) := by decide +kernel
theorem dX2_loanOf_1 : decode cX2_loanOf 1 = .ok (.istore_n 2, 1) := by decide +kernel
theorem dX2_loanOf_2 : decode cX2_loanOf 2 = .ok (.iload_n 2, 1) := by decide +kernel
theorem dX2_loanOf_3 : decode cX2_loanOf 3 = .ok (.iconst 4, 1) := by decide +kernel
theorem dX2_loanOf_4 : decode cX2_loanOf 4 = .ok (.if_icmp .ge 24, 3) := by decide +kernel
theorem dX2_loanOf_7 : decode cX2_loanOf 7 = .ok (.aload_n 0, 1) := by decide +kernel
theorem dX2_loanOf_8 : decode cX2_loanOf 8 = .ok (.getfield 9, 3) := by decide +kernel
theorem dX2_loanOf_11 : decode cX2_loanOf 11 = .ok (.iload_n 2, 1) := by decide +kernel
theorem dX2_loanOf_12 : decode cX2_loanOf 12 = .ok (.iaload, 1) := by decide +kernel
theorem dX2_loanOf_13 : decode cX2_loanOf 13 = .ok (.iload_n 1, 1) := by decide +kernel
theorem dX2_loanOf_14 : decode cX2_loanOf 14 = .ok (.invokestatic 39, 3) := by decide +kernel
theorem dX2_loanOf_17 : decode cX2_loanOf 17 = .ok (.ifCond .eq 5, 3) := by decide +kernel
theorem dX2_loanOf_20 : decode cX2_loanOf 20 = .ok (.iload_n 2, 1) := by decide +kernel
theorem dX2_loanOf_21 : decode cX2_loanOf 21 = .ok (.ireturn, 1) := by decide +kernel
theorem dX2_loanOf_22 : decode cX2_loanOf 22 = .ok (.iinc 2 1, 3) := by decide +kernel
theorem dX2_loanOf_25 : decode cX2_loanOf 25 = .ok (.goto (-23), 3) := by decide +kernel
theorem dX2_loanOf_28 : decode cX2_loanOf 28 = .ok (.bipush (-9), 2) := by decide +kernel
theorem dX2_loanOf_30 : decode cX2_loanOf 30 = .ok (.ireturn, 1) := by decide +kernel
theorem dX2_daysOut_0 : decode cX2_daysOut 0 = .ok (.aload_n 0, 1) := by decide +kernel
theorem dX2_daysOut_1 : decode cX2_daysOut 1 = .ok (.bipush 15, 2) := by decide +kernel
theorem dX2_daysOut_3 : decode cX2_daysOut 3 = .ok (.invokevirtual 43, 3) := by decide +kernel
theorem dX2_daysOut_6 : decode cX2_daysOut 6 = .ok (.ireturn, 1) := by decide +kernel
theorem dX2_daysIn_0 : decode cX2_daysIn 0 = .ok (.aload_n 1, 1) := by decide +kernel
theorem dX2_daysIn_1 : decode cX2_daysIn 1 = .ok (.invokevirtual 47, 3) := by decide +kernel
theorem dX2_daysIn_4 : decode cX2_daysIn 4 = .ok (.aload_n 0, 1) := by decide +kernel
theorem dX2_daysIn_5 : decode cX2_daysIn 5 = .ok (.invokevirtual 53, 3) := by decide +kernel
theorem dX2_daysIn_8 : decode cX2_daysIn 8 = .ok (.iconst (-1), 1) := by decide +kernel
theorem dX2_daysIn_9 : decode cX2_daysIn 9 = .ok (.ixor, 1) := by decide +kernel
theorem dX2_daysIn_10 : decode cX2_daysIn 10 = .ok (.iand, 1) := by decide +kernel
theorem dX2_daysIn_11 : decode cX2_daysIn 11 = .ok (.aload_n 0, 1) := by decide +kernel
theorem dX2_daysIn_12 : decode cX2_daysIn 12 = .ok (.getfield 21, 3) := by decide +kernel
theorem dX2_daysIn_15 : decode cX2_daysIn 15 = .ok (.iconst (-1), 1) := by decide +kernel
theorem dX2_daysIn_16 : decode cX2_daysIn 16 = .ok (.ixor, 1) := by decide +kernel
theorem dX2_daysIn_17 : decode cX2_daysIn 17 = .ok (.iand, 1) := by decide +kernel
theorem dX2_daysIn_18 : decode cX2_daysIn 18 = .ok (.ireturn, 1) := by decide +kernel
theorem dX2_owed_0 : decode cX2_owed 0 = .ok (.aload_n 0, 1) := by decide +kernel
theorem dX2_owed_1 : decode cX2_owed 1 = .ok (.bipush 15, 2) := by decide +kernel
theorem dX2_owed_3 : decode cX2_owed 3 = .ok (.invokevirtual 56, 3) := by decide +kernel
theorem dX2_owed_6 : decode cX2_owed 6 = .ok (.ireturn, 1) := by decide +kernel
theorem dX2_daysOfSet_0 : decode cX2_daysOfSet 0 = .ok (.iconst 0, 1) := by decide +kernel
theorem dX2_daysOfSet_1 : decode cX2_daysOfSet 1 = .ok (.istore_n 2, 1) := by decide +kernel
theorem dX2_daysOfSet_2 : decode cX2_daysOfSet 2 = .ok (.iconst 0, 1) := by decide +kernel
theorem dX2_daysOfSet_3 : decode cX2_daysOfSet 3 = .ok (.istore_n 3, 1) := by decide +kernel
theorem dX2_daysOfSet_4 : decode cX2_daysOfSet 4 = .ok (.iload_n 3, 1) := by decide +kernel
theorem dX2_daysOfSet_5 : decode cX2_daysOfSet 5 = .ok (.iconst 4, 1) := by decide +kernel
theorem dX2_daysOfSet_6 : decode cX2_daysOfSet 6 = .ok (.if_icmp .ge 26, 3) := by decide +kernel
theorem dX2_daysOfSet_9 : decode cX2_daysOfSet 9 = .ok (.iload_n 1, 1) := by decide +kernel
theorem dX2_daysOfSet_10 : decode cX2_daysOfSet 10 = .ok (.iload_n 3, 1) := by decide +kernel
theorem dX2_daysOfSet_11 : decode cX2_daysOfSet 11 = .ok (.invokestatic 39, 3) := by decide +kernel
theorem dX2_daysOfSet_14 : decode cX2_daysOfSet 14 = .ok (.ifCond .eq 12, 3) := by decide +kernel
theorem dX2_daysOfSet_17 : decode cX2_daysOfSet 17 = .ok (.iload_n 2, 1) := by decide +kernel
theorem dX2_daysOfSet_18 : decode cX2_daysOfSet 18 = .ok (.aload_n 0, 1) := by decide +kernel
theorem dX2_daysOfSet_19 : decode cX2_daysOfSet 19 = .ok (.getfield 9, 3) := by decide +kernel
theorem dX2_daysOfSet_22 : decode cX2_daysOfSet 22 = .ok (.iload_n 3, 1) := by decide +kernel
theorem dX2_daysOfSet_23 : decode cX2_daysOfSet 23 = .ok (.iaload, 1) := by decide +kernel
theorem dX2_daysOfSet_24 : decode cX2_daysOfSet 24 = .ok (.ior, 1) := by decide +kernel
theorem dX2_daysOfSet_25 : decode cX2_daysOfSet 25 = .ok (.istore_n 2, 1) := by decide +kernel
theorem dX2_daysOfSet_26 : decode cX2_daysOfSet 26 = .ok (.iinc 3 1, 3) := by decide +kernel
theorem dX2_daysOfSet_29 : decode cX2_daysOfSet 29 = .ok (.goto (-25), 3) := by decide +kernel
theorem dX2_daysOfSet_32 : decode cX2_daysOfSet 32 = .ok (.iload_n 2, 1) := by decide +kernel
theorem dX2_daysOfSet_33 : decode cX2_daysOfSet 33 = .ok (.ireturn, 1) := by decide +kernel
theorem dX2_costOfSet_0 : decode cX2_costOfSet 0 = .ok (.iconst 0, 1) := by decide +kernel
theorem dX2_costOfSet_1 : decode cX2_costOfSet 1 = .ok (.istore_n 2, 1) := by decide +kernel
theorem dX2_costOfSet_2 : decode cX2_costOfSet 2 = .ok (.iconst 0, 1) := by decide +kernel
theorem dX2_costOfSet_3 : decode cX2_costOfSet 3 = .ok (.istore_n 3, 1) := by decide +kernel
theorem dX2_costOfSet_4 : decode cX2_costOfSet 4 = .ok (.iload_n 3, 1) := by decide +kernel
theorem dX2_costOfSet_5 : decode cX2_costOfSet 5 = .ok (.iconst 4, 1) := by decide +kernel
theorem dX2_costOfSet_6 : decode cX2_costOfSet 6 = .ok (.if_icmp .ge 26, 3) := by decide +kernel
theorem dX2_costOfSet_9 : decode cX2_costOfSet 9 = .ok (.iload_n 1, 1) := by decide +kernel
theorem dX2_costOfSet_10 : decode cX2_costOfSet 10 = .ok (.iload_n 3, 1) := by decide +kernel
theorem dX2_costOfSet_11 : decode cX2_costOfSet 11 = .ok (.invokestatic 39, 3) := by decide +kernel
theorem dX2_costOfSet_14 : decode cX2_costOfSet 14 = .ok (.ifCond .eq 12, 3) := by decide +kernel
theorem dX2_costOfSet_17 : decode cX2_costOfSet 17 = .ok (.iload_n 2, 1) := by decide +kernel
theorem dX2_costOfSet_18 : decode cX2_costOfSet 18 = .ok (.aload_n 0, 1) := by decide +kernel
theorem dX2_costOfSet_19 : decode cX2_costOfSet 19 = .ok (.getfield 15, 3) := by decide +kernel
theorem dX2_costOfSet_22 : decode cX2_costOfSet 22 = .ok (.iload_n 3, 1) := by decide +kernel
theorem dX2_costOfSet_23 : decode cX2_costOfSet 23 = .ok (.iaload, 1) := by decide +kernel
theorem dX2_costOfSet_24 : decode cX2_costOfSet 24 = .ok (.iadd, 1) := by decide +kernel
theorem dX2_costOfSet_25 : decode cX2_costOfSet 25 = .ok (.istore_n 2, 1) := by decide +kernel
theorem dX2_costOfSet_26 : decode cX2_costOfSet 26 = .ok (.iinc 3 1, 3) := by decide +kernel
theorem dX2_costOfSet_29 : decode cX2_costOfSet 29 = .ok (.goto (-25), 3) := by decide +kernel
theorem dX2_costOfSet_32 : decode cX2_costOfSet 32 = .ok (.iload_n 2, 1) := by decide +kernel
theorem dX2_costOfSet_33 : decode cX2_costOfSet 33 = .ok (.ireturn, 1) := by decide +kernel
theorem dX2_isSetOfLoans_0 : decode cX2_isSetOfLoans 0 = .ok (.iconst 0, 1) := by decide +kernel
theorem dX2_isSetOfLoans_1 : decode cX2_isSetOfLoans 1 = .ok (.istore_n 2, 1) := by decide +kernel
theorem dX2_isSetOfLoans_2 : decode cX2_isSetOfLoans 2 = .ok (.iload_n 2, 1) := by decide +kernel
theorem dX2_isSetOfLoans_3 : decode cX2_isSetOfLoans 3 = .ok (.iconst 4, 1) := by decide +kernel
theorem dX2_isSetOfLoans_4 : decode cX2_isSetOfLoans 4 = .ok (.if_icmp .ge 27, 3) := by decide +kernel
theorem dX2_isSetOfLoans_7 : decode cX2_isSetOfLoans 7 = .ok (.iload_n 1, 1) := by decide +kernel
theorem dX2_isSetOfLoans_8 : decode cX2_isSetOfLoans 8 = .ok (.iload_n 2, 1) := by decide +kernel
theorem dX2_isSetOfLoans_9 : decode cX2_isSetOfLoans 9 = .ok (.invokestatic 39, 3) := by decide +kernel
theorem dX2_isSetOfLoans_12 : decode cX2_isSetOfLoans 12 = .ok (.ifCond .eq 13, 3) := by decide +kernel
theorem dX2_isSetOfLoans_15 : decode cX2_isSetOfLoans 15 = .ok (.aload_n 0, 1) := by decide +kernel
theorem dX2_isSetOfLoans_16 : decode cX2_isSetOfLoans 16 = .ok (.iload_n 2, 1) := by decide +kernel
theorem dX2_isSetOfLoans_17 : decode cX2_isSetOfLoans 17 = .ok (.invokevirtual 35, 3) := by decide +kernel
theorem dX2_isSetOfLoans_20 : decode cX2_isSetOfLoans 20 = .ok (.ifCond .eq 5, 3) := by decide +kernel
theorem dX2_isSetOfLoans_23 : decode cX2_isSetOfLoans 23 = .ok (.iconst 0, 1) := by decide +kernel
theorem dX2_isSetOfLoans_24 : decode cX2_isSetOfLoans 24 = .ok (.ireturn, 1) := by decide +kernel
theorem dX2_isSetOfLoans_25 : decode cX2_isSetOfLoans 25 = .ok (.iinc 2 1, 3) := by decide +kernel
theorem dX2_isSetOfLoans_28 : decode cX2_isSetOfLoans 28 = .ok (.goto (-26), 3) := by decide +kernel
theorem dX2_isSetOfLoans_31 : decode cX2_isSetOfLoans 31 = .ok (.iconst 1, 1) := by decide +kernel
theorem dX2_isSetOfLoans_32 : decode cX2_isSetOfLoans 32 = .ok (.ireturn, 1) := by decide +kernel
theorem dX2_pawn_0 : decode cX2_pawn 0 = .ok (.aload_n 0, 1) := by decide +kernel
theorem dX2_pawn_1 : decode cX2_pawn 1 = .ok (.getfield 9, 3) := by decide +kernel
theorem dX2_pawn_4 : decode cX2_pawn 4 = .ok (.iload_n 1, 1) := by decide +kernel
theorem dX2_pawn_5 : decode cX2_pawn 5 = .ok (.iload_n 2, 1) := by decide +kernel
theorem dX2_pawn_6 : decode cX2_pawn 6 = .ok (.iastore, 1) := by decide +kernel
theorem dX2_pawn_7 : decode cX2_pawn 7 = .ok (.aload_n 0, 1) := by decide +kernel
theorem dX2_pawn_8 : decode cX2_pawn 8 = .ok (.getfield 15, 3) := by decide +kernel
theorem dX2_pawn_11 : decode cX2_pawn 11 = .ok (.iload_n 1, 1) := by decide +kernel
theorem dX2_pawn_12 : decode cX2_pawn 12 = .ok (.iload_n 3, 1) := by decide +kernel
theorem dX2_pawn_13 : decode cX2_pawn 13 = .ok (.iastore, 1) := by decide +kernel
theorem dX2_pawn_14 : decode cX2_pawn 14 = .ok (.aload_n 0, 1) := by decide +kernel
theorem dX2_pawn_15 : decode cX2_pawn 15 = .ok (.getfield 18, 3) := by decide +kernel
theorem dX2_pawn_18 : decode cX2_pawn 18 = .ok (.iload_n 1, 1) := by decide +kernel
theorem dX2_pawn_19 : decode cX2_pawn 19 = .ok (.iconst 0, 1) := by decide +kernel
theorem dX2_pawn_20 : decode cX2_pawn 20 = .ok (.iastore, 1) := by decide +kernel
theorem dX2_pawn_21 : decode cX2_pawn 21 = .ok (.aload_n 0, 1) := by decide +kernel
theorem dX2_pawn_22 : decode cX2_pawn 22 = .ok (.dup, 1) := by decide +kernel
theorem dX2_pawn_23 : decode cX2_pawn 23 = .ok (.getfield 25, 3) := by decide +kernel
theorem dX2_pawn_26 : decode cX2_pawn 26 = .ok (.iload_n 3, 1) := by decide +kernel
theorem dX2_pawn_27 : decode cX2_pawn 27 = .ok (.iadd, 1) := by decide +kernel
theorem dX2_pawn_28 : decode cX2_pawn 28 = .ok (.putfield 25, 3) := by decide +kernel
theorem dX2_pawn_31 : decode cX2_pawn 31 = .ok (.return_, 1) := by decide +kernel
theorem dX2_redeem_0 : decode cX2_redeem 0 = .ok (.aload_n 0, 1) := by decide +kernel
theorem dX2_redeem_1 : decode cX2_redeem 1 = .ok (.dup, 1) := by decide +kernel
theorem dX2_redeem_2 : decode cX2_redeem 2 = .ok (.getfield 25, 3) := by decide +kernel
theorem dX2_redeem_5 : decode cX2_redeem 5 = .ok (.aload_n 0, 1) := by decide +kernel
theorem dX2_redeem_6 : decode cX2_redeem 6 = .ok (.getfield 15, 3) := by decide +kernel
theorem dX2_redeem_9 : decode cX2_redeem 9 = .ok (.iload_n 1, 1) := by decide +kernel
theorem dX2_redeem_10 : decode cX2_redeem 10 = .ok (.iaload, 1) := by decide +kernel
theorem dX2_redeem_11 : decode cX2_redeem 11 = .ok (.isub, 1) := by decide +kernel
theorem dX2_redeem_12 : decode cX2_redeem 12 = .ok (.putfield 25, 3) := by decide +kernel
theorem dX2_redeem_15 : decode cX2_redeem 15 = .ok (.aload_n 0, 1) := by decide +kernel
theorem dX2_redeem_16 : decode cX2_redeem 16 = .ok (.iload_n 1, 1) := by decide +kernel
theorem dX2_redeem_17 : decode cX2_redeem 17 = .ok (.invokevirtual 31, 3) := by decide +kernel
theorem dX2_redeem_20 : decode cX2_redeem 20 = .ok (.return_, 1) := by decide +kernel
theorem dX2_passYear_0 : decode cX2_passYear 0 = .ok (.aload_n 1, 1) := by decide +kernel
theorem dX2_passYear_1 : decode cX2_passYear 1 = .ok (.aload_n 0, 1) := by decide +kernel
theorem dX2_passYear_2 : decode cX2_passYear 2 = .ok (.aload_n 1, 1) := by decide +kernel
theorem dX2_passYear_3 : decode cX2_passYear 3 = .ok (.invokevirtual 59, 3) := by decide +kernel
theorem dX2_passYear_6 : decode cX2_passYear 6 = .ok (.invokevirtual 63, 3) := by decide +kernel
theorem dX2_passYear_9 : decode cX2_passYear 9 = .ok (.istore_n 2, 1) := by decide +kernel
theorem dX2_passYear_10 : decode cX2_passYear 10 = .ok (.aload_n 0, 1) := by decide +kernel
theorem dX2_passYear_11 : decode cX2_passYear 11 = .ok (.dup, 1) := by decide +kernel
theorem dX2_passYear_12 : decode cX2_passYear 12 = .ok (.getfield 25, 3) := by decide +kernel
theorem dX2_passYear_15 : decode cX2_passYear 15 = .ok (.iload_n 2, 1) := by decide +kernel
theorem dX2_passYear_16 : decode cX2_passYear 16 = .ok (.iadd, 1) := by decide +kernel
theorem dX2_passYear_17 : decode cX2_passYear 17 = .ok (.putfield 25, 3) := by decide +kernel
theorem dX2_passYear_20 : decode cX2_passYear 20 = .ok (.aload_n 0, 1) := by decide +kernel
theorem dX2_passYear_21 : decode cX2_passYear 21 = .ok (.dup, 1) := by decide +kernel
theorem dX2_passYear_22 : decode cX2_passYear 22 = .ok (.getfield 28, 3) := by decide +kernel
theorem dX2_passYear_25 : decode cX2_passYear 25 = .ok (.iconst 1, 1) := by decide +kernel
theorem dX2_passYear_26 : decode cX2_passYear 26 = .ok (.iadd, 1) := by decide +kernel
theorem dX2_passYear_27 : decode cX2_passYear 27 = .ok (.putfield 28, 3) := by decide +kernel
theorem dX2_passYear_30 : decode cX2_passYear 30 = .ok (.iconst 0, 1) := by decide +kernel
theorem dX2_passYear_31 : decode cX2_passYear 31 = .ok (.istore_n 3, 1) := by decide +kernel
theorem dX2_passYear_32 : decode cX2_passYear 32 = .ok (.iload_n 3, 1) := by decide +kernel
theorem dX2_passYear_33 : decode cX2_passYear 33 = .ok (.iconst 4, 1) := by decide +kernel
theorem dX2_passYear_34 : decode cX2_passYear 34 = .ok (.if_icmp .ge 29, 3) := by decide +kernel
theorem dX2_passYear_37 : decode cX2_passYear 37 = .ok (.aload_n 0, 1) := by decide +kernel
theorem dX2_passYear_38 : decode cX2_passYear 38 = .ok (.iload_n 3, 1) := by decide +kernel
theorem dX2_passYear_39 : decode cX2_passYear 39 = .ok (.invokevirtual 35, 3) := by decide +kernel
theorem dX2_passYear_42 : decode cX2_passYear 42 = .ok (.ifCond .ne 15, 3) := by decide +kernel
theorem dX2_passYear_45 : decode cX2_passYear 45 = .ok (.aload_n 0, 1) := by decide +kernel
theorem dX2_passYear_46 : decode cX2_passYear 46 = .ok (.aload_n 1, 1) := by decide +kernel
theorem dX2_passYear_47 : decode cX2_passYear 47 = .ok (.iload_n 3, 1) := by decide +kernel
theorem dX2_passYear_48 : decode cX2_passYear 48 = .ok (.invokevirtual 66, 3) := by decide +kernel
theorem dX2_passYear_51 : decode cX2_passYear 51 = .ok (.aload_n 0, 1) := by decide +kernel
theorem dX2_passYear_52 : decode cX2_passYear 52 = .ok (.aload_n 1, 1) := by decide +kernel
theorem dX2_passYear_53 : decode cX2_passYear 53 = .ok (.iload_n 3, 1) := by decide +kernel
theorem dX2_passYear_54 : decode cX2_passYear 54 = .ok (.invokevirtual 70, 3) := by decide +kernel
theorem dX2_passYear_57 : decode cX2_passYear 57 = .ok (.iinc 3 1, 3) := by decide +kernel
theorem dX2_passYear_60 : decode cX2_passYear 60 = .ok (.goto (-28), 3) := by decide +kernel
theorem dX2_passYear_63 : decode cX2_passYear 63 = .ok (.iload_n 2, 1) := by decide +kernel
theorem dX2_passYear_64 : decode cX2_passYear 64 = .ok (.ireturn, 1) := by decide +kernel
theorem dX2_takeInterest_0 : decode cX2_takeInterest 0 = .ok (.aload_n 0, 1) := by decide +kernel
theorem dX2_takeInterest_1 : decode cX2_takeInterest 1 = .ok (.aload_n 1, 1) := by decide +kernel
theorem dX2_takeInterest_2 : decode cX2_takeInterest 2 = .ok (.invokevirtual 59, 3) := by decide +kernel
theorem dX2_takeInterest_5 : decode cX2_takeInterest 5 = .ok (.istore_n 3, 1) := by decide +kernel
theorem dX2_takeInterest_6 : decode cX2_takeInterest 6 = .ok (.iconst 0, 1) := by decide +kernel
theorem dX2_takeInterest_7 : decode cX2_takeInterest 7 = .ok (.istore 4, 2) := by decide +kernel
theorem dX2_takeInterest_9 : decode cX2_takeInterest 9 = .ok (.aload_n 0, 1) := by decide +kernel
theorem dX2_takeInterest_10 : decode cX2_takeInterest 10 = .ok (.getfield 9, 3) := by decide +kernel
theorem dX2_takeInterest_13 : decode cX2_takeInterest 13 = .ok (.iload_n 2, 1) := by decide +kernel
theorem dX2_takeInterest_14 : decode cX2_takeInterest 14 = .ok (.iaload, 1) := by decide +kernel
theorem dX2_takeInterest_15 : decode cX2_takeInterest 15 = .ok (.invokestatic 73, 3) := by decide +kernel
theorem dX2_takeInterest_18 : decode cX2_takeInterest 18 = .ok (.istore 5, 2) := by decide +kernel
theorem dX2_takeInterest_20 : decode cX2_takeInterest 20 = .ok (.iload 5, 2) := by decide +kernel
theorem dX2_takeInterest_22 : decode cX2_takeInterest 22 = .ok (.aload_n 1, 1) := by decide +kernel
theorem dX2_takeInterest_23 : decode cX2_takeInterest 23 = .ok (.getfield 76, 3) := by decide +kernel
theorem dX2_takeInterest_26 : decode cX2_takeInterest 26 = .ok (.if_icmp .ge 43, 3) := by decide +kernel
theorem dX2_takeInterest_29 : decode cX2_takeInterest 29 = .ok (.iload 4, 2) := by decide +kernel
theorem dX2_takeInterest_31 : decode cX2_takeInterest 31 = .ok (.aload_n 1, 1) := by decide +kernel
theorem dX2_takeInterest_32 : decode cX2_takeInterest 32 = .ok (.getfield 79, 3) := by decide +kernel
theorem dX2_takeInterest_35 : decode cX2_takeInterest 35 = .ok (.if_icmp .ge 34, 3) := by decide +kernel
theorem dX2_takeInterest_38 : decode cX2_takeInterest 38 = .ok (.iload_n 3, 1) := by decide +kernel
theorem dX2_takeInterest_39 : decode cX2_takeInterest 39 = .ok (.iload 5, 2) := by decide +kernel
theorem dX2_takeInterest_41 : decode cX2_takeInterest 41 = .ok (.invokestatic 39, 3) := by decide +kernel
theorem dX2_takeInterest_44 : decode cX2_takeInterest 44 = .ok (.ifCond .eq 19, 3) := by decide +kernel
theorem dX2_takeInterest_47 : decode cX2_takeInterest 47 = .ok (.aload_n 0, 1) := by decide +kernel
theorem dX2_takeInterest_48 : decode cX2_takeInterest 48 = .ok (.getfield 9, 3) := by decide +kernel
theorem dX2_takeInterest_51 : decode cX2_takeInterest 51 = .ok (.iload_n 2, 1) := by decide +kernel
theorem dX2_takeInterest_52 : decode cX2_takeInterest 52 = .ok (.dup2, 1) := by decide +kernel
theorem dX2_takeInterest_53 : decode cX2_takeInterest 53 = .ok (.iaload, 1) := by decide +kernel
theorem dX2_takeInterest_54 : decode cX2_takeInterest 54 = .ok (.iconst 1, 1) := by decide +kernel
theorem dX2_takeInterest_55 : decode cX2_takeInterest 55 = .ok (.iload 5, 2) := by decide +kernel
theorem dX2_takeInterest_57 : decode cX2_takeInterest 57 = .ok (.ishl, 1) := by decide +kernel
theorem dX2_takeInterest_58 : decode cX2_takeInterest 58 = .ok (.ior, 1) := by decide +kernel
theorem dX2_takeInterest_59 : decode cX2_takeInterest 59 = .ok (.iastore, 1) := by decide +kernel
theorem dX2_takeInterest_60 : decode cX2_takeInterest 60 = .ok (.iinc 4 1, 3) := by decide +kernel
theorem dX2_takeInterest_63 : decode cX2_takeInterest 63 = .ok (.iinc 5 1, 3) := by decide +kernel
theorem dX2_takeInterest_66 : decode cX2_takeInterest 66 = .ok (.goto (-46), 3) := by decide +kernel
theorem dX2_takeInterest_69 : decode cX2_takeInterest 69 = .ok (.return_, 1) := by decide +kernel
theorem dX2_grow_0 : decode cX2_grow 0 = .ok (.aload_n 0, 1) := by decide +kernel
theorem dX2_grow_1 : decode cX2_grow 1 = .ok (.getfield 18, 3) := by decide +kernel
theorem dX2_grow_4 : decode cX2_grow 4 = .ok (.iload_n 2, 1) := by decide +kernel
theorem dX2_grow_5 : decode cX2_grow 5 = .ok (.dup2, 1) := by decide +kernel
theorem dX2_grow_6 : decode cX2_grow 6 = .ok (.iaload, 1) := by decide +kernel
theorem dX2_grow_7 : decode cX2_grow 7 = .ok (.iconst 1, 1) := by decide +kernel
theorem dX2_grow_8 : decode cX2_grow 8 = .ok (.iadd, 1) := by decide +kernel
theorem dX2_grow_9 : decode cX2_grow 9 = .ok (.iastore, 1) := by decide +kernel
theorem dX2_grow_10 : decode cX2_grow 10 = .ok (.aload_n 0, 1) := by decide +kernel
theorem dX2_grow_11 : decode cX2_grow 11 = .ok (.getfield 18, 3) := by decide +kernel
theorem dX2_grow_14 : decode cX2_grow 14 = .ok (.iload_n 2, 1) := by decide +kernel
theorem dX2_grow_15 : decode cX2_grow 15 = .ok (.iaload, 1) := by decide +kernel
theorem dX2_grow_16 : decode cX2_grow 16 = .ok (.aload_n 1, 1) := by decide +kernel
theorem dX2_grow_17 : decode cX2_grow 17 = .ok (.getfield 82, 3) := by decide +kernel
theorem dX2_grow_20 : decode cX2_grow 20 = .ok (.if_icmp .lt 23, 3) := by decide +kernel
theorem dX2_grow_23 : decode cX2_grow 23 = .ok (.aload_n 0, 1) := by decide +kernel
theorem dX2_grow_24 : decode cX2_grow 24 = .ok (.dup, 1) := by decide +kernel
theorem dX2_grow_25 : decode cX2_grow 25 = .ok (.getfield 21, 3) := by decide +kernel
theorem dX2_grow_28 : decode cX2_grow 28 = .ok (.aload_n 0, 1) := by decide +kernel
theorem dX2_grow_29 : decode cX2_grow 29 = .ok (.getfield 9, 3) := by decide +kernel
theorem dX2_grow_32 : decode cX2_grow 32 = .ok (.iload_n 2, 1) := by decide +kernel
theorem dX2_grow_33 : decode cX2_grow 33 = .ok (.iaload, 1) := by decide +kernel
theorem dX2_grow_34 : decode cX2_grow 34 = .ok (.ior, 1) := by decide +kernel
theorem dX2_grow_35 : decode cX2_grow 35 = .ok (.putfield 21, 3) := by decide +kernel
theorem dX2_grow_38 : decode cX2_grow 38 = .ok (.aload_n 0, 1) := by decide +kernel
theorem dX2_grow_39 : decode cX2_grow 39 = .ok (.iload_n 2, 1) := by decide +kernel
theorem dX2_grow_40 : decode cX2_grow 40 = .ok (.invokevirtual 31, 3) := by decide +kernel
theorem dX2_grow_43 : decode cX2_grow 43 = .ok (.return_, 1) := by decide +kernel
theorem dX2_setFree_0 : decode cX2_setFree 0 = .ok (.aload_n 0, 1) := by decide +kernel
theorem dX2_setFree_1 : decode cX2_setFree 1 = .ok (.getfield 9, 3) := by decide +kernel
theorem dX2_setFree_4 : decode cX2_setFree 4 = .ok (.iload_n 1, 1) := by decide +kernel
theorem dX2_setFree_5 : decode cX2_setFree 5 = .ok (.iconst 0, 1) := by decide +kernel
theorem dX2_setFree_6 : decode cX2_setFree 6 = .ok (.iastore, 1) := by decide +kernel
theorem dX2_setFree_7 : decode cX2_setFree 7 = .ok (.aload_n 0, 1) := by decide +kernel
theorem dX2_setFree_8 : decode cX2_setFree 8 = .ok (.getfield 15, 3) := by decide +kernel
theorem dX2_setFree_11 : decode cX2_setFree 11 = .ok (.iload_n 1, 1) := by decide +kernel
theorem dX2_setFree_12 : decode cX2_setFree 12 = .ok (.iconst 0, 1) := by decide +kernel
theorem dX2_setFree_13 : decode cX2_setFree 13 = .ok (.iastore, 1) := by decide +kernel
theorem dX2_setFree_14 : decode cX2_setFree 14 = .ok (.aload_n 0, 1) := by decide +kernel
theorem dX2_setFree_15 : decode cX2_setFree 15 = .ok (.getfield 18, 3) := by decide +kernel
theorem dX2_setFree_18 : decode cX2_setFree 18 = .ok (.iload_n 1, 1) := by decide +kernel
theorem dX2_setFree_19 : decode cX2_setFree 19 = .ok (.iconst 0, 1) := by decide +kernel
theorem dX2_setFree_20 : decode cX2_setFree 20 = .ok (.iastore, 1) := by decide +kernel
theorem dX2_setFree_21 : decode cX2_setFree 21 = .ok (.return_, 1) := by decide +kernel
theorem dX2_behindLast_0 : decode cX2_behindLast 0 = .ok (.iconst 0, 1) := by decide +kernel
theorem dX2_behindLast_1 : decode cX2_behindLast 1 = .ok (.istore_n 1, 1) := by decide +kernel
theorem dX2_behindLast_2 : decode cX2_behindLast 2 = .ok (.iconst 0, 1) := by decide +kernel
theorem dX2_behindLast_3 : decode cX2_behindLast 3 = .ok (.istore_n 2, 1) := by decide +kernel
theorem dX2_behindLast_4 : decode cX2_behindLast 4 = .ok (.iload_n 2, 1) := by decide +kernel
theorem dX2_behindLast_5 : decode cX2_behindLast 5 = .ok (.bipush 30, 2) := by decide +kernel
theorem dX2_behindLast_7 : decode cX2_behindLast 7 = .ok (.if_icmp .ge 21, 3) := by decide +kernel
theorem dX2_behindLast_10 : decode cX2_behindLast 10 = .ok (.iload_n 0, 1) := by decide +kernel
theorem dX2_behindLast_11 : decode cX2_behindLast 11 = .ok (.iload_n 2, 1) := by decide +kernel
theorem dX2_behindLast_12 : decode cX2_behindLast 12 = .ok (.invokestatic 39, 3) := by decide +kernel
theorem dX2_behindLast_15 : decode cX2_behindLast 15 = .ok (.ifCond .eq 7, 3) := by decide +kernel
theorem dX2_behindLast_18 : decode cX2_behindLast 18 = .ok (.iload_n 2, 1) := by decide +kernel
theorem dX2_behindLast_19 : decode cX2_behindLast 19 = .ok (.iconst 1, 1) := by decide +kernel
theorem dX2_behindLast_20 : decode cX2_behindLast 20 = .ok (.iadd, 1) := by decide +kernel
theorem dX2_behindLast_21 : decode cX2_behindLast 21 = .ok (.istore_n 1, 1) := by decide +kernel
theorem dX2_behindLast_22 : decode cX2_behindLast 22 = .ok (.iinc 2 1, 3) := by decide +kernel
theorem dX2_behindLast_25 : decode cX2_behindLast 25 = .ok (.goto (-21), 3) := by decide +kernel
theorem dX2_behindLast_28 : decode cX2_behindLast 28 = .ok (.iload_n 1, 1) := by decide +kernel
theorem dX2_behindLast_29 : decode cX2_behindLast 29 = .ok (.ireturn, 1) := by decide +kernel
theorem dX3_init_0 : decode cX3_init 0 = .ok (.aload_n 0, 1) := by decide +kernel
theorem dX3_init_1 : decode cX3_init 1 = .ok (.invokespecial 3, 3) := by decide +kernel
theorem dX3_init_4 : decode cX3_init 4 = .ok (.aload_n 0, 1) := by decide +kernel
theorem dX3_init_5 : decode cX3_init 5 = .ok (.new 9, 3) := by decide +kernel
theorem dX3_init_8 : decode cX3_init 8 = .ok (.dup, 1) := by decide +kernel
theorem dX3_init_9 : decode cX3_init 9 = .ok (.invokespecial 11, 3) := by decide +kernel
theorem dX3_init_12 : decode cX3_init 12 = .ok (.putfield 12, 3) := by decide +kernel
theorem dX3_init_15 : decode cX3_init 15 = .ok (.aload_n 0, 1) := by decide +kernel
theorem dX3_init_16 : decode cX3_init 16 = .ok (.bipush 10, 2) := by decide +kernel
theorem dX3_init_18 : decode cX3_init 18 = .ok (.anewarray 9, 3) := by decide +kernel
theorem dX3_init_21 : decode cX3_init 21 = .ok (.putfield 18, 3) := by decide +kernel
theorem dX3_init_24 : decode cX3_init 24 = .ok (.aload_n 0, 1) := by decide +kernel
theorem dX3_init_25 : decode cX3_init 25 = .ok (.iconst 0, 1) := by decide +kernel
theorem dX3_init_26 : decode cX3_init 26 = .ok (.putfield 22, 3) := by decide +kernel
theorem dX3_init_29 : decode cX3_init 29 = .ok (.iconst 0, 1) := by decide +kernel
theorem dX3_init_30 : decode cX3_init 30 = .ok (.istore_n 1, 1) := by decide +kernel
theorem dX3_init_31 : decode cX3_init 31 = .ok (.iload_n 1, 1) := by decide +kernel
theorem dX3_init_32 : decode cX3_init 32 = .ok (.bipush 10, 2) := by decide +kernel
theorem dX3_init_34 : decode cX3_init 34 = .ok (.if_icmp .ge 22, 3) := by decide +kernel
theorem dX3_init_37 : decode cX3_init 37 = .ok (.aload_n 0, 1) := by decide +kernel
theorem dX3_init_38 : decode cX3_init 38 = .ok (.getfield 18, 3) := by decide +kernel
theorem dX3_init_41 : decode cX3_init 41 = .ok (.iload_n 1, 1) := by decide +kernel
theorem dX3_init_42 : decode cX3_init 42 = .ok (.new 9, 3) := by decide +kernel
theorem dX3_init_45 : decode cX3_init 45 = .ok (.dup, 1) := by decide +kernel
theorem dX3_init_46 : decode cX3_init 46 = .ok (.invokespecial 11, 3) := by decide +kernel
theorem dX3_init_49 : decode cX3_init 49 = .ok (.aastore, 1) := by decide +kernel
theorem dX3_init_50 : decode cX3_init 50 = .ok (.iinc 1 1, 3) := by decide +kernel
theorem dX3_init_53 : decode cX3_init 53 = .ok (.goto (-22), 3) := by decide +kernel
theorem dX3_init_56 : decode cX3_init 56 = .ok (.return_, 1) := by decide +kernel
theorem dX3_startAnew_0 : decode cX3_startAnew 0 = .ok (.aload_n 0, 1) := by decide +kernel
theorem dX3_startAnew_1 : decode cX3_startAnew 1 = .ok (.getfield 12, 3) := by decide +kernel
theorem dX3_startAnew_4 : decode cX3_startAnew 4 = .ok (.invokevirtual 26, 3) := by decide +kernel
theorem dX3_startAnew_7 : decode cX3_startAnew 7 = .ok (.aload_n 0, 1) := by decide +kernel
theorem dX3_startAnew_8 : decode cX3_startAnew 8 = .ok (.iconst 0, 1) := by decide +kernel
theorem dX3_startAnew_9 : decode cX3_startAnew 9 = .ok (.putfield 22, 3) := by decide +kernel
theorem dX3_startAnew_12 : decode cX3_startAnew 12 = .ok (.return_, 1) := by decide +kernel
theorem dX3_become_0 : decode cX3_become 0 = .ok (.aload_n 0, 1) := by decide +kernel
theorem dX3_become_1 : decode cX3_become 1 = .ok (.getfield 12, 3) := by decide +kernel
theorem dX3_become_4 : decode cX3_become 4 = .ok (.aload_n 1, 1) := by decide +kernel
theorem dX3_become_5 : decode cX3_become 5 = .ok (.getfield 12, 3) := by decide +kernel
theorem dX3_become_8 : decode cX3_become 8 = .ok (.invokevirtual 29, 3) := by decide +kernel
theorem dX3_become_11 : decode cX3_become 11 = .ok (.aload_n 0, 1) := by decide +kernel
theorem dX3_become_12 : decode cX3_become 12 = .ok (.aload_n 1, 1) := by decide +kernel
theorem dX3_become_13 : decode cX3_become 13 = .ok (.getfield 22, 3) := by decide +kernel
theorem dX3_become_16 : decode cX3_become 16 = .ok (.putfield 22, 3) := by decide +kernel
theorem dX3_become_19 : decode cX3_become 19 = .ok (.iconst 0, 1) := by decide +kernel
theorem dX3_become_20 : decode cX3_become 20 = .ok (.istore_n 2, 1) := by decide +kernel
theorem dX3_become_21 : decode cX3_become 21 = .ok (.iload_n 2, 1) := by decide +kernel
theorem dX3_become_22 : decode cX3_become 22 = .ok (.bipush 10, 2) := by decide +kernel
theorem dX3_become_24 : decode cX3_become 24 = .ok (.if_icmp .ge 24, 3) := by decide +kernel
theorem dX3_become_27 : decode cX3_become 27 = .ok (.aload_n 0, 1) := by decide +kernel
theorem dX3_become_28 : decode cX3_become 28 = .ok (.getfield 18, 3) := by decide +kernel
theorem dX3_become_31 : decode cX3_become 31 = .ok (.iload_n 2, 1) := by decide +kernel
theorem dX3_become_32 : decode cX3_become 32 = .ok (.aaload, 1) := by decide +kernel
theorem dX3_become_33 : decode cX3_become 33 = .ok (.aload_n 1, 1) := by decide +kernel
theorem dX3_become_34 : decode cX3_become 34 = .ok (.getfield 18, 3) := by decide +kernel
theorem dX3_become_37 : decode cX3_become 37 = .ok (.iload_n 2, 1) := by decide +kernel
theorem dX3_become_38 : decode cX3_become 38 = .ok (.aaload, 1) := by decide +kernel
theorem dX3_become_39 : decode cX3_become 39 = .ok (.invokevirtual 29, 3) := by decide +kernel
theorem dX3_become_42 : decode cX3_become 42 = .ok (.iinc 2 1, 3) := by decide +kernel
theorem dX3_become_45 : decode cX3_become 45 = .ok (.goto (-24), 3) := by decide +kernel
theorem dX3_become_48 : decode cX3_become 48 = .ok (.return_, 1) := by decide +kernel
theorem dX3_remember_0 : decode cX3_remember 0 = .ok (.aload_n 0, 1) := by decide +kernel
theorem dX3_remember_1 : decode cX3_remember 1 = .ok (.getfield 22, 3) := by decide +kernel
theorem dX3_remember_4 : decode cX3_remember 4 = .ok (.bipush 10, 2) := by decide +kernel
theorem dX3_remember_6 : decode cX3_remember 6 = .ok (.if_icmp .lt 7, 3) := by decide +kernel
theorem dX3_remember_9 : decode cX3_remember 9 = .ok (.aload_n 0, 1) := by decide +kernel
theorem dX3_remember_10 : decode cX3_remember 10 = .ok (.invokevirtual 33, 3) := by decide +kernel
theorem dX3_remember_13 : decode cX3_remember 13 = .ok (.aload_n 0, 1) := by decide +kernel
theorem dX3_remember_14 : decode cX3_remember 14 = .ok (.getfield 18, 3) := by decide +kernel
theorem dX3_remember_17 : decode cX3_remember 17 = .ok (.aload_n 0, 1) := by decide +kernel
theorem dX3_remember_18 : decode cX3_remember 18 = .ok (.getfield 22, 3) := by decide +kernel
theorem dX3_remember_21 : decode cX3_remember 21 = .ok (.aaload, 1) := by decide +kernel
theorem dX3_remember_22 : decode cX3_remember 22 = .ok (.aload_n 0, 1) := by decide +kernel
theorem dX3_remember_23 : decode cX3_remember 23 = .ok (.getfield 12, 3) := by decide +kernel
theorem dX3_remember_26 : decode cX3_remember 26 = .ok (.invokevirtual 29, 3) := by decide +kernel
theorem dX3_remember_29 : decode cX3_remember 29 = .ok (.aload_n 0, 1) := by decide +kernel
theorem dX3_remember_30 : decode cX3_remember 30 = .ok (.dup, 1) := by decide +kernel
theorem dX3_remember_31 : decode cX3_remember 31 = .ok (.getfield 22, 3) := by decide +kernel
theorem dX3_remember_34 : decode cX3_remember 34 = .ok (.iconst 1, 1) := by decide +kernel
theorem dX3_remember_35 : decode cX3_remember 35 = .ok (.iadd, 1) := by decide +kernel
theorem dX3_remember_36 : decode cX3_remember 36 = .ok (.putfield 22, 3) := by decide +kernel
theorem dX3_remember_39 : decode cX3_remember 39 = .ok (.return_, 1) := by decide +kernel
theorem dX3_goBack_0 : decode cX3_goBack 0 = .ok (.aload_n 0, 1) := by decide +kernel
theorem dX3_goBack_1 : decode cX3_goBack 1 = .ok (.getfield 22, 3) := by decide +kernel
theorem dX3_goBack_4 : decode cX3_goBack 4 = .ok (.ifCond .gt 5, 3) := by decide +kernel
theorem dX3_goBack_7 : decode cX3_goBack 7 = .ok (.iconst 0, 1) := by decide +kernel
theorem dX3_goBack_8 : decode cX3_goBack 8 = .ok (.ireturn, 1) := by decide +kernel
theorem dX3_goBack_9 : decode cX3_goBack 9 = .ok (.aload_n 0, 1) := by decide +kernel
theorem dX3_goBack_10 : decode cX3_goBack 10 = .ok (.dup, 1) := by decide +kernel
theorem dX3_goBack_11 : decode cX3_goBack 11 = .ok (.getfield 22, 3) := by decide +kernel
theorem dX3_goBack_14 : decode cX3_goBack 14 = .ok (.iconst 1, 1) := by decide +kernel
theorem dX3_goBack_15 : decode cX3_goBack 15 = .ok (.isub, 1) := by decide +kernel
theorem dX3_goBack_16 : decode cX3_goBack 16 = .ok (.putfield 22, 3) := by decide +kernel
theorem dX3_goBack_19 : decode cX3_goBack 19 = .ok (.aload_n 0, 1) := by decide +kernel
theorem dX3_goBack_20 : decode cX3_goBack 20 = .ok (.getfield 12, 3) := by decide +kernel
theorem dX3_goBack_23 : decode cX3_goBack 23 = .ok (.aload_n 0, 1) := by decide +kernel
theorem dX3_goBack_24 : decode cX3_goBack 24 = .ok (.getfield 18, 3) := by decide +kernel
theorem dX3_goBack_27 : decode cX3_goBack 27 = .ok (.aload_n 0, 1) := by decide +kernel
theorem dX3_goBack_28 : decode cX3_goBack 28 = .ok (.getfield 22, 3) := by decide +kernel
theorem dX3_goBack_31 : decode cX3_goBack 31 = .ok (.aaload, 1) := by decide +kernel
theorem dX3_goBack_32 : decode cX3_goBack 32 = .ok (.invokevirtual 29, 3) := by decide +kernel
theorem dX3_goBack_35 : decode cX3_goBack 35 = .ok (.iconst 1, 1) := by decide +kernel
theorem dX3_goBack_36 : decode cX3_goBack 36 = .ok (.ireturn, 1) := by decide +kernel
theorem dX3_loseOldest_0 : decode cX3_loseOldest 0 = .ok (.aload_n 0, 1) := by decide +kernel
theorem dX3_loseOldest_1 : decode cX3_loseOldest 1 = .ok (.getfield 18, 3) := by decide +kernel
theorem dX3_loseOldest_4 : decode cX3_loseOldest 4 = .ok (.iconst 0, 1) := by decide +kernel
theorem dX3_loseOldest_5 : decode cX3_loseOldest 5 = .ok (.aaload, 1) := by decide +kernel
theorem dX3_loseOldest_6 : decode cX3_loseOldest 6 = .ok (.astore_n 1, 1) := by decide +kernel
theorem dX3_loseOldest_7 : decode cX3_loseOldest 7 = .ok (.iconst 1, 1) := by decide +kernel
theorem dX3_loseOldest_8 : decode cX3_loseOldest 8 = .ok (.istore_n 2, 1) := by decide +kernel
theorem dX3_loseOldest_9 : decode cX3_loseOldest 9 = .ok (.iload_n 2, 1) := by decide +kernel
theorem dX3_loseOldest_10 : decode cX3_loseOldest 10 = .ok (.bipush 10, 2) := by decide +kernel
theorem dX3_loseOldest_12 : decode cX3_loseOldest 12 = .ok (.if_icmp .ge 23, 3) := by decide +kernel
theorem dX3_loseOldest_15 : decode cX3_loseOldest 15 = .ok (.aload_n 0, 1) := by decide +kernel
theorem dX3_loseOldest_16 : decode cX3_loseOldest 16 = .ok (.getfield 18, 3) := by decide +kernel
theorem dX3_loseOldest_19 : decode cX3_loseOldest 19 = .ok (.iload_n 2, 1) := by decide +kernel
theorem dX3_loseOldest_20 : decode cX3_loseOldest 20 = .ok (.iconst 1, 1) := by decide +kernel
theorem dX3_loseOldest_21 : decode cX3_loseOldest 21 = .ok (.isub, 1) := by decide +kernel
theorem dX3_loseOldest_22 : decode cX3_loseOldest 22 = .ok (.aload_n 0, 1) := by decide +kernel
theorem dX3_loseOldest_23 : decode cX3_loseOldest 23 = .ok (.getfield 18, 3) := by decide +kernel
theorem dX3_loseOldest_26 : decode cX3_loseOldest 26 = .ok (.iload_n 2, 1) := by decide +kernel
theorem dX3_loseOldest_27 : decode cX3_loseOldest 27 = .ok (.aaload, 1) := by decide +kernel
theorem dX3_loseOldest_28 : decode cX3_loseOldest 28 = .ok (.aastore, 1) := by decide +kernel
theorem dX3_loseOldest_29 : decode cX3_loseOldest 29 = .ok (.iinc 2 1, 3) := by decide +kernel
theorem dX3_loseOldest_32 : decode cX3_loseOldest 32 = .ok (.goto (-23), 3) := by decide +kernel
theorem dX3_loseOldest_35 : decode cX3_loseOldest 35 = .ok (.aload_n 0, 1) := by decide +kernel
theorem dX3_loseOldest_36 : decode cX3_loseOldest 36 = .ok (.bipush 9, 2) := by decide +kernel
theorem dX3_loseOldest_38 : decode cX3_loseOldest 38 = .ok (.putfield 22, 3) := by decide +kernel
theorem dX3_loseOldest_41 : decode cX3_loseOldest 41 = .ok (.aload_n 0, 1) := by decide +kernel
theorem dX3_loseOldest_42 : decode cX3_loseOldest 42 = .ok (.getfield 18, 3) := by decide +kernel
theorem dX3_loseOldest_45 : decode cX3_loseOldest 45 = .ok (.aload_n 0, 1) := by decide +kernel
theorem dX3_loseOldest_46 : decode cX3_loseOldest 46 = .ok (.getfield 22, 3) := by decide +kernel
theorem dX3_loseOldest_49 : decode cX3_loseOldest 49 = .ok (.aload_n 1, 1) := by decide +kernel
theorem dX3_loseOldest_50 : decode cX3_loseOldest 50 = .ok (.aastore, 1) := by decide +kernel
theorem dX3_loseOldest_51 : decode cX3_loseOldest 51 = .ok (.return_, 1) := by decide +kernel
theorem dX4_init_0 : decode cX4_init 0 = .ok (.aload_n 0, 1) := by decide +kernel
theorem dX4_init_1 : decode cX4_init 1 = .ok (.invokespecial 3, 3) := by decide +kernel
theorem dX4_init_4 : decode cX4_init 4 = .ok (.aload_n 0, 1) := by decide +kernel
theorem dX4_init_5 : decode cX4_init 5 = .ok (.sipush 150, 3) := by decide +kernel
theorem dX4_init_8 : decode cX4_init 8 = .ok (.newarray .int, 2) := by decide +kernel
theorem dX4_init_10 : decode cX4_init 10 = .ok (.putfield 9, 3) := by decide +kernel
theorem dX4_init_13 : decode cX4_init 13 = .ok (.aload_n 0, 1) := by decide +kernel
theorem dX4_init_14 : decode cX4_init 14 = .ok (.iconst 0, 1) := by decide +kernel
theorem dX4_init_15 : decode cX4_init 15 = .ok (.putfield 15, 3) := by decide +kernel
theorem dX4_init_18 : decode cX4_init 18 = .ok (.aload_n 0, 1) := by decide +kernel
theorem dX4_init_19 : decode cX4_init 19 = .ok (.iconst 0, 1) := by decide +kernel
theorem dX4_init_20 : decode cX4_init 20 = .ok (.putfield 19, 3) := by decide +kernel
theorem dX4_init_23 : decode cX4_init 23 = .ok (.aload_n 0, 1) := by decide +kernel
theorem dX4_init_24 : decode cX4_init 24 = .ok (.iconst 0, 1) := by decide +kernel
theorem dX4_init_25 : decode cX4_init 25 = .ok (.putfield 22, 3) := by decide +kernel
theorem dX4_init_28 : decode cX4_init 28 = .ok (.aload_n 0, 1) := by decide +kernel
theorem dX4_init_29 : decode cX4_init 29 = .ok (.iconst 0, 1) := by decide +kernel
theorem dX4_init_30 : decode cX4_init 30 = .ok (.putfield 25, 3) := by decide +kernel
theorem dX4_init_33 : decode cX4_init 33 = .ok (.aload_n 0, 1) := by decide +kernel
theorem dX4_init_34 : decode cX4_init 34 = .ok (.iconst 0, 1) := by decide +kernel
theorem dX4_init_35 : decode cX4_init 35 = .ok (.putfield 28, 3) := by decide +kernel
theorem dX4_init_38 : decode cX4_init 38 = .ok (.return_, 1) := by decide +kernel
theorem dX4_take_0 : decode cX4_take 0 = .ok (.aload_n 0, 1) := by decide +kernel
theorem dX4_take_1 : decode cX4_take 1 = .ok (.getfield 15, 3) := by decide +kernel
theorem dX4_take_4 : decode cX4_take 4 = .ok (.sipush 150, 3) := by decide +kernel
theorem dX4_take_7 : decode cX4_take 7 = .ok (.if_icmp .lt 5, 3) := by decide +kernel
theorem dX4_take_10 : decode cX4_take 10 = .ok (.iconst 0, 1) := by decide +kernel
theorem dX4_take_11 : decode cX4_take 11 = .ok (.ireturn, 1) := by decide +kernel
theorem dX4_take_12 : decode cX4_take 12 = .ok (.aload_n 0, 1) := by decide +kernel
theorem dX4_take_13 : decode cX4_take 13 = .ok (.getfield 9, 3) := by decide +kernel
theorem dX4_take_16 : decode cX4_take 16 = .ok (.aload_n 0, 1) := by decide +kernel
theorem dX4_take_17 : decode cX4_take 17 = .ok (.getfield 15, 3) := by decide +kernel
theorem dX4_take_20 : decode cX4_take 20 = .ok (.iload_n 1, 1) := by decide +kernel
theorem dX4_take_21 : decode cX4_take 21 = .ok (.iastore, 1) := by decide +kernel
theorem dX4_take_22 : decode cX4_take 22 = .ok (.aload_n 0, 1) := by decide +kernel
theorem dX4_take_23 : decode cX4_take 23 = .ok (.dup, 1) := by decide +kernel
theorem dX4_take_24 : decode cX4_take 24 = .ok (.getfield 15, 3) := by decide +kernel
theorem dX4_take_27 : decode cX4_take 27 = .ok (.iconst 1, 1) := by decide +kernel
theorem dX4_take_28 : decode cX4_take 28 = .ok (.iadd, 1) := by decide +kernel
theorem dX4_take_29 : decode cX4_take 29 = .ok (.putfield 15, 3) := by decide +kernel
theorem dX4_take_32 : decode cX4_take 32 = .ok (.iconst 1, 1) := by decide +kernel
theorem dX4_take_33 : decode cX4_take 33 = .ok (.ireturn, 1) := by decide +kernel
theorem dX4_drop_0 : decode cX4_drop 0 = .ok (.aload_n 0, 1) := by decide +kernel
theorem dX4_drop_1 : decode cX4_drop 1 = .ok (.getfield 15, 3) := by decide +kernel
theorem dX4_drop_4 : decode cX4_drop 4 = .ok (.istore_n 1, 1) := by decide +kernel
theorem dX4_drop_5 : decode cX4_drop 5 = .ok (.aload_n 0, 1) := by decide +kernel
theorem dX4_drop_6 : decode cX4_drop 6 = .ok (.iconst 0, 1) := by decide +kernel
theorem dX4_drop_7 : decode cX4_drop 7 = .ok (.putfield 15, 3) := by decide +kernel
theorem dX4_drop_10 : decode cX4_drop 10 = .ok (.iload_n 1, 1) := by decide +kernel
theorem dX4_drop_11 : decode cX4_drop 11 = .ok (.ireturn, 1) := by decide +kernel
theorem dX4_toFirstToken_0 : decode cX4_toFirstToken 0 = .ok (.aload_n 0, 1) := by decide +kernel
theorem dX4_toFirstToken_1 : decode cX4_toFirstToken 1 = .ok (.iconst 0, 1) := by decide +kernel
theorem dX4_toFirstToken_2 : decode cX4_toFirstToken 2 = .ok (.putfield 28, 3) := by decide +kernel
theorem dX4_toFirstToken_5 : decode cX4_toFirstToken 5 = .ok (.aload_n 0, 1) := by decide +kernel
theorem dX4_toFirstToken_6 : decode cX4_toFirstToken 6 = .ok (.invokevirtual 31, 3) := by decide +kernel
theorem dX4_toFirstToken_9 : decode cX4_toFirstToken 9 = .ok (.return_, 1) := by decide +kernel
theorem dX4_toNextToken_0 : decode cX4_toNextToken 0 = .ok (.aload_n 0, 1) := by decide +kernel
theorem dX4_toNextToken_1 : decode cX4_toNextToken 1 = .ok (.getfield 28, 3) := by decide +kernel
theorem dX4_toNextToken_4 : decode cX4_toNextToken 4 = .ok (.aload_n 0, 1) := by decide +kernel
theorem dX4_toNextToken_5 : decode cX4_toNextToken 5 = .ok (.getfield 15, 3) := by decide +kernel
theorem dX4_toNextToken_8 : decode cX4_toNextToken 8 = .ok (.if_icmp .ge 30, 3) := by decide +kernel
theorem dX4_toNextToken_11 : decode cX4_toNextToken 11 = .ok (.aload_n 0, 1) := by decide +kernel
theorem dX4_toNextToken_12 : decode cX4_toNextToken 12 = .ok (.getfield 9, 3) := by decide +kernel
theorem dX4_toNextToken_15 : decode cX4_toNextToken 15 = .ok (.aload_n 0, 1) := by decide +kernel
theorem dX4_toNextToken_16 : decode cX4_toNextToken 16 = .ok (.getfield 28, 3) := by decide +kernel
theorem dX4_toNextToken_19 : decode cX4_toNextToken 19 = .ok (.iaload, 1) := by decide +kernel
theorem dX4_toNextToken_20 : decode cX4_toNextToken 20 = .ok (.bipush 32, 2) := by decide +kernel
theorem dX4_toNextToken_22 : decode cX4_toNextToken 22 = .ok (.if_icmp .ne 16, 3) := by decide +kernel
theorem dX4_toNextToken_25 : decode cX4_toNextToken 25 = .ok (.aload_n 0, 1) := by decide +kernel
theorem dX4_toNextToken_26 : decode cX4_toNextToken 26 = .ok (.dup, 1) := by decide +kernel
theorem dX4_toNextToken_27 : decode cX4_toNextToken 27 = .ok (.getfield 28, 3) := by decide +kernel
theorem dX4_toNextToken_30 : decode cX4_toNextToken 30 = .ok (.iconst 1, 1) := by decide +kernel
theorem dX4_toNextToken_31 : decode cX4_toNextToken 31 = .ok (.iadd, 1) := by decide +kernel
theorem dX4_toNextToken_32 : decode cX4_toNextToken 32 = .ok (.putfield 28, 3) := by decide +kernel
theorem dX4_toNextToken_35 : decode cX4_toNextToken 35 = .ok (.goto (-35), 3) := by decide +kernel
theorem dX4_toNextToken_38 : decode cX4_toNextToken 38 = .ok (.aload_n 0, 1) := by decide +kernel
theorem dX4_toNextToken_39 : decode cX4_toNextToken 39 = .ok (.aload_n 0, 1) := by decide +kernel
theorem dX4_toNextToken_40 : decode cX4_toNextToken 40 = .ok (.getfield 28, 3) := by decide +kernel
theorem dX4_toNextToken_43 : decode cX4_toNextToken 43 = .ok (.putfield 19, 3) := by decide +kernel
theorem dX4_toNextToken_46 : decode cX4_toNextToken 46 = .ok (.aload_n 0, 1) := by decide +kernel
theorem dX4_toNextToken_47 : decode cX4_toNextToken 47 = .ok (.getfield 28, 3) := by decide +kernel
theorem dX4_toNextToken_50 : decode cX4_toNextToken 50 = .ok (.aload_n 0, 1) := by decide +kernel
theorem dX4_toNextToken_51 : decode cX4_toNextToken 51 = .ok (.getfield 15, 3) := by decide +kernel
theorem dX4_toNextToken_54 : decode cX4_toNextToken 54 = .ok (.if_icmp .lt 11, 3) := by decide +kernel
theorem dX4_toNextToken_57 : decode cX4_toNextToken 57 = .ok (.aload_n 0, 1) := by decide +kernel
theorem dX4_toNextToken_58 : decode cX4_toNextToken 58 = .ok (.iconst 0, 1) := by decide +kernel
theorem dX4_toNextToken_59 : decode cX4_toNextToken 59 = .ok (.putfield 22, 3) := by decide +kernel
theorem dX4_toNextToken_62 : decode cX4_toNextToken 62 = .ok (.goto 80, 3) := by decide +kernel
theorem dX4_toNextToken_65 : decode cX4_toNextToken 65 = .ok (.aload_n 0, 1) := by decide +kernel
theorem dX4_toNextToken_66 : decode cX4_toNextToken 66 = .ok (.getfield 9, 3) := by decide +kernel
theorem dX4_toNextToken_69 : decode cX4_toNextToken 69 = .ok (.aload_n 0, 1) := by decide +kernel
theorem dX4_toNextToken_70 : decode cX4_toNextToken 70 = .ok (.getfield 28, 3) := by decide +kernel
theorem dX4_toNextToken_73 : decode cX4_toNextToken 73 = .ok (.iaload, 1) := by decide +kernel
theorem dX4_toNextToken_74 : decode cX4_toNextToken 74 = .ok (.invokestatic 34, 3) := by decide +kernel
theorem dX4_toNextToken_77 : decode cX4_toNextToken 77 = .ok (.ifCond .eq 10, 3) := by decide +kernel
theorem dX4_toNextToken_80 : decode cX4_toNextToken 80 = .ok (.aload_n 0, 1) := by decide +kernel
theorem dX4_toNextToken_81 : decode cX4_toNextToken 81 = .ok (.invokevirtual 38, 3) := by decide +kernel
theorem dX4_toNextToken_84 : decode cX4_toNextToken 84 = .ok (.goto 58, 3) := by decide +kernel
theorem dX4_toNextToken_87 : decode cX4_toNextToken 87 = .ok (.aload_n 0, 1) := by decide +kernel
theorem dX4_toNextToken_88 : decode cX4_toNextToken 88 = .ok (.getfield 9, 3) := by decide +kernel
theorem dX4_toNextToken_91 : decode cX4_toNextToken 91 = .ok (.aload_n 0, 1) := by decide +kernel
theorem dX4_toNextToken_92 : decode cX4_toNextToken 92 = .ok (.getfield 28, 3) := by decide +kernel
theorem dX4_toNextToken_95 : decode cX4_toNextToken 95 = .ok (.iaload, 1) := by decide +kernel
theorem dX4_toNextToken_96 : decode cX4_toNextToken 96 = .ok (.invokestatic 41, 3) := by decide +kernel
theorem dX4_toNextToken_99 : decode cX4_toNextToken 99 = .ok (.ifCond .eq 10, 3) := by decide +kernel
theorem dX4_toNextToken_102 : decode cX4_toNextToken 102 = .ok (.aload_n 0, 1) := by decide +kernel
theorem dX4_toNextToken_103 : decode cX4_toNextToken 103 = .ok (.invokevirtual 44, 3) := by decide +kernel
theorem dX4_toNextToken_106 : decode cX4_toNextToken 106 = .ok (.goto 36, 3) := by decide +kernel
theorem dX4_toNextToken_109 : decode cX4_toNextToken 109 = .ok (.aload_n 0, 1) := by decide +kernel
theorem dX4_toNextToken_110 : decode cX4_toNextToken 110 = .ok (.aload_n 0, 1) := by decide +kernel
theorem dX4_toNextToken_111 : decode cX4_toNextToken 111 = .ok (.getfield 9, 3) := by decide +kernel
theorem dX4_toNextToken_114 : decode cX4_toNextToken 114 = .ok (.aload_n 0, 1) := by decide +kernel
theorem dX4_toNextToken_115 : decode cX4_toNextToken 115 = .ok (.getfield 28, 3) := by decide +kernel
theorem dX4_toNextToken_118 : decode cX4_toNextToken 118 = .ok (.iaload, 1) := by decide +kernel
theorem dX4_toNextToken_119 : decode cX4_toNextToken 119 = .ok (.bipush 59, 2) := by decide +kernel
theorem dX4_toNextToken_121 : decode cX4_toNextToken 121 = .ok (.if_icmp .ne 7, 3) := by decide +kernel
theorem dX4_toNextToken_124 : decode cX4_toNextToken 124 = .ok (.iconst 3, 1) := by decide +kernel
theorem dX4_toNextToken_125 : decode cX4_toNextToken 125 = .ok (.goto 4, 3) := by decide +kernel
theorem dX4_toNextToken_128 : decode cX4_toNextToken 128 = .ok (.iconst 4, 1) := by decide +kernel
theorem dX4_toNextToken_129 : decode cX4_toNextToken 129 = .ok (.putfield 22, 3) := by decide +kernel
theorem dX4_toNextToken_132 : decode cX4_toNextToken 132 = .ok (.aload_n 0, 1) := by decide +kernel
theorem dX4_toNextToken_133 : decode cX4_toNextToken 133 = .ok (.dup, 1) := by decide +kernel
theorem dX4_toNextToken_134 : decode cX4_toNextToken 134 = .ok (.getfield 28, 3) := by decide +kernel
theorem dX4_toNextToken_137 : decode cX4_toNextToken 137 = .ok (.iconst 1, 1) := by decide +kernel
theorem dX4_toNextToken_138 : decode cX4_toNextToken 138 = .ok (.iadd, 1) := by decide +kernel
theorem dX4_toNextToken_139 : decode cX4_toNextToken 139 = .ok (.putfield 28, 3) := by decide +kernel
theorem dX4_toNextToken_142 : decode cX4_toNextToken 142 = .ok (.return_, 1) := by decide +kernel
theorem dX4_scanLetters_0 : decode cX4_scanLetters 0 = .ok (.aload_n 0, 1) := by decide +kernel
theorem dX4_scanLetters_1 : decode cX4_scanLetters 1 = .ok (.iconst 1, 1) := by decide +kernel
theorem dX4_scanLetters_2 : decode cX4_scanLetters 2 = .ok (.putfield 22, 3) := by decide +kernel
theorem dX4_scanLetters_5 : decode cX4_scanLetters 5 = .ok (.aload_n 0, 1) := by decide +kernel
theorem dX4_scanLetters_6 : decode cX4_scanLetters 6 = .ok (.aload_n 0, 1) := by decide +kernel
theorem dX4_scanLetters_7 : decode cX4_scanLetters 7 = .ok (.getfield 9, 3) := by decide +kernel
theorem dX4_scanLetters_10 : decode cX4_scanLetters 10 = .ok (.aload_n 0, 1) := by decide +kernel
theorem dX4_scanLetters_11 : decode cX4_scanLetters 11 = .ok (.getfield 28, 3) := by decide +kernel
theorem dX4_scanLetters_14 : decode cX4_scanLetters 14 = .ok (.iaload, 1) := by decide +kernel
theorem dX4_scanLetters_15 : decode cX4_scanLetters 15 = .ok (.putfield 25, 3) := by decide +kernel
theorem dX4_scanLetters_18 : decode cX4_scanLetters 18 = .ok (.aload_n 0, 1) := by decide +kernel
theorem dX4_scanLetters_19 : decode cX4_scanLetters 19 = .ok (.dup, 1) := by decide +kernel
theorem dX4_scanLetters_20 : decode cX4_scanLetters 20 = .ok (.getfield 28, 3) := by decide +kernel
theorem dX4_scanLetters_23 : decode cX4_scanLetters 23 = .ok (.iconst 1, 1) := by decide +kernel
theorem dX4_scanLetters_24 : decode cX4_scanLetters 24 = .ok (.iadd, 1) := by decide +kernel
theorem dX4_scanLetters_25 : decode cX4_scanLetters 25 = .ok (.putfield 28, 3) := by decide +kernel
theorem dX4_scanLetters_28 : decode cX4_scanLetters 28 = .ok (.aload_n 0, 1) := by decide +kernel
theorem dX4_scanLetters_29 : decode cX4_scanLetters 29 = .ok (.getfield 28, 3) := by decide +kernel
theorem dX4_scanLetters_32 : decode cX4_scanLetters 32 = .ok (.aload_n 0, 1) := by decide +kernel
theorem dX4_scanLetters_33 : decode cX4_scanLetters 33 = .ok (.getfield 15, 3) := by decide +kernel
theorem dX4_scanLetters_36 : decode cX4_scanLetters 36 = .ok (.if_icmp .ge 36, 3) := by decide +kernel
theorem dX4_scanLetters_39 : decode cX4_scanLetters 39 = .ok (.aload_n 0, 1) := by decide +kernel
theorem dX4_scanLetters_40 : decode cX4_scanLetters 40 = .ok (.getfield 9, 3) := by decide +kernel
theorem dX4_scanLetters_43 : decode cX4_scanLetters 43 = .ok (.aload_n 0, 1) := by decide +kernel
theorem dX4_scanLetters_44 : decode cX4_scanLetters 44 = .ok (.getfield 28, 3) := by decide +kernel
theorem dX4_scanLetters_47 : decode cX4_scanLetters 47 = .ok (.iaload, 1) := by decide +kernel
theorem dX4_scanLetters_48 : decode cX4_scanLetters 48 = .ok (.invokestatic 34, 3) := by decide +kernel
theorem dX4_scanLetters_51 : decode cX4_scanLetters 51 = .ok (.ifCond .eq 21, 3) := by decide +kernel
theorem dX4_scanLetters_54 : decode cX4_scanLetters 54 = .ok (.aload_n 0, 1) := by decide +kernel
theorem dX4_scanLetters_55 : decode cX4_scanLetters 55 = .ok (.iconst 0, 1) := by decide +kernel
theorem dX4_scanLetters_56 : decode cX4_scanLetters 56 = .ok (.putfield 25, 3) := by decide +kernel
theorem dX4_scanLetters_59 : decode cX4_scanLetters 59 = .ok (.aload_n 0, 1) := by decide +kernel
theorem dX4_scanLetters_60 : decode cX4_scanLetters 60 = .ok (.dup, 1) := by decide +kernel
theorem dX4_scanLetters_61 : decode cX4_scanLetters 61 = .ok (.getfield 28, 3) := by decide +kernel
theorem dX4_scanLetters_64 : decode cX4_scanLetters 64 = .ok (.iconst 1, 1) := by decide +kernel
theorem dX4_scanLetters_65 : decode cX4_scanLetters 65 = .ok (.iadd, 1) := by decide +kernel
theorem dX4_scanLetters_66 : decode cX4_scanLetters 66 = .ok (.putfield 28, 3) := by decide +kernel
theorem dX4_scanLetters_69 : decode cX4_scanLetters 69 = .ok (.goto (-41), 3) := by decide +kernel
theorem dX4_scanLetters_72 : decode cX4_scanLetters 72 = .ok (.return_, 1) := by decide +kernel
theorem dX4_scanNumber_0 : decode cX4_scanNumber 0 = .ok (.iconst 0, 1) := by decide +kernel
theorem dX4_scanNumber_1 : decode cX4_scanNumber 1 = .ok (.istore_n 1, 1) := by decide +kernel
theorem dX4_scanNumber_2 : decode cX4_scanNumber 2 = .ok (.aload_n 0, 1) := by decide +kernel
theorem dX4_scanNumber_3 : decode cX4_scanNumber 3 = .ok (.iconst 0, 1) := by decide +kernel
theorem dX4_scanNumber_4 : decode cX4_scanNumber 4 = .ok (.putfield 25, 3) := by decide +kernel
theorem dX4_scanNumber_7 : decode cX4_scanNumber 7 = .ok (.aload_n 0, 1) := by decide +kernel
theorem dX4_scanNumber_8 : decode cX4_scanNumber 8 = .ok (.getfield 28, 3) := by decide +kernel
theorem dX4_scanNumber_11 : decode cX4_scanNumber 11 = .ok (.aload_n 0, 1) := by decide +kernel
theorem dX4_scanNumber_12 : decode cX4_scanNumber 12 = .ok (.getfield 15, 3) := by decide +kernel
theorem dX4_scanNumber_15 : decode cX4_scanNumber 15 = .ok (.if_icmp .ge 88, 3) := by decide +kernel
theorem dX4_scanNumber_18 : decode cX4_scanNumber 18 = .ok (.aload_n 0, 1) := by decide +kernel
theorem dX4_scanNumber_19 : decode cX4_scanNumber 19 = .ok (.getfield 9, 3) := by decide +kernel
theorem dX4_scanNumber_22 : decode cX4_scanNumber 22 = .ok (.aload_n 0, 1) := by decide +kernel
theorem dX4_scanNumber_23 : decode cX4_scanNumber 23 = .ok (.getfield 28, 3) := by decide +kernel
theorem dX4_scanNumber_26 : decode cX4_scanNumber 26 = .ok (.iaload, 1) := by decide +kernel
theorem dX4_scanNumber_27 : decode cX4_scanNumber 27 = .ok (.invokestatic 41, 3) := by decide +kernel
theorem dX4_scanNumber_30 : decode cX4_scanNumber 30 = .ok (.ifCond .eq 73, 3) := by decide +kernel
theorem dX4_scanNumber_33 : decode cX4_scanNumber 33 = .ok (.iload_n 1, 1) := by decide +kernel
theorem dX4_scanNumber_34 : decode cX4_scanNumber 34 = .ok (.ifCond .ne 21, 3) := by decide +kernel
theorem dX4_scanNumber_37 : decode cX4_scanNumber 37 = .ok (.aload_n 0, 1) := by decide +kernel
theorem dX4_scanNumber_38 : decode cX4_scanNumber 38 = .ok (.getfield 28, 3) := by decide +kernel
theorem dX4_scanNumber_41 : decode cX4_scanNumber 41 = .ok (.aload_n 0, 1) := by decide +kernel
theorem dX4_scanNumber_42 : decode cX4_scanNumber 42 = .ok (.getfield 19, 3) := by decide +kernel
theorem dX4_scanNumber_45 : decode cX4_scanNumber 45 = .ok (.if_icmp .le 14, 3) := by decide +kernel
theorem dX4_scanNumber_48 : decode cX4_scanNumber 48 = .ok (.aload_n 0, 1) := by decide +kernel
theorem dX4_scanNumber_49 : decode cX4_scanNumber 49 = .ok (.getfield 25, 3) := by decide +kernel
theorem dX4_scanNumber_52 : decode cX4_scanNumber 52 = .ok (.ifCond .ne 7, 3) := by decide +kernel
theorem dX4_scanNumber_55 : decode cX4_scanNumber 55 = .ok (.iconst 1, 1) := by decide +kernel
theorem dX4_scanNumber_56 : decode cX4_scanNumber 56 = .ok (.goto 4, 3) := by decide +kernel
theorem dX4_scanNumber_59 : decode cX4_scanNumber 59 = .ok (.iconst 0, 1) := by decide +kernel
theorem dX4_scanNumber_60 : decode cX4_scanNumber 60 = .ok (.istore_n 1, 1) := by decide +kernel
theorem dX4_scanNumber_61 : decode cX4_scanNumber 61 = .ok (.aload_n 0, 1) := by decide +kernel
theorem dX4_scanNumber_62 : decode cX4_scanNumber 62 = .ok (.aload_n 0, 1) := by decide +kernel
theorem dX4_scanNumber_63 : decode cX4_scanNumber 63 = .ok (.getfield 25, 3) := by decide +kernel
theorem dX4_scanNumber_66 : decode cX4_scanNumber 66 = .ok (.bipush 10, 2) := by decide +kernel
theorem dX4_scanNumber_68 : decode cX4_scanNumber 68 = .ok (.imul, 1) := by decide +kernel
theorem dX4_scanNumber_69 : decode cX4_scanNumber 69 = .ok (.aload_n 0, 1) := by decide +kernel
theorem dX4_scanNumber_70 : decode cX4_scanNumber 70 = .ok (.getfield 9, 3) := by decide +kernel
theorem dX4_scanNumber_73 : decode cX4_scanNumber 73 = .ok (.aload_n 0, 1) := by decide +kernel
theorem dX4_scanNumber_74 : decode cX4_scanNumber 74 = .ok (.getfield 28, 3) := by decide +kernel
theorem dX4_scanNumber_77 : decode cX4_scanNumber 77 = .ok (.iaload, 1) := by decide +kernel
theorem dX4_scanNumber_78 : decode cX4_scanNumber 78 = .ok (.iadd, 1) := by decide +kernel
theorem dX4_scanNumber_79 : decode cX4_scanNumber 79 = .ok (.bipush 48, 2) := by decide +kernel
theorem dX4_scanNumber_81 : decode cX4_scanNumber 81 = .ok (.isub, 1) := by decide +kernel
theorem dX4_scanNumber_82 : decode cX4_scanNumber 82 = .ok (.bipush 100, 2) := by decide +kernel
theorem dX4_scanNumber_84 : decode cX4_scanNumber 84 = .ok (.invokestatic 47, 3) := by decide +kernel
theorem dX4_scanNumber_87 : decode cX4_scanNumber 87 = .ok (.putfield 25, 3) := by decide +kernel
theorem dX4_scanNumber_90 : decode cX4_scanNumber 90 = .ok (.aload_n 0, 1) := by decide +kernel
theorem dX4_scanNumber_91 : decode cX4_scanNumber 91 = .ok (.dup, 1) := by decide +kernel
theorem dX4_scanNumber_92 : decode cX4_scanNumber 92 = .ok (.getfield 28, 3) := by decide +kernel
theorem dX4_scanNumber_95 : decode cX4_scanNumber 95 = .ok (.iconst 1, 1) := by decide +kernel
theorem dX4_scanNumber_96 : decode cX4_scanNumber 96 = .ok (.iadd, 1) := by decide +kernel
theorem dX4_scanNumber_97 : decode cX4_scanNumber 97 = .ok (.putfield 28, 3) := by decide +kernel
theorem dX4_scanNumber_100 : decode cX4_scanNumber 100 = .ok (.goto (-93), 3) := by decide +kernel
theorem dX4_scanNumber_103 : decode cX4_scanNumber 103 = .ok (.aload_n 0, 1) := by decide +kernel
theorem dX4_scanNumber_104 : decode cX4_scanNumber 104 = .ok (.iload_n 1, 1) := by decide +kernel
theorem dX4_scanNumber_105 : decode cX4_scanNumber 105 = .ok (.ifCond .ne 12, 3) := by decide +kernel
theorem dX4_scanNumber_108 : decode cX4_scanNumber 108 = .ok (.aload_n 0, 1) := by decide +kernel
theorem dX4_scanNumber_109 : decode cX4_scanNumber 109 = .ok (.getfield 25, 3) := by decide +kernel
theorem dX4_scanNumber_112 : decode cX4_scanNumber 112 = .ok (.bipush 99, 2) := by decide +kernel
theorem dX4_scanNumber_114 : decode cX4_scanNumber 114 = .ok (.if_icmp .le 7, 3) := by decide +kernel
theorem dX4_scanNumber_117 : decode cX4_scanNumber 117 = .ok (.iconst 4, 1) := by decide +kernel
theorem dX4_scanNumber_118 : decode cX4_scanNumber 118 = .ok (.goto 4, 3) := by decide +kernel
theorem dX4_scanNumber_121 : decode cX4_scanNumber 121 = .ok (.iconst 2, 1) := by decide +kernel
theorem dX4_scanNumber_122 : decode cX4_scanNumber 122 = .ok (.putfield 22, 3) := by decide +kernel
theorem dX4_scanNumber_125 : decode cX4_scanNumber 125 = .ok (.return_, 1) := by decide +kernel
theorem dX4_isLetter_0 : decode cX4_isLetter 0 = .ok (.iload_n 0, 1) := by decide +kernel
theorem dX4_isLetter_1 : decode cX4_isLetter 1 = .ok (.bipush 97, 2) := by decide +kernel
theorem dX4_isLetter_3 : decode cX4_isLetter 3 = .ok (.if_icmp .lt 13, 3) := by decide +kernel
theorem dX4_isLetter_6 : decode cX4_isLetter 6 = .ok (.iload_n 0, 1) := by decide +kernel
theorem dX4_isLetter_7 : decode cX4_isLetter 7 = .ok (.bipush 122, 2) := by decide +kernel
theorem dX4_isLetter_9 : decode cX4_isLetter 9 = .ok (.if_icmp .gt 7, 3) := by decide +kernel
theorem dX4_isLetter_12 : decode cX4_isLetter 12 = .ok (.iconst 1, 1) := by decide +kernel
theorem dX4_isLetter_13 : decode cX4_isLetter 13 = .ok (.goto 4, 3) := by decide +kernel
theorem dX4_isLetter_16 : decode cX4_isLetter 16 = .ok (.iconst 0, 1) := by decide +kernel
theorem dX4_isLetter_17 : decode cX4_isLetter 17 = .ok (.ireturn, 1) := by decide +kernel
theorem dX4_isDigit_0 : decode cX4_isDigit 0 = .ok (.iload_n 0, 1) := by decide +kernel
theorem dX4_isDigit_1 : decode cX4_isDigit 1 = .ok (.bipush 48, 2) := by decide +kernel
theorem dX4_isDigit_3 : decode cX4_isDigit 3 = .ok (.if_icmp .lt 13, 3) := by decide +kernel
theorem dX4_isDigit_6 : decode cX4_isDigit 6 = .ok (.iload_n 0, 1) := by decide +kernel
theorem dX4_isDigit_7 : decode cX4_isDigit 7 = .ok (.bipush 57, 2) := by decide +kernel
theorem dX4_isDigit_9 : decode cX4_isDigit 9 = .ok (.if_icmp .gt 7, 3) := by decide +kernel
theorem dX4_isDigit_12 : decode cX4_isDigit 12 = .ok (.iconst 1, 1) := by decide +kernel
theorem dX4_isDigit_13 : decode cX4_isDigit 13 = .ok (.goto 4, 3) := by decide +kernel
theorem dX4_isDigit_16 : decode cX4_isDigit 16 = .ok (.iconst 0, 1) := by decide +kernel
theorem dX4_isDigit_17 : decode cX4_isDigit 17 = .ok (.ireturn, 1) := by decide +kernel
theorem dJ9_max_7cf53_0 : decode cJ9_max_7cf53 0 = .ok (.iload_n 0, 1) := by decide +kernel
theorem dJ9_max_7cf53_1 : decode cJ9_max_7cf53 1 = .ok (.iload_n 1, 1) := by decide +kernel
theorem dJ9_max_7cf53_2 : decode cJ9_max_7cf53 2 = .ok (.if_icmp .lt 7, 3) := by decide +kernel
theorem dJ9_max_7cf53_5 : decode cJ9_max_7cf53 5 = .ok (.iload_n 0, 1) := by decide +kernel
theorem dJ9_max_7cf53_6 : decode cJ9_max_7cf53 6 = .ok (.goto 4, 3) := by decide +kernel
theorem dJ9_max_7cf53_9 : decode cJ9_max_7cf53 9 = .ok (.iload_n 1, 1) := by decide +kernel
theorem dJ9_max_7cf53_10 : decode cJ9_max_7cf53 10 = .ok (.ireturn, 1) := by decide +kernel
theorem dJ9_min_7cf53_0 : decode cJ9_min_7cf53 0 = .ok (.iload_n 0, 1) := by decide +kernel
theorem dJ9_min_7cf53_1 : decode cJ9_min_7cf53 1 = .ok (.iload_n 1, 1) := by decide +kernel
theorem dJ9_min_7cf53_2 : decode cJ9_min_7cf53 2 = .ok (.if_icmp .gt 7, 3) := by decide +kernel
theorem dJ9_min_7cf53_5 : decode cJ9_min_7cf53 5 = .ok (.iload_n 0, 1) := by decide +kernel
theorem dJ9_min_7cf53_6 : decode cJ9_min_7cf53 6 = .ok (.goto 4, 3) := by decide +kernel
theorem dJ9_min_7cf53_9 : decode cJ9_min_7cf53 9 = .ok (.iload_n 1, 1) := by decide +kernel
theorem dJ9_min_7cf53_10 : decode cJ9_min_7cf53 10 = .ok (.ireturn, 1) := by decide +kernel
