theorem dX6_in_0 : decode cX6_in 0 = .ok (.lload_n 0, 1) := by decide +kernel
theorem dX6_in_1 : decode cX6_in 1 = .ok (.lload_n 2, 1) := by decide +kernel
theorem dX6_in_2 : decode cX6_in 2 = .ok (.lcmp, 1) := by decide +kernel
theorem dX6_in_3 : decode cX6_in 3 = .ok (.ifCond .lt 14, 3) := by decide +kernel
theorem dX6_in_6 : decode cX6_in 6 = .ok (.lload_n 0, 1) := by decide +kernel
theorem dX6_in_7 : decode cX6_in 7 = .ok (.lload 4, 2) := by decide +kernel
theorem dX6_in_9 : decode cX6_in 9 = .ok (.lcmp, 1) := by decide +kernel
theorem dX6_in_10 : decode cX6_in 10 = .ok (.ifCond .gt 7, 3) := by decide +kernel
theorem dX6_in_13 : decode cX6_in 13 = .ok (.iconst 1, 1) := by decide +kernel
theorem dX6_in_14 : decode cX6_in 14 = .ok (.goto 4, 3) := by decide +kernel
theorem dX6_in_17 : decode cX6_in 17 = .ok (.iconst 0, 1) := by decide +kernel
theorem dX6_in_18 : decode cX6_in 18 = .ok (.ireturn, 1) := by decide +kernel
theorem dX6_init_0 : decode cX6_init 0 = .ok (.aload_n 0, 1) := by decide +kernel
theorem dX6_init_1 : decode cX6_init 1 = .ok (.invokespecial 1, 3) := by decide +kernel
theorem dX6_init_4 : decode cX6_init 4 = .ok (.aload_n 0, 1) := by decide +kernel
theorem dX6_init_5 : decode cX6_init 5 = .ok (.sipush 150, 3) := by decide +kernel
theorem dX6_init_8 : decode cX6_init 8 = .ok (.newarray .int, 2) := by decide +kernel
theorem dX6_init_10 : decode cX6_init 10 = .ok (.putfield 7, 3) := by decide +kernel
theorem dX6_init_13 : decode cX6_init 13 = .ok (.aload_n 0, 1) := by decide +kernel
theorem dX6_init_14 : decode cX6_init 14 = .ok (.bipush 79, 2) := by decide +kernel
theorem dX6_init_16 : decode cX6_init 16 = .ok (.newarray .int, 2) := by decide +kernel
theorem dX6_init_18 : decode cX6_init 18 = .ok (.putfield 13, 3) := by decide +kernel
theorem dX6_init_21 : decode cX6_init 21 = .ok (.aload_n 0, 1) := by decide +kernel
theorem dX6_init_22 : decode cX6_init 22 = .ok (.bipush 79, 2) := by decide +kernel
theorem dX6_init_24 : decode cX6_init 24 = .ok (.newarray .int, 2) := by decide +kernel
theorem dX6_init_26 : decode cX6_init 26 = .ok (.putfield 16, 3) := by decide +kernel
theorem dX6_init_29 : decode cX6_init 29 = .ok (.aload_n 0, 1) := by decide +kernel
theorem dX6_init_30 : decode cX6_init 30 = .ok (.bipush 15, 2) := by decide +kernel
theorem dX6_init_32 : decode cX6_init 32 = .ok (.newarray .int, 2) := by decide +kernel
theorem dX6_init_34 : decode cX6_init 34 = .ok (.putfield 19, 3) := by decide +kernel
theorem dX6_init_37 : decode cX6_init 37 = .ok (.aload_n 0, 1) := by decide +kernel
theorem dX6_init_38 : decode cX6_init 38 = .ok (.sipush 150, 3) := by decide +kernel
theorem dX6_init_41 : decode cX6_init 41 = .ok (.newarray .int, 2) := by decide +kernel
theorem dX6_init_43 : decode cX6_init 43 = .ok (.putfield 22, 3) := by decide +kernel
theorem dX6_init_46 : decode cX6_init 46 = .ok (.aload_n 0, 1) := by decide +kernel
theorem dX6_init_47 : decode cX6_init 47 = .ok (.bipush 15, 2) := by decide +kernel
theorem dX6_init_49 : decode cX6_init 49 = .ok (.newarray .int, 2) := by decide +kernel
theorem dX6_init_51 : decode cX6_init 51 = .ok (.putfield 25, 3) := by decide +kernel
theorem dX6_init_54 : decode cX6_init 54 = .ok (.aload_n 0, 1) := by decide +kernel
theorem dX6_init_55 : decode cX6_init 55 = .ok (.bipush 6, 2) := by decide +kernel
theorem dX6_init_57 : decode cX6_init 57 = .ok (.newarray .int, 2) := by decide +kernel
theorem dX6_init_59 : decode cX6_init 59 = .ok (.putfield 28, 3) := by decide +kernel
theorem dX6_init_62 : decode cX6_init 62 = .ok (.aload_n 0, 1) := by decide +kernel
theorem dX6_init_63 : decode cX6_init 63 = .ok (.bipush 6, 2) := by decide +kernel
theorem dX6_init_65 : decode cX6_init 65 = .ok (.newarray .int, 2) := by decide +kernel
theorem dX6_init_67 : decode cX6_init 67 = .ok (.putfield 31, 3) := by decide +kernel
theorem dX6_init_70 : decode cX6_init 70 = .ok (.aload_n 0, 1) := by decide +kernel
theorem dX6_init_71 : decode cX6_init 71 = .ok (.sipush 334, 3) := by decide +kernel
theorem dX6_init_74 : decode cX6_init 74 = .ok (.newarray .int, 2) := by decide +kernel
theorem dX6_init_76 : decode cX6_init 76 = .ok (.putfield 34, 3) := by decide +kernel
theorem dX6_init_79 : decode cX6_init 79 = .ok (.aload_n 0, 1) := by decide +kernel
theorem dX6_init_80 : decode cX6_init 80 = .ok (.invokevirtual 37, 3) := by decide +kernel
theorem dX6_init_83 : decode cX6_init 83 = .ok (.aload_n 0, 1) := by decide +kernel
theorem dX6_init_84 : decode cX6_init 84 = .ok (.invokevirtual 40, 3) := by decide +kernel
theorem dX6_init_87 : decode cX6_init 87 = .ok (.return_, 1) := by decide +kernel
theorem dX6_type_0 : decode cX6_type 0 = .ok (.iload_n 1, 1) := by decide +kernel
theorem dX6_type_1 : decode cX6_type 1 = .ok (.i2l, 1) := by decide +kernel
theorem dX6_type_2 : decode cX6_type 2 = .ok (.lconst 0, 1) := by decide +kernel
theorem dX6_type_3 : decode cX6_type 3 = .ok (.ldc2_w 43, 3) := by decide +kernel
theorem dX6_type_6 : decode cX6_type 6 = .ok (.invokestatic 45, 3) := by decide +kernel
theorem dX6_type_9 : decode cX6_type 9 = .ok (.ifCond .ne 5, 3) := by decide +kernel
theorem dX6_type_12 : decode cX6_type 12 = .ok (.iconst (-1), 1) := by decide +kernel
theorem dX6_type_13 : decode cX6_type 13 = .ok (.ireturn, 1) := by decide +kernel
theorem dX6_type_14 : decode cX6_type 14 = .ok (.aload_n 0, 1) := by decide +kernel
theorem dX6_type_15 : decode cX6_type 15 = .ok (.getfield 49, 3) := by decide +kernel
theorem dX6_type_18 : decode cX6_type 18 = .ok (.sipush 150, 3) := by decide +kernel
theorem dX6_type_21 : decode cX6_type 21 = .ok (.if_icmp .ne 6, 3) := by decide +kernel
theorem dX6_type_24 : decode cX6_type 24 = .ok (.bipush (-3), 2) := by decide +kernel
theorem dX6_type_26 : decode cX6_type 26 = .ok (.ireturn, 1) := by decide +kernel
theorem dX6_type_27 : decode cX6_type 27 = .ok (.aload_n 0, 1) := by decide +kernel
theorem dX6_type_28 : decode cX6_type 28 = .ok (.getfield 7, 3) := by decide +kernel
theorem dX6_type_31 : decode cX6_type 31 = .ok (.aload_n 0, 1) := by decide +kernel
theorem dX6_type_32 : decode cX6_type 32 = .ok (.getfield 49, 3) := by decide +kernel
theorem dX6_type_35 : decode cX6_type 35 = .ok (.iload_n 1, 1) := by decide +kernel
theorem dX6_type_36 : decode cX6_type 36 = .ok (.iastore, 1) := by decide +kernel
theorem dX6_type_37 : decode cX6_type 37 = .ok (.aload_n 0, 1) := by decide +kernel
theorem dX6_type_38 : decode cX6_type 38 = .ok (.dup, 1) := by decide +kernel
theorem dX6_type_39 : decode cX6_type 39 = .ok (.getfield 49, 3) := by decide +kernel
theorem dX6_type_42 : decode cX6_type 42 = .ok (.iconst 1, 1) := by decide +kernel
theorem dX6_type_43 : decode cX6_type 43 = .ok (.iadd, 1) := by decide +kernel
theorem dX6_type_44 : decode cX6_type 44 = .ok (.putfield 49, 3) := by decide +kernel
theorem dX6_type_47 : decode cX6_type 47 = .ok (.aload_n 0, 1) := by decide +kernel
theorem dX6_type_48 : decode cX6_type 48 = .ok (.getfield 49, 3) := by decide +kernel
theorem dX6_type_51 : decode cX6_type 51 = .ok (.ireturn, 1) := by decide +kernel
theorem dX6_clear_0 : decode cX6_clear 0 = .ok (.aload_n 0, 1) := by decide +kernel
theorem dX6_clear_1 : decode cX6_clear 1 = .ok (.getfield 49, 3) := by decide +kernel
theorem dX6_clear_4 : decode cX6_clear 4 = .ok (.istore_n 1, 1) := by decide +kernel
theorem dX6_clear_5 : decode cX6_clear 5 = .ok (.aload_n 0, 1) := by decide +kernel
theorem dX6_clear_6 : decode cX6_clear 6 = .ok (.iconst 0, 1) := by decide +kernel
theorem dX6_clear_7 : decode cX6_clear 7 = .ok (.putfield 49, 3) := by decide +kernel
theorem dX6_clear_10 : decode cX6_clear 10 = .ok (.iload_n 1, 1) := by decide +kernel
theorem dX6_clear_11 : decode cX6_clear 11 = .ok (.ireturn, 1) := by decide +kernel
theorem dX6_isLetter_0 : decode cX6_isLetter 0 = .ok (.iload_n 0, 1) := by decide +kernel
theorem dX6_isLetter_1 : decode cX6_isLetter 1 = .ok (.i2l, 1) := by decide +kernel
theorem dX6_isLetter_2 : decode cX6_isLetter 2 = .ok (.ldc2_w 53, 3) := by decide +kernel
theorem dX6_isLetter_5 : decode cX6_isLetter 5 = .ok (.ldc2_w 55, 3) := by decide +kernel
theorem dX6_isLetter_8 : decode cX6_isLetter 8 = .ok (.invokestatic 45, 3) := by decide +kernel
theorem dX6_isLetter_11 : decode cX6_isLetter 11 = .ok (.ireturn, 1) := by decide +kernel
theorem dX6_isFigure_0 : decode cX6_isFigure 0 = .ok (.iload_n 0, 1) := by decide +kernel
theorem dX6_isFigure_1 : decode cX6_isFigure 1 = .ok (.i2l, 1) := by decide +kernel
theorem dX6_isFigure_2 : decode cX6_isFigure 2 = .ok (.ldc2_w 57, 3) := by decide +kernel
theorem dX6_isFigure_5 : decode cX6_isFigure 5 = .ok (.ldc2_w 59, 3) := by decide +kernel
theorem dX6_isFigure_8 : decode cX6_isFigure 8 = .ok (.invokestatic 45, 3) := by decide +kernel
theorem dX6_isFigure_11 : decode cX6_isFigure 11 = .ok (.ireturn, 1) := by decide +kernel
theorem dX6_readLetters_0 : decode cX6_readLetters 0 = .ok (.aload_n 0, 1) := by decide +kernel
theorem dX6_readLetters_1 : decode cX6_readLetters 1 = .ok (.aload_n 0, 1) := by decide +kernel
theorem dX6_readLetters_2 : decode cX6_readLetters 2 = .ok (.getfield 7, 3) := by decide +kernel
theorem dX6_readLetters_5 : decode cX6_readLetters 5 = .ok (.aload_n 0, 1) := by decide +kernel
theorem dX6_readLetters_6 : decode cX6_readLetters 6 = .ok (.getfield 61, 3) := by decide +kernel
theorem dX6_readLetters_9 : decode cX6_readLetters 9 = .ok (.iaload, 1) := by decide +kernel
theorem dX6_readLetters_10 : decode cX6_readLetters 10 = .ok (.putfield 64, 3) := by decide +kernel
theorem dX6_readLetters_13 : decode cX6_readLetters 13 = .ok (.aload_n 0, 1) := by decide +kernel
theorem dX6_readLetters_14 : decode cX6_readLetters 14 = .ok (.getfield 61, 3) := by decide +kernel
theorem dX6_readLetters_17 : decode cX6_readLetters 17 = .ok (.aload_n 0, 1) := by decide +kernel
theorem dX6_readLetters_18 : decode cX6_readLetters 18 = .ok (.getfield 49, 3) := by decide +kernel
theorem dX6_readLetters_21 : decode cX6_readLetters 21 = .ok (.if_icmp .ge 31, 3) := by decide +kernel
theorem dX6_readLetters_24 : decode cX6_readLetters 24 = .ok (.aload_n 0, 1) := by decide +kernel
theorem dX6_readLetters_25 : decode cX6_readLetters 25 = .ok (.getfield 7, 3) := by decide +kernel
theorem dX6_readLetters_28 : decode cX6_readLetters 28 = .ok (.aload_n 0, 1) := by decide +kernel
theorem dX6_readLetters_29 : decode cX6_readLetters 29 = .ok (.getfield 61, 3) := by decide +kernel
theorem dX6_readLetters_32 : decode cX6_readLetters 32 = .ok (.iaload, 1) := by decide +kernel
theorem dX6_readLetters_33 : decode cX6_readLetters 33 = .ok (.invokestatic 67, 3) := by decide +kernel
theorem dX6_readLetters_36 : decode cX6_readLetters 36 = .ok (.ifCond .eq 16, 3) := by decide +kernel
theorem dX6_readLetters_39 : decode cX6_readLetters 39 = .ok (.aload_n 0, 1) := by decide +kernel
theorem dX6_readLetters_40 : decode cX6_readLetters 40 = .ok (.dup, 1) := by decide +kernel
theorem dX6_readLetters_41 : decode cX6_readLetters 41 = .ok (.getfield 61, 3) := by decide +kernel
theorem dX6_readLetters_44 : decode cX6_readLetters 44 = .ok (.iconst 1, 1) := by decide +kernel
theorem dX6_readLetters_45 : decode cX6_readLetters 45 = .ok (.iadd, 1) := by decide +kernel
theorem dX6_readLetters_46 : decode cX6_readLetters 46 = .ok (.putfield 61, 3) := by decide +kernel
theorem dX6_readLetters_49 : decode cX6_readLetters 49 = .ok (.goto (-36), 3) := by decide +kernel
theorem dX6_readLetters_52 : decode cX6_readLetters 52 = .ok (.aload_n 0, 1) := by decide +kernel
theorem dX6_readLetters_53 : decode cX6_readLetters 53 = .ok (.getfield 64, 3) := by decide +kernel
theorem dX6_readLetters_56 : decode cX6_readLetters 56 = .ok (.bipush 115, 2) := by decide +kernel
theorem dX6_readLetters_58 : decode cX6_readLetters 58 = .ok (.if_icmp .eq 39, 3) := by decide +kernel
theorem dX6_readLetters_61 : decode cX6_readLetters 61 = .ok (.aload_n 0, 1) := by decide +kernel
theorem dX6_readLetters_62 : decode cX6_readLetters 62 = .ok (.getfield 64, 3) := by decide +kernel
theorem dX6_readLetters_65 : decode cX6_readLetters 65 = .ok (.bipush 99, 2) := by decide +kernel
theorem dX6_readLetters_67 : decode cX6_readLetters 67 = .ok (.if_icmp .eq 30, 3) := by decide +kernel
theorem dX6_readLetters_70 : decode cX6_readLetters 70 = .ok (.aload_n 0, 1) := by decide +kernel
theorem dX6_readLetters_71 : decode cX6_readLetters 71 = .ok (.getfield 64, 3) := by decide +kernel
theorem dX6_readLetters_74 : decode cX6_readLetters 74 = .ok (.bipush 112, 2) := by decide +kernel
theorem dX6_readLetters_76 : decode cX6_readLetters 76 = .ok (.if_icmp .eq 21, 3) := by decide +kernel
theorem dX6_readLetters_79 : decode cX6_readLetters 79 = .ok (.aload_n 0, 1) := by decide +kernel
theorem dX6_readLetters_80 : decode cX6_readLetters 80 = .ok (.getfield 64, 3) := by decide +kernel
theorem dX6_readLetters_83 : decode cX6_readLetters 83 = .ok (.bipush 105, 2) := by decide +kernel
theorem dX6_readLetters_85 : decode cX6_readLetters 85 = .ok (.if_icmp .eq 12, 3) := by decide +kernel
theorem dX6_readLetters_88 : decode cX6_readLetters 88 = .ok (.aload_n 0, 1) := by decide +kernel
theorem dX6_readLetters_89 : decode cX6_readLetters 89 = .ok (.getfield 64, 3) := by decide +kernel
theorem dX6_readLetters_92 : decode cX6_readLetters 92 = .ok (.bipush 108, 2) := by decide +kernel
theorem dX6_readLetters_94 : decode cX6_readLetters 94 = .ok (.if_icmp .ne 7, 3) := by decide +kernel
theorem dX6_readLetters_97 : decode cX6_readLetters 97 = .ok (.iconst 1, 1) := by decide +kernel
theorem dX6_readLetters_98 : decode cX6_readLetters 98 = .ok (.goto 4, 3) := by decide +kernel
theorem dX6_readLetters_101 : decode cX6_readLetters 101 = .ok (.iconst 0, 1) := by decide +kernel
theorem dX6_readLetters_102 : decode cX6_readLetters 102 = .ok (.istore_n 1, 1) := by decide +kernel
theorem dX6_readLetters_103 : decode cX6_readLetters 103 = .ok (.aload_n 0, 1) := by decide +kernel
theorem dX6_readLetters_104 : decode cX6_readLetters 104 = .ok (.aload_n 0, 1) := by decide +kernel
theorem dX6_readLetters_105 : decode cX6_readLetters 105 = .ok (.getfield 61, 3) := by decide +kernel
theorem dX6_readLetters_108 : decode cX6_readLetters 108 = .ok (.aload_n 0, 1) := by decide +kernel
theorem dX6_readLetters_109 : decode cX6_readLetters 109 = .ok (.getfield 71, 3) := by decide +kernel
theorem dX6_readLetters_112 : decode cX6_readLetters 112 = .ok (.isub, 1) := by decide +kernel
theorem dX6_readLetters_113 : decode cX6_readLetters 113 = .ok (.iconst 1, 1) := by decide +kernel
theorem dX6_readLetters_114 : decode cX6_readLetters 114 = .ok (.if_icmp .ne 11, 3) := by decide +kernel
theorem dX6_readLetters_117 : decode cX6_readLetters 117 = .ok (.iload_n 1, 1) := by decide +kernel
theorem dX6_readLetters_118 : decode cX6_readLetters 118 = .ok (.ifCond .eq 7, 3) := by decide +kernel
theorem dX6_readLetters_121 : decode cX6_readLetters 121 = .ok (.iconst 1, 1) := by decide +kernel
theorem dX6_readLetters_122 : decode cX6_readLetters 122 = .ok (.goto 4, 3) := by decide +kernel
theorem dX6_readLetters_125 : decode cX6_readLetters 125 = .ok (.iconst 4, 1) := by decide +kernel
theorem dX6_readLetters_126 : decode cX6_readLetters 126 = .ok (.putfield 74, 3) := by decide +kernel
theorem dX6_readLetters_129 : decode cX6_readLetters 129 = .ok (.return_, 1) := by decide +kernel
theorem dX6_readNumber_0 : decode cX6_readNumber 0 = .ok (.iconst 0, 1) := by decide +kernel
theorem dX6_readNumber_1 : decode cX6_readNumber 1 = .ok (.istore_n 1, 1) := by decide +kernel
theorem dX6_readNumber_2 : decode cX6_readNumber 2 = .ok (.aload_n 0, 1) := by decide +kernel
theorem dX6_readNumber_3 : decode cX6_readNumber 3 = .ok (.getfield 61, 3) := by decide +kernel
theorem dX6_readNumber_6 : decode cX6_readNumber 6 = .ok (.aload_n 0, 1) := by decide +kernel
theorem dX6_readNumber_7 : decode cX6_readNumber 7 = .ok (.getfield 49, 3) := by decide +kernel
theorem dX6_readNumber_10 : decode cX6_readNumber 10 = .ok (.if_icmp .ge 59, 3) := by decide +kernel
theorem dX6_readNumber_13 : decode cX6_readNumber 13 = .ok (.aload_n 0, 1) := by decide +kernel
theorem dX6_readNumber_14 : decode cX6_readNumber 14 = .ok (.getfield 7, 3) := by decide +kernel
theorem dX6_readNumber_17 : decode cX6_readNumber 17 = .ok (.aload_n 0, 1) := by decide +kernel
theorem dX6_readNumber_18 : decode cX6_readNumber 18 = .ok (.getfield 61, 3) := by decide +kernel
theorem dX6_readNumber_21 : decode cX6_readNumber 21 = .ok (.iaload, 1) := by decide +kernel
theorem dX6_readNumber_22 : decode cX6_readNumber 22 = .ok (.invokestatic 77, 3) := by decide +kernel
theorem dX6_readNumber_25 : decode cX6_readNumber 25 = .ok (.ifCond .eq 44, 3) := by decide +kernel
theorem dX6_readNumber_28 : decode cX6_readNumber 28 = .ok (.iload_n 1, 1) := by decide +kernel
theorem dX6_readNumber_29 : decode cX6_readNumber 29 = .ok (.bipush 99, 2) := by decide +kernel
theorem dX6_readNumber_31 : decode cX6_readNumber 31 = .ok (.if_icmp .le 7, 3) := by decide +kernel
theorem dX6_readNumber_34 : decode cX6_readNumber 34 = .ok (.iload_n 1, 1) := by decide +kernel
theorem dX6_readNumber_35 : decode cX6_readNumber 35 = .ok (.goto 20, 3) := by decide +kernel
theorem dX6_readNumber_38 : decode cX6_readNumber 38 = .ok (.bipush 10, 2) := by decide +kernel
theorem dX6_readNumber_40 : decode cX6_readNumber 40 = .ok (.iload_n 1, 1) := by decide +kernel
theorem dX6_readNumber_41 : decode cX6_readNumber 41 = .ok (.imul, 1) := by decide +kernel
theorem dX6_readNumber_42 : decode cX6_readNumber 42 = .ok (.aload_n 0, 1) := by decide +kernel
theorem dX6_readNumber_43 : decode cX6_readNumber 43 = .ok (.getfield 7, 3) := by decide +kernel
theorem dX6_readNumber_46 : decode cX6_readNumber 46 = .ok (.aload_n 0, 1) := by decide +kernel
theorem dX6_readNumber_47 : decode cX6_readNumber 47 = .ok (.getfield 61, 3) := by decide +kernel
theorem dX6_readNumber_50 : decode cX6_readNumber 50 = .ok (.iaload, 1) := by decide +kernel
theorem dX6_readNumber_51 : decode cX6_readNumber 51 = .ok (.iadd, 1) := by decide +kernel
theorem dX6_readNumber_52 : decode cX6_readNumber 52 = .ok (.bipush 48, 2) := by decide +kernel
theorem dX6_readNumber_54 : decode cX6_readNumber 54 = .ok (.isub, 1) := by decide +kernel
theorem dX6_readNumber_55 : decode cX6_readNumber 55 = .ok (.istore_n 1, 1) := by decide +kernel
theorem dX6_readNumber_56 : decode cX6_readNumber 56 = .ok (.aload_n 0, 1) := by decide +kernel
theorem dX6_readNumber_57 : decode cX6_readNumber 57 = .ok (.dup, 1) := by decide +kernel
theorem dX6_readNumber_58 : decode cX6_readNumber 58 = .ok (.getfield 61, 3) := by decide +kernel
theorem dX6_readNumber_61 : decode cX6_readNumber 61 = .ok (.iconst 1, 1) := by decide +kernel
theorem dX6_readNumber_62 : decode cX6_readNumber 62 = .ok (.iadd, 1) := by decide +kernel
theorem dX6_readNumber_63 : decode cX6_readNumber 63 = .ok (.putfield 61, 3) := by decide +kernel
theorem dX6_readNumber_66 : decode cX6_readNumber 66 = .ok (.goto (-64), 3) := by decide +kernel
theorem dX6_readNumber_69 : decode cX6_readNumber 69 = .ok (.aload_n 0, 1) := by decide +kernel
theorem dX6_readNumber_70 : decode cX6_readNumber 70 = .ok (.iload_n 1, 1) := by decide +kernel
theorem dX6_readNumber_71 : decode cX6_readNumber 71 = .ok (.bipush 99, 2) := by decide +kernel
theorem dX6_readNumber_73 : decode cX6_readNumber 73 = .ok (.if_icmp .gt 30, 3) := by decide +kernel
theorem dX6_readNumber_76 : decode cX6_readNumber 76 = .ok (.aload_n 0, 1) := by decide +kernel
theorem dX6_readNumber_77 : decode cX6_readNumber 77 = .ok (.getfield 61, 3) := by decide +kernel
theorem dX6_readNumber_80 : decode cX6_readNumber 80 = .ok (.aload_n 0, 1) := by decide +kernel
theorem dX6_readNumber_81 : decode cX6_readNumber 81 = .ok (.getfield 71, 3) := by decide +kernel
theorem dX6_readNumber_84 : decode cX6_readNumber 84 = .ok (.isub, 1) := by decide +kernel
theorem dX6_readNumber_85 : decode cX6_readNumber 85 = .ok (.iconst 1, 1) := by decide +kernel
theorem dX6_readNumber_86 : decode cX6_readNumber 86 = .ok (.if_icmp .le 21, 3) := by decide +kernel
theorem dX6_readNumber_89 : decode cX6_readNumber 89 = .ok (.aload_n 0, 1) := by decide +kernel
theorem dX6_readNumber_90 : decode cX6_readNumber 90 = .ok (.getfield 7, 3) := by decide +kernel
theorem dX6_readNumber_93 : decode cX6_readNumber 93 = .ok (.aload_n 0, 1) := by decide +kernel
theorem dX6_readNumber_94 : decode cX6_readNumber 94 = .ok (.getfield 71, 3) := by decide +kernel
theorem dX6_readNumber_97 : decode cX6_readNumber 97 = .ok (.iaload, 1) := by decide +kernel
theorem dX6_readNumber_98 : decode cX6_readNumber 98 = .ok (.bipush 48, 2) := by decide +kernel
theorem dX6_readNumber_100 : decode cX6_readNumber 100 = .ok (.if_icmp .ne 7, 3) := by decide +kernel
theorem dX6_readNumber_103 : decode cX6_readNumber 103 = .ok (.iconst 4, 1) := by decide +kernel
theorem dX6_readNumber_104 : decode cX6_readNumber 104 = .ok (.goto 4, 3) := by decide +kernel
theorem dX6_readNumber_107 : decode cX6_readNumber 107 = .ok (.iconst 2, 1) := by decide +kernel
theorem dX6_readNumber_108 : decode cX6_readNumber 108 = .ok (.putfield 74, 3) := by decide +kernel
theorem dX6_readNumber_111 : decode cX6_readNumber 111 = .ok (.aload_n 0, 1) := by decide +kernel
theorem dX6_readNumber_112 : decode cX6_readNumber 112 = .ok (.iload_n 1, 1) := by decide +kernel
theorem dX6_readNumber_113 : decode cX6_readNumber 113 = .ok (.putfield 64, 3) := by decide +kernel
theorem dX6_readNumber_116 : decode cX6_readNumber 116 = .ok (.return_, 1) := by decide +kernel
theorem dX6_reads_0 : decode cX6_reads 0 = .ok (.aload_n 0, 1) := by decide +kernel
theorem dX6_reads_1 : decode cX6_reads 1 = .ok (.getfield 61, 3) := by decide +kernel
theorem dX6_reads_4 : decode cX6_reads 4 = .ok (.aload_n 0, 1) := by decide +kernel
theorem dX6_reads_5 : decode cX6_reads 5 = .ok (.getfield 49, 3) := by decide +kernel
theorem dX6_reads_8 : decode cX6_reads 8 = .ok (.if_icmp .ge 30, 3) := by decide +kernel
theorem dX6_reads_11 : decode cX6_reads 11 = .ok (.aload_n 0, 1) := by decide +kernel
theorem dX6_reads_12 : decode cX6_reads 12 = .ok (.getfield 7, 3) := by decide +kernel
theorem dX6_reads_15 : decode cX6_reads 15 = .ok (.aload_n 0, 1) := by decide +kernel
theorem dX6_reads_16 : decode cX6_reads 16 = .ok (.getfield 61, 3) := by decide +kernel
theorem dX6_reads_19 : decode cX6_reads 19 = .ok (.iaload, 1) := by decide +kernel
theorem dX6_reads_20 : decode cX6_reads 20 = .ok (.bipush 32, 2) := by decide +kernel
theorem dX6_reads_22 : decode cX6_reads 22 = .ok (.if_icmp .ne 16, 3) := by decide +kernel
theorem dX6_reads_25 : decode cX6_reads 25 = .ok (.aload_n 0, 1) := by decide +kernel
theorem dX6_reads_26 : decode cX6_reads 26 = .ok (.dup, 1) := by decide +kernel
theorem dX6_reads_27 : decode cX6_reads 27 = .ok (.getfield 61, 3) := by decide +kernel
theorem dX6_reads_30 : decode cX6_reads 30 = .ok (.iconst 1, 1) := by decide +kernel
theorem dX6_reads_31 : decode cX6_reads 31 = .ok (.iadd, 1) := by decide +kernel
theorem dX6_reads_32 : decode cX6_reads 32 = .ok (.putfield 61, 3) := by decide +kernel
theorem dX6_reads_35 : decode cX6_reads 35 = .ok (.goto (-35), 3) := by decide +kernel
theorem dX6_reads_38 : decode cX6_reads 38 = .ok (.aload_n 0, 1) := by decide +kernel
theorem dX6_reads_39 : decode cX6_reads 39 = .ok (.aload_n 0, 1) := by decide +kernel
theorem dX6_reads_40 : decode cX6_reads 40 = .ok (.getfield 61, 3) := by decide +kernel
theorem dX6_reads_43 : decode cX6_reads 43 = .ok (.putfield 71, 3) := by decide +kernel
theorem dX6_reads_46 : decode cX6_reads 46 = .ok (.aload_n 0, 1) := by decide +kernel
theorem dX6_reads_47 : decode cX6_reads 47 = .ok (.getfield 61, 3) := by decide +kernel
theorem dX6_reads_50 : decode cX6_reads 50 = .ok (.aload_n 0, 1) := by decide +kernel
theorem dX6_reads_51 : decode cX6_reads 51 = .ok (.getfield 49, 3) := by decide +kernel
theorem dX6_reads_54 : decode cX6_reads 54 = .ok (.if_icmp .ne 11, 3) := by decide +kernel
theorem dX6_reads_57 : decode cX6_reads 57 = .ok (.aload_n 0, 1) := by decide +kernel
theorem dX6_reads_58 : decode cX6_reads 58 = .ok (.iconst 0, 1) := by decide +kernel
theorem dX6_reads_59 : decode cX6_reads 59 = .ok (.putfield 74, 3) := by decide +kernel
theorem dX6_reads_62 : decode cX6_reads 62 = .ok (.goto 80, 3) := by decide +kernel
theorem dX6_reads_65 : decode cX6_reads 65 = .ok (.aload_n 0, 1) := by decide +kernel
theorem dX6_reads_66 : decode cX6_reads 66 = .ok (.getfield 7, 3) := by decide +kernel
theorem dX6_reads_69 : decode cX6_reads 69 = .ok (.aload_n 0, 1) := by decide +kernel
theorem dX6_reads_70 : decode cX6_reads 70 = .ok (.getfield 61, 3) := by decide +kernel
theorem dX6_reads_73 : decode cX6_reads 73 = .ok (.iaload, 1) := by decide +kernel
theorem dX6_reads_74 : decode cX6_reads 74 = .ok (.invokestatic 67, 3) := by decide +kernel
theorem dX6_reads_77 : decode cX6_reads 77 = .ok (.ifCond .eq 10, 3) := by decide +kernel
theorem dX6_reads_80 : decode cX6_reads 80 = .ok (.aload_n 0, 1) := by decide +kernel
theorem dX6_reads_81 : decode cX6_reads 81 = .ok (.invokevirtual 80, 3) := by decide +kernel
theorem dX6_reads_84 : decode cX6_reads 84 = .ok (.goto 58, 3) := by decide +kernel
theorem dX6_reads_87 : decode cX6_reads 87 = .ok (.aload_n 0, 1) := by decide +kernel
theorem dX6_reads_88 : decode cX6_reads 88 = .ok (.getfield 7, 3) := by decide +kernel
theorem dX6_reads_91 : decode cX6_reads 91 = .ok (.aload_n 0, 1) := by decide +kernel
theorem dX6_reads_92 : decode cX6_reads 92 = .ok (.getfield 61, 3) := by decide +kernel
theorem dX6_reads_95 : decode cX6_reads 95 = .ok (.iaload, 1) := by decide +kernel
theorem dX6_reads_96 : decode cX6_reads 96 = .ok (.invokestatic 77, 3) := by decide +kernel
theorem dX6_reads_99 : decode cX6_reads 99 = .ok (.ifCond .eq 10, 3) := by decide +kernel
theorem dX6_reads_102 : decode cX6_reads 102 = .ok (.aload_n 0, 1) := by decide +kernel
theorem dX6_reads_103 : decode cX6_reads 103 = .ok (.invokevirtual 83, 3) := by decide +kernel
theorem dX6_reads_106 : decode cX6_reads 106 = .ok (.goto 36, 3) := by decide +kernel
theorem dX6_reads_109 : decode cX6_reads 109 = .ok (.aload_n 0, 1) := by decide +kernel
theorem dX6_reads_110 : decode cX6_reads 110 = .ok (.aload_n 0, 1) := by decide +kernel
theorem dX6_reads_111 : decode cX6_reads 111 = .ok (.getfield 7, 3) := by decide +kernel
theorem dX6_reads_114 : decode cX6_reads 114 = .ok (.aload_n 0, 1) := by decide +kernel
theorem dX6_reads_115 : decode cX6_reads 115 = .ok (.getfield 61, 3) := by decide +kernel
theorem dX6_reads_118 : decode cX6_reads 118 = .ok (.iaload, 1) := by decide +kernel
theorem dX6_reads_119 : decode cX6_reads 119 = .ok (.bipush 59, 2) := by decide +kernel
theorem dX6_reads_121 : decode cX6_reads 121 = .ok (.if_icmp .ne 7, 3) := by decide +kernel
theorem dX6_reads_124 : decode cX6_reads 124 = .ok (.iconst 3, 1) := by decide +kernel
theorem dX6_reads_125 : decode cX6_reads 125 = .ok (.goto 4, 3) := by decide +kernel
theorem dX6_reads_128 : decode cX6_reads 128 = .ok (.iconst 4, 1) := by decide +kernel
theorem dX6_reads_129 : decode cX6_reads 129 = .ok (.putfield 74, 3) := by decide +kernel
theorem dX6_reads_132 : decode cX6_reads 132 = .ok (.aload_n 0, 1) := by decide +kernel
theorem dX6_reads_133 : decode cX6_reads 133 = .ok (.dup, 1) := by decide +kernel
theorem dX6_reads_134 : decode cX6_reads 134 = .ok (.getfield 61, 3) := by decide +kernel
theorem dX6_reads_137 : decode cX6_reads 137 = .ok (.iconst 1, 1) := by decide +kernel
theorem dX6_reads_138 : decode cX6_reads 138 = .ok (.iadd, 1) := by decide +kernel
theorem dX6_reads_139 : decode cX6_reads 139 = .ok (.putfield 61, 3) := by decide +kernel
theorem dX6_reads_142 : decode cX6_reads 142 = .ok (.return_, 1) := by decide +kernel
theorem dX6_number_0 : decode cX6_number 0 = .ok (.aload_n 0, 1) := by decide +kernel
theorem dX6_number_1 : decode cX6_number 1 = .ok (.invokevirtual 86, 3) := by decide +kernel
theorem dX6_number_4 : decode cX6_number 4 = .ok (.aload_n 0, 1) := by decide +kernel
theorem dX6_number_5 : decode cX6_number 5 = .ok (.getfield 74, 3) := by decide +kernel
theorem dX6_number_8 : decode cX6_number 8 = .ok (.iconst 2, 1) := by decide +kernel
theorem dX6_number_9 : decode cX6_number 9 = .ok (.if_icmp .ne 22, 3) := by decide +kernel
theorem dX6_number_12 : decode cX6_number 12 = .ok (.aload_n 0, 1) := by decide +kernel
theorem dX6_number_13 : decode cX6_number 13 = .ok (.getfield 64, 3) := by decide +kernel
theorem dX6_number_16 : decode cX6_number 16 = .ok (.i2l, 1) := by decide +kernel
theorem dX6_number_17 : decode cX6_number 17 = .ok (.iload_n 1, 1) := by decide +kernel
theorem dX6_number_18 : decode cX6_number 18 = .ok (.i2l, 1) := by decide +kernel
theorem dX6_number_19 : decode cX6_number 19 = .ok (.iload_n 2, 1) := by decide +kernel
theorem dX6_number_20 : decode cX6_number 20 = .ok (.i2l, 1) := by decide +kernel
theorem dX6_number_21 : decode cX6_number 21 = .ok (.invokestatic 45, 3) := by decide +kernel
theorem dX6_number_24 : decode cX6_number 24 = .ok (.ifCond .eq 7, 3) := by decide +kernel
theorem dX6_number_27 : decode cX6_number 27 = .ok (.iconst 1, 1) := by decide +kernel
theorem dX6_number_28 : decode cX6_number 28 = .ok (.goto 4, 3) := by decide +kernel
theorem dX6_number_31 : decode cX6_number 31 = .ok (.iconst 0, 1) := by decide +kernel
theorem dX6_number_32 : decode cX6_number 32 = .ok (.ireturn, 1) := by decide +kernel
theorem dX6_itemEnds_0 : decode cX6_itemEnds 0 = .ok (.aload_n 0, 1) := by decide +kernel
theorem dX6_itemEnds_1 : decode cX6_itemEnds 1 = .ok (.invokevirtual 86, 3) := by decide +kernel
theorem dX6_itemEnds_4 : decode cX6_itemEnds 4 = .ok (.aload_n 0, 1) := by decide +kernel
theorem dX6_itemEnds_5 : decode cX6_itemEnds 5 = .ok (.getfield 74, 3) := by decide +kernel
theorem dX6_itemEnds_8 : decode cX6_itemEnds 8 = .ok (.iconst 3, 1) := by decide +kernel
theorem dX6_itemEnds_9 : decode cX6_itemEnds 9 = .ok (.if_icmp .ne 7, 3) := by decide +kernel
theorem dX6_itemEnds_12 : decode cX6_itemEnds 12 = .ok (.iconst 1, 1) := by decide +kernel
theorem dX6_itemEnds_13 : decode cX6_itemEnds 13 = .ok (.goto 4, 3) := by decide +kernel
theorem dX6_itemEnds_16 : decode cX6_itemEnds 16 = .ok (.iconst 0, 1) := by decide +kernel
theorem dX6_itemEnds_17 : decode cX6_itemEnds 17 = .ok (.ireturn, 1) := by decide +kernel
theorem dX6_plain_0 : decode cX6_plain 0 = .ok (.iconst 0, 1) := by decide +kernel
theorem dX6_plain_1 : decode cX6_plain 1 = .ok (.istore_n 1, 1) := by decide +kernel
theorem dX6_plain_2 : decode cX6_plain 2 = .ok (.iload_n 1, 1) := by decide +kernel
theorem dX6_plain_3 : decode cX6_plain 3 = .ok (.bipush 79, 2) := by decide +kernel
theorem dX6_plain_5 : decode cX6_plain 5 = .ok (.if_icmp .ge 16, 3) := by decide +kernel
theorem dX6_plain_8 : decode cX6_plain 8 = .ok (.aload_n 0, 1) := by decide +kernel
theorem dX6_plain_9 : decode cX6_plain 9 = .ok (.getfield 13, 3) := by decide +kernel
theorem dX6_plain_12 : decode cX6_plain 12 = .ok (.iload_n 1, 1) := by decide +kernel
theorem dX6_plain_13 : decode cX6_plain 13 = .ok (.iconst 0, 1) := by decide +kernel
theorem dX6_plain_14 : decode cX6_plain 14 = .ok (.iastore, 1) := by decide +kernel
theorem dX6_plain_15 : decode cX6_plain 15 = .ok (.iinc 1 1, 3) := by decide +kernel
theorem dX6_plain_18 : decode cX6_plain 18 = .ok (.goto (-16), 3) := by decide +kernel
theorem dX6_plain_21 : decode cX6_plain 21 = .ok (.aload_n 0, 1) := by decide +kernel
theorem dX6_plain_22 : decode cX6_plain 22 = .ok (.getfield 13, 3) := by decide +kernel
theorem dX6_plain_25 : decode cX6_plain 25 = .ok (.iconst 3, 1) := by decide +kernel
theorem dX6_plain_26 : decode cX6_plain 26 = .ok (.iconst 2, 1) := by decide +kernel
theorem dX6_plain_27 : decode cX6_plain 27 = .ok (.iastore, 1) := by decide +kernel
theorem dX6_plain_28 : decode cX6_plain 28 = .ok (.aload_n 0, 1) := by decide +kernel
theorem dX6_plain_29 : decode cX6_plain 29 = .ok (.getfield 13, 3) := by decide +kernel
theorem dX6_plain_32 : decode cX6_plain 32 = .ok (.iconst 4, 1) := by decide +kernel
theorem dX6_plain_33 : decode cX6_plain 33 = .ok (.iconst 3, 1) := by decide +kernel
theorem dX6_plain_34 : decode cX6_plain 34 = .ok (.iastore, 1) := by decide +kernel
theorem dX6_plain_35 : decode cX6_plain 35 = .ok (.aload_n 0, 1) := by decide +kernel
theorem dX6_plain_36 : decode cX6_plain 36 = .ok (.getfield 13, 3) := by decide +kernel
theorem dX6_plain_39 : decode cX6_plain 39 = .ok (.iconst 5, 1) := by decide +kernel
theorem dX6_plain_40 : decode cX6_plain 40 = .ok (.bipush 9, 2) := by decide +kernel
theorem dX6_plain_42 : decode cX6_plain 42 = .ok (.iastore, 1) := by decide +kernel
theorem dX6_plain_43 : decode cX6_plain 43 = .ok (.return_, 1) := by decide +kernel
theorem dX6_readSeason_0 : decode cX6_readSeason 0 = .ok (.bipush 30, 2) := by decide +kernel
theorem dX6_readSeason_2 : decode cX6_readSeason 2 = .ok (.aload_n 0, 1) := by decide +kernel
theorem dX6_readSeason_3 : decode cX6_readSeason 3 = .ok (.getfield 13, 3) := by decide +kernel
theorem dX6_readSeason_6 : decode cX6_readSeason 6 = .ok (.iconst 0, 1) := by decide +kernel
theorem dX6_readSeason_7 : decode cX6_readSeason 7 = .ok (.iaload, 1) := by decide +kernel
theorem dX6_readSeason_8 : decode cX6_readSeason 8 = .ok (.isub, 1) := by decide +kernel
theorem dX6_readSeason_9 : decode cX6_readSeason 9 = .ok (.istore_n 1, 1) := by decide +kernel
theorem dX6_readSeason_10 : decode cX6_readSeason 10 = .ok (.aload_n 0, 1) := by decide +kernel
theorem dX6_readSeason_11 : decode cX6_readSeason 11 = .ok (.getfield 13, 3) := by decide +kernel
theorem dX6_readSeason_14 : decode cX6_readSeason 14 = .ok (.iconst 1, 1) := by decide +kernel
theorem dX6_readSeason_15 : decode cX6_readSeason 15 = .ok (.iaload, 1) := by decide +kernel
theorem dX6_readSeason_16 : decode cX6_readSeason 16 = .ok (.iconst 5, 1) := by decide +kernel
theorem dX6_readSeason_17 : decode cX6_readSeason 17 = .ok (.if_icmp .eq 23, 3) := by decide +kernel
theorem dX6_readSeason_20 : decode cX6_readSeason 20 = .ok (.aload_n 0, 1) := by decide +kernel
theorem dX6_readSeason_21 : decode cX6_readSeason 21 = .ok (.iconst 1, 1) := by decide +kernel
theorem dX6_readSeason_22 : decode cX6_readSeason 22 = .ok (.iload_n 1, 1) := by decide +kernel
theorem dX6_readSeason_23 : decode cX6_readSeason 23 = .ok (.bipush 9, 2) := by decide +kernel
theorem dX6_readSeason_25 : decode cX6_readSeason 25 = .ok (.if_icmp .ge 7, 3) := by decide +kernel
theorem dX6_readSeason_28 : decode cX6_readSeason 28 = .ok (.iload_n 1, 1) := by decide +kernel
theorem dX6_readSeason_29 : decode cX6_readSeason 29 = .ok (.goto 5, 3) := by decide +kernel
theorem dX6_readSeason_32 : decode cX6_readSeason 32 = .ok (.bipush 9, 2) := by decide +kernel
theorem dX6_readSeason_34 : decode cX6_readSeason 34 = .ok (.invokevirtual 89, 3) := by decide +kernel
theorem dX6_readSeason_37 : decode cX6_readSeason 37 = .ok (.ifCond .ne 5, 3) := by decide +kernel
theorem dX6_readSeason_40 : decode cX6_readSeason 40 = .ok (.iconst 0, 1) := by decide +kernel
theorem dX6_readSeason_41 : decode cX6_readSeason 41 = .ok (.ireturn, 1) := by decide +kernel
theorem dX6_readSeason_42 : decode cX6_readSeason 42 = .ok (.aload_n 0, 1) := by decide +kernel
theorem dX6_readSeason_43 : decode cX6_readSeason 43 = .ok (.getfield 64, 3) := by decide +kernel
theorem dX6_readSeason_46 : decode cX6_readSeason 46 = .ok (.istore_n 2, 1) := by decide +kernel
theorem dX6_readSeason_47 : decode cX6_readSeason 47 = .ok (.aload_n 0, 1) := by decide +kernel
theorem dX6_readSeason_48 : decode cX6_readSeason 48 = .ok (.iconst 0, 1) := by decide +kernel
theorem dX6_readSeason_49 : decode cX6_readSeason 49 = .ok (.bipush 9, 2) := by decide +kernel
theorem dX6_readSeason_51 : decode cX6_readSeason 51 = .ok (.invokevirtual 89, 3) := by decide +kernel
theorem dX6_readSeason_54 : decode cX6_readSeason 54 = .ok (.ifCond .ne 5, 3) := by decide +kernel
theorem dX6_readSeason_57 : decode cX6_readSeason 57 = .ok (.iconst 0, 1) := by decide +kernel
theorem dX6_readSeason_58 : decode cX6_readSeason 58 = .ok (.ireturn, 1) := by decide +kernel
theorem dX6_readSeason_59 : decode cX6_readSeason 59 = .ok (.iconst 0, 1) := by decide +kernel
theorem dX6_readSeason_60 : decode cX6_readSeason 60 = .ok (.istore_n 3, 1) := by decide +kernel
theorem dX6_readSeason_61 : decode cX6_readSeason 61 = .ok (.iload_n 3, 1) := by decide +kernel
theorem dX6_readSeason_62 : decode cX6_readSeason 62 = .ok (.iload_n 2, 1) := by decide +kernel
theorem dX6_readSeason_63 : decode cX6_readSeason 63 = .ok (.if_icmp .ge 57, 3) := by decide +kernel
theorem dX6_readSeason_66 : decode cX6_readSeason 66 = .ok (.aload_n 0, 1) := by decide +kernel
theorem dX6_readSeason_67 : decode cX6_readSeason 67 = .ok (.getfield 13, 3) := by decide +kernel
theorem dX6_readSeason_70 : decode cX6_readSeason 70 = .ok (.bipush 7, 2) := by decide +kernel
theorem dX6_readSeason_72 : decode cX6_readSeason 72 = .ok (.aload_n 0, 1) := by decide +kernel
theorem dX6_readSeason_73 : decode cX6_readSeason 73 = .ok (.getfield 13, 3) := by decide +kernel
theorem dX6_readSeason_76 : decode cX6_readSeason 76 = .ok (.iconst 0, 1) := by decide +kernel
theorem dX6_readSeason_77 : decode cX6_readSeason 77 = .ok (.iaload, 1) := by decide +kernel
theorem dX6_readSeason_78 : decode cX6_readSeason 78 = .ok (.iadd, 1) := by decide +kernel
theorem dX6_readSeason_79 : decode cX6_readSeason 79 = .ok (.aload_n 0, 1) := by decide +kernel
theorem dX6_readSeason_80 : decode cX6_readSeason 80 = .ok (.getfield 64, 3) := by decide +kernel
theorem dX6_readSeason_83 : decode cX6_readSeason 83 = .ok (.iastore, 1) := by decide +kernel
theorem dX6_readSeason_84 : decode cX6_readSeason 84 = .ok (.aload_n 0, 1) := by decide +kernel
theorem dX6_readSeason_85 : decode cX6_readSeason 85 = .ok (.getfield 13, 3) := by decide +kernel
theorem dX6_readSeason_88 : decode cX6_readSeason 88 = .ok (.bipush 37, 2) := by decide +kernel
theorem dX6_readSeason_90 : decode cX6_readSeason 90 = .ok (.aload_n 0, 1) := by decide +kernel
theorem dX6_readSeason_91 : decode cX6_readSeason 91 = .ok (.getfield 13, 3) := by decide +kernel
theorem dX6_readSeason_94 : decode cX6_readSeason 94 = .ok (.iconst 0, 1) := by decide +kernel
theorem dX6_readSeason_95 : decode cX6_readSeason 95 = .ok (.iaload, 1) := by decide +kernel
theorem dX6_readSeason_96 : decode cX6_readSeason 96 = .ok (.iadd, 1) := by decide +kernel
theorem dX6_readSeason_97 : decode cX6_readSeason 97 = .ok (.aload_n 0, 1) := by decide +kernel
theorem dX6_readSeason_98 : decode cX6_readSeason 98 = .ok (.getfield 13, 3) := by decide +kernel
theorem dX6_readSeason_101 : decode cX6_readSeason 101 = .ok (.iconst 1, 1) := by decide +kernel
theorem dX6_readSeason_102 : decode cX6_readSeason 102 = .ok (.iaload, 1) := by decide +kernel
theorem dX6_readSeason_103 : decode cX6_readSeason 103 = .ok (.iastore, 1) := by decide +kernel
theorem dX6_readSeason_104 : decode cX6_readSeason 104 = .ok (.aload_n 0, 1) := by decide +kernel
theorem dX6_readSeason_105 : decode cX6_readSeason 105 = .ok (.getfield 13, 3) := by decide +kernel
theorem dX6_readSeason_108 : decode cX6_readSeason 108 = .ok (.iconst 0, 1) := by decide +kernel
theorem dX6_readSeason_109 : decode cX6_readSeason 109 = .ok (.dup2, 1) := by decide +kernel
theorem dX6_readSeason_110 : decode cX6_readSeason 110 = .ok (.iaload, 1) := by decide +kernel
theorem dX6_readSeason_111 : decode cX6_readSeason 111 = .ok (.iconst 1, 1) := by decide +kernel
theorem dX6_readSeason_112 : decode cX6_readSeason 112 = .ok (.iadd, 1) := by decide +kernel
theorem dX6_readSeason_113 : decode cX6_readSeason 113 = .ok (.iastore, 1) := by decide +kernel
theorem dX6_readSeason_114 : decode cX6_readSeason 114 = .ok (.iinc 3 1, 3) := by decide +kernel
theorem dX6_readSeason_117 : decode cX6_readSeason 117 = .ok (.goto (-56), 3) := by decide +kernel
theorem dX6_readSeason_120 : decode cX6_readSeason 120 = .ok (.aload_n 0, 1) := by decide +kernel
theorem dX6_readSeason_121 : decode cX6_readSeason 121 = .ok (.getfield 13, 3) := by decide +kernel
theorem dX6_readSeason_124 : decode cX6_readSeason 124 = .ok (.iconst 1, 1) := by decide +kernel
theorem dX6_readSeason_125 : decode cX6_readSeason 125 = .ok (.dup2, 1) := by decide +kernel
theorem dX6_readSeason_126 : decode cX6_readSeason 126 = .ok (.iaload, 1) := by decide +kernel
theorem dX6_readSeason_127 : decode cX6_readSeason 127 = .ok (.iconst 1, 1) := by decide +kernel
theorem dX6_readSeason_128 : decode cX6_readSeason 128 = .ok (.iadd, 1) := by decide +kernel
theorem dX6_readSeason_129 : decode cX6_readSeason 129 = .ok (.iastore, 1) := by decide +kernel
theorem dX6_readSeason_130 : decode cX6_readSeason 130 = .ok (.aload_n 0, 1) := by decide +kernel
theorem dX6_readSeason_131 : decode cX6_readSeason 131 = .ok (.invokevirtual 93, 3) := by decide +kernel
theorem dX6_readSeason_134 : decode cX6_readSeason 134 = .ok (.ireturn, 1) := by decide +kernel
theorem dX6_readCrop_0 : decode cX6_readCrop 0 = .ok (.bipush 67, 2) := by decide +kernel
theorem dX6_readCrop_2 : decode cX6_readCrop 2 = .ok (.iconst 3, 1) := by decide +kernel
theorem dX6_readCrop_3 : decode cX6_readCrop 3 = .ok (.aload_n 0, 1) := by decide +kernel
theorem dX6_readCrop_4 : decode cX6_readCrop 4 = .ok (.getfield 13, 3) := by decide +kernel
theorem dX6_readCrop_7 : decode cX6_readCrop 7 = .ok (.iconst 2, 1) := by decide +kernel
theorem dX6_readCrop_8 : decode cX6_readCrop 8 = .ok (.iaload, 1) := by decide +kernel
theorem dX6_readCrop_9 : decode cX6_readCrop 9 = .ok (.imul, 1) := by decide +kernel
theorem dX6_readCrop_10 : decode cX6_readCrop 10 = .ok (.iadd, 1) := by decide +kernel
theorem dX6_readCrop_11 : decode cX6_readCrop 11 = .ok (.istore_n 1, 1) := by decide +kernel
theorem dX6_readCrop_12 : decode cX6_readCrop 12 = .ok (.aload_n 0, 1) := by decide +kernel
theorem dX6_readCrop_13 : decode cX6_readCrop 13 = .ok (.getfield 13, 3) := by decide +kernel
theorem dX6_readCrop_16 : decode cX6_readCrop 16 = .ok (.iconst 2, 1) := by decide +kernel
theorem dX6_readCrop_17 : decode cX6_readCrop 17 = .ok (.iaload, 1) := by decide +kernel
theorem dX6_readCrop_18 : decode cX6_readCrop 18 = .ok (.iconst 4, 1) := by decide +kernel
theorem dX6_readCrop_19 : decode cX6_readCrop 19 = .ok (.if_icmp .eq 13, 3) := by decide +kernel
theorem dX6_readCrop_22 : decode cX6_readCrop 22 = .ok (.aload_n 0, 1) := by decide +kernel
theorem dX6_readCrop_23 : decode cX6_readCrop 23 = .ok (.iconst 1, 1) := by decide +kernel
theorem dX6_readCrop_24 : decode cX6_readCrop 24 = .ok (.bipush 9, 2) := by decide +kernel
theorem dX6_readCrop_26 : decode cX6_readCrop 26 = .ok (.invokevirtual 89, 3) := by decide +kernel
theorem dX6_readCrop_29 : decode cX6_readCrop 29 = .ok (.ifCond .ne 5, 3) := by decide +kernel
theorem dX6_readCrop_32 : decode cX6_readCrop 32 = .ok (.iconst 0, 1) := by decide +kernel
theorem dX6_readCrop_33 : decode cX6_readCrop 33 = .ok (.ireturn, 1) := by decide +kernel
theorem dX6_readCrop_34 : decode cX6_readCrop 34 = .ok (.aload_n 0, 1) := by decide +kernel
theorem dX6_readCrop_35 : decode cX6_readCrop 35 = .ok (.getfield 13, 3) := by decide +kernel
theorem dX6_readCrop_38 : decode cX6_readCrop 38 = .ok (.iload_n 1, 1) := by decide +kernel
theorem dX6_readCrop_39 : decode cX6_readCrop 39 = .ok (.aload_n 0, 1) := by decide +kernel
theorem dX6_readCrop_40 : decode cX6_readCrop 40 = .ok (.getfield 64, 3) := by decide +kernel
theorem dX6_readCrop_43 : decode cX6_readCrop 43 = .ok (.iastore, 1) := by decide +kernel
theorem dX6_readCrop_44 : decode cX6_readCrop 44 = .ok (.aload_n 0, 1) := by decide +kernel
theorem dX6_readCrop_45 : decode cX6_readCrop 45 = .ok (.iconst 0, 1) := by decide +kernel
theorem dX6_readCrop_46 : decode cX6_readCrop 46 = .ok (.bipush 9, 2) := by decide +kernel
theorem dX6_readCrop_48 : decode cX6_readCrop 48 = .ok (.invokevirtual 89, 3) := by decide +kernel
theorem dX6_readCrop_51 : decode cX6_readCrop 51 = .ok (.ifCond .ne 5, 3) := by decide +kernel
theorem dX6_readCrop_54 : decode cX6_readCrop 54 = .ok (.iconst 0, 1) := by decide +kernel
theorem dX6_readCrop_55 : decode cX6_readCrop 55 = .ok (.ireturn, 1) := by decide +kernel
theorem dX6_readCrop_56 : decode cX6_readCrop 56 = .ok (.aload_n 0, 1) := by decide +kernel
theorem dX6_readCrop_57 : decode cX6_readCrop 57 = .ok (.getfield 13, 3) := by decide +kernel
theorem dX6_readCrop_60 : decode cX6_readCrop 60 = .ok (.iload_n 1, 1) := by decide +kernel
theorem dX6_readCrop_61 : decode cX6_readCrop 61 = .ok (.iconst 1, 1) := by decide +kernel
theorem dX6_readCrop_62 : decode cX6_readCrop 62 = .ok (.iadd, 1) := by decide +kernel
theorem dX6_readCrop_63 : decode cX6_readCrop 63 = .ok (.aload_n 0, 1) := by decide +kernel
theorem dX6_readCrop_64 : decode cX6_readCrop 64 = .ok (.getfield 64, 3) := by decide +kernel
theorem dX6_readCrop_67 : decode cX6_readCrop 67 = .ok (.iastore, 1) := by decide +kernel
theorem dX6_readCrop_68 : decode cX6_readCrop 68 = .ok (.aload_n 0, 1) := by decide +kernel
theorem dX6_readCrop_69 : decode cX6_readCrop 69 = .ok (.iconst 0, 1) := by decide +kernel
theorem dX6_readCrop_70 : decode cX6_readCrop 70 = .ok (.bipush 99, 2) := by decide +kernel
theorem dX6_readCrop_72 : decode cX6_readCrop 72 = .ok (.invokevirtual 89, 3) := by decide +kernel
theorem dX6_readCrop_75 : decode cX6_readCrop 75 = .ok (.ifCond .ne 5, 3) := by decide +kernel
theorem dX6_readCrop_78 : decode cX6_readCrop 78 = .ok (.iconst 0, 1) := by decide +kernel
theorem dX6_readCrop_79 : decode cX6_readCrop 79 = .ok (.ireturn, 1) := by decide +kernel
theorem dX6_readCrop_80 : decode cX6_readCrop 80 = .ok (.aload_n 0, 1) := by decide +kernel
theorem dX6_readCrop_81 : decode cX6_readCrop 81 = .ok (.getfield 13, 3) := by decide +kernel
theorem dX6_readCrop_84 : decode cX6_readCrop 84 = .ok (.iload_n 1, 1) := by decide +kernel
theorem dX6_readCrop_85 : decode cX6_readCrop 85 = .ok (.iconst 2, 1) := by decide +kernel
theorem dX6_readCrop_86 : decode cX6_readCrop 86 = .ok (.iadd, 1) := by decide +kernel
theorem dX6_readCrop_87 : decode cX6_readCrop 87 = .ok (.aload_n 0, 1) := by decide +kernel
theorem dX6_readCrop_88 : decode cX6_readCrop 88 = .ok (.getfield 64, 3) := by decide +kernel
theorem dX6_readCrop_91 : decode cX6_readCrop 91 = .ok (.iastore, 1) := by decide +kernel
theorem dX6_readCrop_92 : decode cX6_readCrop 92 = .ok (.aload_n 0, 1) := by decide +kernel
theorem dX6_readCrop_93 : decode cX6_readCrop 93 = .ok (.getfield 13, 3) := by decide +kernel
theorem dX6_readCrop_96 : decode cX6_readCrop 96 = .ok (.iconst 2, 1) := by decide +kernel
theorem dX6_readCrop_97 : decode cX6_readCrop 97 = .ok (.dup2, 1) := by decide +kernel
theorem dX6_readCrop_98 : decode cX6_readCrop 98 = .ok (.iaload, 1) := by decide +kernel
theorem dX6_readCrop_99 : decode cX6_readCrop 99 = .ok (.iconst 1, 1) := by decide +kernel
theorem dX6_readCrop_100 : decode cX6_readCrop 100 = .ok (.iadd, 1) := by decide +kernel
theorem dX6_readCrop_101 : decode cX6_readCrop 101 = .ok (.iastore, 1) := by decide +kernel
theorem dX6_readCrop_102 : decode cX6_readCrop 102 = .ok (.aload_n 0, 1) := by decide +kernel
theorem dX6_readCrop_103 : decode cX6_readCrop 103 = .ok (.invokevirtual 93, 3) := by decide +kernel
theorem dX6_readCrop_106 : decode cX6_readCrop 106 = .ok (.ireturn, 1) := by decide +kernel
theorem dX6_once_0 : decode cX6_once 0 = .ok (.aload_n 0, 1) := by decide +kernel
theorem dX6_once_1 : decode cX6_once 1 = .ok (.getfield 13, 3) := by decide +kernel
theorem dX6_once_4 : decode cX6_once 4 = .ok (.bipush 6, 2) := by decide +kernel
theorem dX6_once_6 : decode cX6_once 6 = .ok (.iaload, 1) := by decide +kernel
theorem dX6_once_7 : decode cX6_once 7 = .ok (.iload_n 1, 1) := by decide +kernel
theorem dX6_once_8 : decode cX6_once 8 = .ok (.ishr, 1) := by decide +kernel
theorem dX6_once_9 : decode cX6_once 9 = .ok (.iconst 1, 1) := by decide +kernel
theorem dX6_once_10 : decode cX6_once 10 = .ok (.iand, 1) := by decide +kernel
theorem dX6_once_11 : decode cX6_once 11 = .ok (.iconst 1, 1) := by decide +kernel
theorem dX6_once_12 : decode cX6_once 12 = .ok (.if_icmp .eq 12, 3) := by decide +kernel
theorem dX6_once_15 : decode cX6_once 15 = .ok (.aload_n 0, 1) := by decide +kernel
theorem dX6_once_16 : decode cX6_once 16 = .ok (.iload_n 2, 1) := by decide +kernel
theorem dX6_once_17 : decode cX6_once 17 = .ok (.iload_n 3, 1) := by decide +kernel
theorem dX6_once_18 : decode cX6_once 18 = .ok (.invokevirtual 89, 3) := by decide +kernel
theorem dX6_once_21 : decode cX6_once 21 = .ok (.ifCond .ne 5, 3) := by decide +kernel
theorem dX6_once_24 : decode cX6_once 24 = .ok (.iconst 0, 1) := by decide +kernel
theorem dX6_once_25 : decode cX6_once 25 = .ok (.ireturn, 1) := by decide +kernel
theorem dX6_once_26 : decode cX6_once 26 = .ok (.aload_n 0, 1) := by decide +kernel
theorem dX6_once_27 : decode cX6_once 27 = .ok (.getfield 13, 3) := by decide +kernel
theorem dX6_once_30 : decode cX6_once 30 = .ok (.bipush 6, 2) := by decide +kernel
theorem dX6_once_32 : decode cX6_once 32 = .ok (.dup2, 1) := by decide +kernel
theorem dX6_once_33 : decode cX6_once 33 = .ok (.iaload, 1) := by decide +kernel
theorem dX6_once_34 : decode cX6_once 34 = .ok (.iconst 1, 1) := by decide +kernel
theorem dX6_once_35 : decode cX6_once 35 = .ok (.iload_n 1, 1) := by decide +kernel
theorem dX6_once_36 : decode cX6_once 36 = .ok (.ishl, 1) := by decide +kernel
theorem dX6_once_37 : decode cX6_once 37 = .ok (.ior, 1) := by decide +kernel
theorem dX6_once_38 : decode cX6_once 38 = .ok (.iastore, 1) := by decide +kernel
theorem dX6_once_39 : decode cX6_once 39 = .ok (.aload_n 0, 1) := by decide +kernel
theorem dX6_once_40 : decode cX6_once 40 = .ok (.getfield 13, 3) := by decide +kernel
theorem dX6_once_43 : decode cX6_once 43 = .ok (.iload_n 1, 1) := by decide +kernel
theorem dX6_once_44 : decode cX6_once 44 = .ok (.aload_n 0, 1) := by decide +kernel
theorem dX6_once_45 : decode cX6_once 45 = .ok (.getfield 64, 3) := by decide +kernel
theorem dX6_once_48 : decode cX6_once 48 = .ok (.iastore, 1) := by decide +kernel
theorem dX6_once_49 : decode cX6_once 49 = .ok (.aload_n 0, 1) := by decide +kernel
theorem dX6_once_50 : decode cX6_once 50 = .ok (.invokevirtual 93, 3) := by decide +kernel
theorem dX6_once_53 : decode cX6_once 53 = .ok (.ireturn, 1) := by decide +kernel
theorem dX6_readItem_0 : decode cX6_readItem 0 = .ok (.aload_n 0, 1) := by decide +kernel
theorem dX6_readItem_1 : decode cX6_readItem 1 = .ok (.getfield 74, 3) := by decide +kernel
theorem dX6_readItem_4 : decode cX6_readItem 4 = .ok (.iconst 1, 1) := by decide +kernel
theorem dX6_readItem_5 : decode cX6_readItem 5 = .ok (.if_icmp .eq 5, 3) := by decide +kernel
theorem dX6_readItem_8 : decode cX6_readItem 8 = .ok (.iconst 0, 1) := by decide +kernel
theorem dX6_readItem_9 : decode cX6_readItem 9 = .ok (.ireturn, 1) := by decide +kernel
theorem dX6_readItem_10 : decode cX6_readItem 10 = .ok (.aload_n 0, 1) := by decide +kernel
theorem dX6_readItem_11 : decode cX6_readItem 11 = .ok (.getfield 64, 3) := by decide +kernel
theorem dX6_readItem_14 : decode cX6_readItem 14 = .ok (.lookupswitch 69 #[(99, 47), (105, 61), (112, 52), (115, 42)], 42) := by decide +kernel
theorem dX6_readItem_56 : decode cX6_readItem 56 = .ok (.aload_n 0, 1) := by decide +kernel
theorem dX6_readItem_57 : decode cX6_readItem 57 = .ok (.invokevirtual 97, 3) := by decide +kernel
theorem dX6_readItem_60 : decode cX6_readItem 60 = .ok (.ireturn, 1) := by decide +kernel
theorem dX6_readItem_61 : decode cX6_readItem 61 = .ok (.aload_n 0, 1) := by decide +kernel
theorem dX6_readItem_62 : decode cX6_readItem 62 = .ok (.invokevirtual 100, 3) := by decide +kernel
theorem dX6_readItem_65 : decode cX6_readItem 65 = .ok (.ireturn, 1) := by decide +kernel
theorem dX6_readItem_66 : decode cX6_readItem 66 = .ok (.aload_n 0, 1) := by decide +kernel
theorem dX6_readItem_67 : decode cX6_readItem 67 = .ok (.iconst 3, 1) := by decide +kernel
theorem dX6_readItem_68 : decode cX6_readItem 68 = .ok (.iconst 1, 1) := by decide +kernel
theorem dX6_readItem_69 : decode cX6_readItem 69 = .ok (.bipush 9, 2) := by decide +kernel
theorem dX6_readItem_71 : decode cX6_readItem 71 = .ok (.invokevirtual 103, 3) := by decide +kernel
theorem dX6_readItem_74 : decode cX6_readItem 74 = .ok (.ireturn, 1) := by decide +kernel
theorem dX6_readItem_75 : decode cX6_readItem 75 = .ok (.aload_n 0, 1) := by decide +kernel
theorem dX6_readItem_76 : decode cX6_readItem 76 = .ok (.iconst 4, 1) := by decide +kernel
theorem dX6_readItem_77 : decode cX6_readItem 77 = .ok (.iconst 0, 1) := by decide +kernel
theorem dX6_readItem_78 : decode cX6_readItem 78 = .ok (.iconst 5, 1) := by decide +kernel
theorem dX6_readItem_79 : decode cX6_readItem 79 = .ok (.invokevirtual 103, 3) := by decide +kernel
theorem dX6_readItem_82 : decode cX6_readItem 82 = .ok (.ireturn, 1) := by decide +kernel
theorem dX6_readItem_83 : decode cX6_readItem 83 = .ok (.aload_n 0, 1) := by decide +kernel
theorem dX6_readItem_84 : decode cX6_readItem 84 = .ok (.iconst 5, 1) := by decide +kernel
theorem dX6_readItem_85 : decode cX6_readItem 85 = .ok (.iconst 1, 1) := by decide +kernel
theorem dX6_readItem_86 : decode cX6_readItem 86 = .ok (.bipush 9, 2) := by decide +kernel
theorem dX6_readItem_88 : decode cX6_readItem 88 = .ok (.invokevirtual 103, 3) := by decide +kernel
theorem dX6_readItem_91 : decode cX6_readItem 91 = .ok (.ireturn, 1) := by decide +kernel
theorem dX6_valley_0 : decode cX6_valley 0 = .ok (.aload_n 0, 1) := by decide +kernel
theorem dX6_valley_1 : decode cX6_valley 1 = .ok (.invokevirtual 37, 3) := by decide +kernel
theorem dX6_valley_4 : decode cX6_valley 4 = .ok (.aload_n 0, 1) := by decide +kernel
theorem dX6_valley_5 : decode cX6_valley 5 = .ok (.iconst 0, 1) := by decide +kernel
theorem dX6_valley_6 : decode cX6_valley 6 = .ok (.putfield 61, 3) := by decide +kernel
theorem dX6_valley_9 : decode cX6_valley 9 = .ok (.iconst 0, 1) := by decide +kernel
theorem dX6_valley_10 : decode cX6_valley 10 = .ok (.istore_n 1, 1) := by decide +kernel
theorem dX6_valley_11 : decode cX6_valley 11 = .ok (.aload_n 0, 1) := by decide +kernel
theorem dX6_valley_12 : decode cX6_valley 12 = .ok (.invokevirtual 86, 3) := by decide +kernel
theorem dX6_valley_15 : decode cX6_valley 15 = .ok (.aload_n 0, 1) := by decide +kernel
theorem dX6_valley_16 : decode cX6_valley 16 = .ok (.getfield 74, 3) := by decide +kernel
theorem dX6_valley_19 : decode cX6_valley 19 = .ok (.ifCond .eq 28, 3) := by decide +kernel
theorem dX6_valley_22 : decode cX6_valley 22 = .ok (.aload_n 0, 1) := by decide +kernel
theorem dX6_valley_23 : decode cX6_valley 23 = .ok (.invokevirtual 107, 3) := by decide +kernel
theorem dX6_valley_26 : decode cX6_valley 26 = .ok (.ifCond .ne 11, 3) := by decide +kernel
theorem dX6_valley_29 : decode cX6_valley 29 = .ok (.bipush (-10), 2) := by decide +kernel
theorem dX6_valley_31 : decode cX6_valley 31 = .ok (.aload_n 0, 1) := by decide +kernel
theorem dX6_valley_32 : decode cX6_valley 32 = .ok (.getfield 71, 3) := by decide +kernel
theorem dX6_valley_35 : decode cX6_valley 35 = .ok (.isub, 1) := by decide +kernel
theorem dX6_valley_36 : decode cX6_valley 36 = .ok (.ireturn, 1) := by decide +kernel
theorem dX6_valley_37 : decode cX6_valley 37 = .ok (.iinc 1 1, 3) := by decide +kernel
theorem dX6_valley_40 : decode cX6_valley 40 = .ok (.aload_n 0, 1) := by decide +kernel
theorem dX6_valley_41 : decode cX6_valley 41 = .ok (.invokevirtual 86, 3) := by decide +kernel
theorem dX6_valley_44 : decode cX6_valley 44 = .ok (.goto (-29), 3) := by decide +kernel
theorem dX6_valley_47 : decode cX6_valley 47 = .ok (.aload_n 0, 1) := by decide +kernel
theorem dX6_valley_48 : decode cX6_valley 48 = .ok (.iconst 0, 1) := by decide +kernel
theorem dX6_valley_49 : decode cX6_valley 49 = .ok (.putfield 49, 3) := by decide +kernel
theorem dX6_valley_52 : decode cX6_valley 52 = .ok (.aload_n 0, 1) := by decide +kernel
theorem dX6_valley_53 : decode cX6_valley 53 = .ok (.invokevirtual 40, 3) := by decide +kernel
theorem dX6_valley_56 : decode cX6_valley 56 = .ok (.iload_n 1, 1) := by decide +kernel
theorem dX6_valley_57 : decode cX6_valley 57 = .ok (.ireturn, 1) := by decide +kernel
theorem dX6_takes_0 : decode cX6_takes 0 = .ok (.iconst 0, 1) := by decide +kernel
theorem dX6_takes_1 : decode cX6_takes 1 = .ok (.istore_n 1, 1) := by decide +kernel
theorem dX6_takes_2 : decode cX6_takes 2 = .ok (.iload_n 1, 1) := by decide +kernel
theorem dX6_takes_3 : decode cX6_takes 3 = .ok (.bipush 79, 2) := by decide +kernel
theorem dX6_takes_5 : decode cX6_takes 5 = .ok (.if_icmp .ge 21, 3) := by decide +kernel
theorem dX6_takes_8 : decode cX6_takes 8 = .ok (.aload_n 0, 1) := by decide +kernel
theorem dX6_takes_9 : decode cX6_takes 9 = .ok (.getfield 16, 3) := by decide +kernel
theorem dX6_takes_12 : decode cX6_takes 12 = .ok (.iload_n 1, 1) := by decide +kernel
theorem dX6_takes_13 : decode cX6_takes 13 = .ok (.aload_n 0, 1) := by decide +kernel
theorem dX6_takes_14 : decode cX6_takes 14 = .ok (.getfield 13, 3) := by decide +kernel
theorem dX6_takes_17 : decode cX6_takes 17 = .ok (.iload_n 1, 1) := by decide +kernel
theorem dX6_takes_18 : decode cX6_takes 18 = .ok (.iaload, 1) := by decide +kernel
theorem dX6_takes_19 : decode cX6_takes 19 = .ok (.iastore, 1) := by decide +kernel
theorem dX6_takes_20 : decode cX6_takes 20 = .ok (.iinc 1 1, 3) := by decide +kernel
theorem dX6_takes_23 : decode cX6_takes 23 = .ok (.goto (-21), 3) := by decide +kernel
theorem dX6_takes_26 : decode cX6_takes 26 = .ok (.iconst 0, 1) := by decide +kernel
theorem dX6_takes_27 : decode cX6_takes 27 = .ok (.istore_n 1, 1) := by decide +kernel
theorem dX6_takes_28 : decode cX6_takes 28 = .ok (.iload_n 1, 1) := by decide +kernel
theorem dX6_takes_29 : decode cX6_takes 29 = .ok (.bipush 15, 2) := by decide +kernel
theorem dX6_takes_31 : decode cX6_takes 31 = .ok (.if_icmp .ge 16, 3) := by decide +kernel
theorem dX6_takes_34 : decode cX6_takes 34 = .ok (.aload_n 0, 1) := by decide +kernel
theorem dX6_takes_35 : decode cX6_takes 35 = .ok (.getfield 19, 3) := by decide +kernel
theorem dX6_takes_38 : decode cX6_takes 38 = .ok (.iload_n 1, 1) := by decide +kernel
theorem dX6_takes_39 : decode cX6_takes 39 = .ok (.iconst 0, 1) := by decide +kernel
theorem dX6_takes_40 : decode cX6_takes 40 = .ok (.iastore, 1) := by decide +kernel
theorem dX6_takes_41 : decode cX6_takes 41 = .ok (.iinc 1 1, 3) := by decide +kernel
theorem dX6_takes_44 : decode cX6_takes 44 = .ok (.goto (-16), 3) := by decide +kernel
theorem dX6_takes_47 : decode cX6_takes 47 = .ok (.aload_n 0, 1) := by decide +kernel
theorem dX6_takes_48 : decode cX6_takes 48 = .ok (.iconst 0, 1) := by decide +kernel
theorem dX6_takes_49 : decode cX6_takes 49 = .ok (.putfield 110, 3) := by decide +kernel
theorem dX6_takes_52 : decode cX6_takes 52 = .ok (.aload_n 0, 1) := by decide +kernel
theorem dX6_takes_53 : decode cX6_takes 53 = .ok (.iconst 0, 1) := by decide +kernel
theorem dX6_takes_54 : decode cX6_takes 54 = .ok (.putfield 113, 3) := by decide +kernel
theorem dX6_takes_57 : decode cX6_takes 57 = .ok (.aload_n 0, 1) := by decide +kernel
theorem dX6_takes_58 : decode cX6_takes 58 = .ok (.getfield 34, 3) := by decide +kernel
theorem dX6_takes_61 : decode cX6_takes 61 = .ok (.iconst 0, 1) := by decide +kernel
theorem dX6_takes_62 : decode cX6_takes 62 = .ok (.iconst 0, 1) := by decide +kernel
theorem dX6_takes_63 : decode cX6_takes 63 = .ok (.iastore, 1) := by decide +kernel
theorem dX6_takes_64 : decode cX6_takes 64 = .ok (.aload_n 0, 1) := by decide +kernel
theorem dX6_takes_65 : decode cX6_takes 65 = .ok (.getfield 34, 3) := by decide +kernel
theorem dX6_takes_68 : decode cX6_takes 68 = .ok (.sipush 167, 3) := by decide +kernel
theorem dX6_takes_71 : decode cX6_takes 71 = .ok (.iconst 0, 1) := by decide +kernel
theorem dX6_takes_72 : decode cX6_takes 72 = .ok (.iastore, 1) := by decide +kernel
theorem dX6_takes_73 : decode cX6_takes 73 = .ok (.return_, 1) := by decide +kernel
theorem dX6_days_0 : decode cX6_days 0 = .ok (.aload_n 0, 1) := by decide +kernel
theorem dX6_days_1 : decode cX6_days 1 = .ok (.getfield 16, 3) := by decide +kernel
theorem dX6_days_4 : decode cX6_days 4 = .ok (.iconst 0, 1) := by decide +kernel
theorem dX6_days_5 : decode cX6_days 5 = .ok (.iaload, 1) := by decide +kernel
theorem dX6_days_6 : decode cX6_days 6 = .ok (.ireturn, 1) := by decide +kernel
theorem dX6_isDay_0 : decode cX6_isDay 0 = .ok (.iload_n 1, 1) := by decide +kernel
theorem dX6_isDay_1 : decode cX6_isDay 1 = .ok (.i2l, 1) := by decide +kernel
theorem dX6_isDay_2 : decode cX6_isDay 2 = .ok (.lconst 0, 1) := by decide +kernel
theorem dX6_isDay_3 : decode cX6_isDay 3 = .ok (.aload_n 0, 1) := by decide +kernel
theorem dX6_isDay_4 : decode cX6_isDay 4 = .ok (.invokevirtual 116, 3) := by decide +kernel
theorem dX6_isDay_7 : decode cX6_isDay 7 = .ok (.iconst 1, 1) := by decide +kernel
theorem dX6_isDay_8 : decode cX6_isDay 8 = .ok (.isub, 1) := by decide +kernel
theorem dX6_isDay_9 : decode cX6_isDay 9 = .ok (.i2l, 1) := by decide +kernel
theorem dX6_isDay_10 : decode cX6_isDay 10 = .ok (.invokestatic 45, 3) := by decide +kernel
theorem dX6_isDay_13 : decode cX6_isDay 13 = .ok (.ireturn, 1) := by decide +kernel
theorem dX6_isCrop_0 : decode cX6_isCrop 0 = .ok (.iload_n 1, 1) := by decide +kernel
theorem dX6_isCrop_1 : decode cX6_isCrop 1 = .ok (.i2l, 1) := by decide +kernel
theorem dX6_isCrop_2 : decode cX6_isCrop 2 = .ok (.lconst 0, 1) := by decide +kernel
theorem dX6_isCrop_3 : decode cX6_isCrop 3 = .ok (.aload_n 0, 1) := by decide +kernel
theorem dX6_isCrop_4 : decode cX6_isCrop 4 = .ok (.getfield 16, 3) := by decide +kernel
theorem dX6_isCrop_7 : decode cX6_isCrop 7 = .ok (.iconst 2, 1) := by decide +kernel
theorem dX6_isCrop_8 : decode cX6_isCrop 8 = .ok (.iaload, 1) := by decide +kernel
theorem dX6_isCrop_9 : decode cX6_isCrop 9 = .ok (.iconst 1, 1) := by decide +kernel
theorem dX6_isCrop_10 : decode cX6_isCrop 10 = .ok (.isub, 1) := by decide +kernel
theorem dX6_isCrop_11 : decode cX6_isCrop 11 = .ok (.i2l, 1) := by decide +kernel
theorem dX6_isCrop_12 : decode cX6_isCrop 12 = .ok (.invokestatic 45, 3) := by decide +kernel
theorem dX6_isCrop_15 : decode cX6_isCrop 15 = .ok (.ireturn, 1) := by decide +kernel
theorem dX6_isLoan_0 : decode cX6_isLoan 0 = .ok (.iload_n 0, 1) := by decide +kernel
theorem dX6_isLoan_1 : decode cX6_isLoan 1 = .ok (.i2l, 1) := by decide +kernel
theorem dX6_isLoan_2 : decode cX6_isLoan 2 = .ok (.lconst 0, 1) := by decide +kernel
theorem dX6_isLoan_3 : decode cX6_isLoan 3 = .ok (.ldc2_w 120, 3) := by decide +kernel
theorem dX6_isLoan_6 : decode cX6_isLoan 6 = .ok (.invokestatic 45, 3) := by decide +kernel
theorem dX6_isLoan_9 : decode cX6_isLoan 9 = .ok (.ireturn, 1) := by decide +kernel
theorem dX6_loanDays_0 : decode cX6_loanDays 0 = .ok (.aload_n 0, 1) := by decide +kernel
theorem dX6_loanDays_1 : decode cX6_loanDays 1 = .ok (.getfield 19, 3) := by decide +kernel
theorem dX6_loanDays_4 : decode cX6_loanDays 4 = .ok (.iconst 3, 1) := by decide +kernel
theorem dX6_loanDays_5 : decode cX6_loanDays 5 = .ok (.iconst 3, 1) := by decide +kernel
theorem dX6_loanDays_6 : decode cX6_loanDays 6 = .ok (.iload_n 1, 1) := by decide +kernel
theorem dX6_loanDays_7 : decode cX6_loanDays 7 = .ok (.imul, 1) := by decide +kernel
theorem dX6_loanDays_8 : decode cX6_loanDays 8 = .ok (.iadd, 1) := by decide +kernel
theorem dX6_loanDays_9 : decode cX6_loanDays 9 = .ok (.iaload, 1) := by decide +kernel
theorem dX6_loanDays_10 : decode cX6_loanDays 10 = .ok (.ireturn, 1) := by decide +kernel
theorem dX6_lent_0 : decode cX6_lent 0 = .ok (.aload_n 0, 1) := by decide +kernel
theorem dX6_lent_1 : decode cX6_lent 1 = .ok (.getfield 19, 3) := by decide +kernel
theorem dX6_lent_4 : decode cX6_lent 4 = .ok (.iconst 3, 1) := by decide +kernel
theorem dX6_lent_5 : decode cX6_lent 5 = .ok (.iconst 3, 1) := by decide +kernel
theorem dX6_lent_6 : decode cX6_lent 6 = .ok (.iload_n 1, 1) := by decide +kernel
theorem dX6_lent_7 : decode cX6_lent 7 = .ok (.imul, 1) := by decide +kernel
theorem dX6_lent_8 : decode cX6_lent 8 = .ok (.iadd, 1) := by decide +kernel
theorem dX6_lent_9 : decode cX6_lent 9 = .ok (.iconst 1, 1) := by decide +kernel
theorem dX6_lent_10 : decode cX6_lent 10 = .ok (.iadd, 1) := by decide +kernel
theorem dX6_lent_11 : decode cX6_lent 11 = .ok (.iaload, 1) := by decide +kernel
theorem dX6_lent_12 : decode cX6_lent 12 = .ok (.ireturn, 1) := by decide +kernel
theorem dX6_out_0 : decode cX6_out 0 = .ok (.aload_n 0, 1) := by decide +kernel
theorem dX6_out_1 : decode cX6_out 1 = .ok (.iconst 0, 1) := by decide +kernel
theorem dX6_out_2 : decode cX6_out 2 = .ok (.invokevirtual 122, 3) := by decide +kernel
theorem dX6_out_5 : decode cX6_out 5 = .ok (.aload_n 0, 1) := by decide +kernel
theorem dX6_out_6 : decode cX6_out 6 = .ok (.iconst 1, 1) := by decide +kernel
theorem dX6_out_7 : decode cX6_out 7 = .ok (.invokevirtual 122, 3) := by decide +kernel
theorem dX6_out_10 : decode cX6_out 10 = .ok (.ior, 1) := by decide +kernel
theorem dX6_out_11 : decode cX6_out 11 = .ok (.aload_n 0, 1) := by decide +kernel
theorem dX6_out_12 : decode cX6_out 12 = .ok (.iconst 2, 1) := by decide +kernel
theorem dX6_out_13 : decode cX6_out 13 = .ok (.invokevirtual 122, 3) := by decide +kernel
theorem dX6_out_16 : decode cX6_out 16 = .ok (.ior, 1) := by decide +kernel
theorem dX6_out_17 : decode cX6_out 17 = .ok (.aload_n 0, 1) := by decide +kernel
theorem dX6_out_18 : decode cX6_out 18 = .ok (.iconst 3, 1) := by decide +kernel
theorem dX6_out_19 : decode cX6_out 19 = .ok (.invokevirtual 122, 3) := by decide +kernel
theorem dX6_out_22 : decode cX6_out 22 = .ok (.ior, 1) := by decide +kernel
theorem dX6_out_23 : decode cX6_out 23 = .ok (.ireturn, 1) := by decide +kernel
theorem dX6_notIn_0 : decode cX6_notIn 0 = .ok (.aload_n 0, 1) := by decide +kernel
theorem dX6_notIn_1 : decode cX6_notIn 1 = .ok (.invokevirtual 126, 3) := by decide +kernel
theorem dX6_notIn_4 : decode cX6_notIn 4 = .ok (.aload_n 0, 1) := by decide +kernel
theorem dX6_notIn_5 : decode cX6_notIn 5 = .ok (.getfield 19, 3) := by decide +kernel
theorem dX6_notIn_8 : decode cX6_notIn 8 = .ok (.iconst 2, 1) := by decide +kernel
theorem dX6_notIn_9 : decode cX6_notIn 9 = .ok (.iaload, 1) := by decide +kernel
theorem dX6_notIn_10 : decode cX6_notIn 10 = .ok (.ior, 1) := by decide +kernel
theorem dX6_notIn_11 : decode cX6_notIn 11 = .ok (.ireturn, 1) := by decide +kernel
theorem dX6_ripens_0 : decode cX6_ripens 0 = .ok (.aload_n 0, 1) := by decide +kernel
theorem dX6_ripens_1 : decode cX6_ripens 1 = .ok (.getfield 16, 3) := by decide +kernel
theorem dX6_ripens_4 : decode cX6_ripens 4 = .ok (.bipush 67, 2) := by decide +kernel
theorem dX6_ripens_6 : decode cX6_ripens 6 = .ok (.iconst 3, 1) := by decide +kernel
theorem dX6_ripens_7 : decode cX6_ripens 7 = .ok (.iload_n 1, 1) := by decide +kernel
theorem dX6_ripens_8 : decode cX6_ripens 8 = .ok (.imul, 1) := by decide +kernel
theorem dX6_ripens_9 : decode cX6_ripens 9 = .ok (.iadd, 1) := by decide +kernel
theorem dX6_ripens_10 : decode cX6_ripens 10 = .ok (.iaload, 1) := by decide +kernel
theorem dX6_ripens_11 : decode cX6_ripens 11 = .ok (.istore_n 3, 1) := by decide +kernel
theorem dX6_ripens_12 : decode cX6_ripens 12 = .ok (.aload_n 0, 1) := by decide +kernel
theorem dX6_ripens_13 : decode cX6_ripens 13 = .ok (.getfield 16, 3) := by decide +kernel
theorem dX6_ripens_16 : decode cX6_ripens 16 = .ok (.bipush 67, 2) := by decide +kernel
theorem dX6_ripens_18 : decode cX6_ripens 18 = .ok (.iconst 3, 1) := by decide +kernel
theorem dX6_ripens_19 : decode cX6_ripens 19 = .ok (.iload_n 1, 1) := by decide +kernel
theorem dX6_ripens_20 : decode cX6_ripens 20 = .ok (.imul, 1) := by decide +kernel
theorem dX6_ripens_21 : decode cX6_ripens 21 = .ok (.iadd, 1) := by decide +kernel
theorem dX6_ripens_22 : decode cX6_ripens 22 = .ok (.iconst 1, 1) := by decide +kernel
theorem dX6_ripens_23 : decode cX6_ripens 23 = .ok (.iadd, 1) := by decide +kernel
theorem dX6_ripens_24 : decode cX6_ripens 24 = .ok (.iaload, 1) := by decide +kernel
theorem dX6_ripens_25 : decode cX6_ripens 25 = .ok (.istore 4, 2) := by decide +kernel
theorem dX6_ripens_27 : decode cX6_ripens 27 = .ok (.iconst 0, 1) := by decide +kernel
theorem dX6_ripens_28 : decode cX6_ripens 28 = .ok (.istore 5, 2) := by decide +kernel
theorem dX6_ripens_30 : decode cX6_ripens 30 = .ok (.iconst 0, 1) := by decide +kernel
theorem dX6_ripens_31 : decode cX6_ripens 31 = .ok (.istore 6, 2) := by decide +kernel
theorem dX6_ripens_33 : decode cX6_ripens 33 = .ok (.iload 6, 2) := by decide +kernel
theorem dX6_ripens_35 : decode cX6_ripens 35 = .ok (.aload_n 0, 1) := by decide +kernel
theorem dX6_ripens_36 : decode cX6_ripens 36 = .ok (.invokevirtual 116, 3) := by decide +kernel
theorem dX6_ripens_39 : decode cX6_ripens 39 = .ok (.if_icmp .ge 52, 3) := by decide +kernel
theorem dX6_ripens_42 : decode cX6_ripens 42 = .ok (.iload_n 2, 1) := by decide +kernel
theorem dX6_ripens_43 : decode cX6_ripens 43 = .ok (.iload 6, 2) := by decide +kernel
theorem dX6_ripens_45 : decode cX6_ripens 45 = .ok (.ishr, 1) := by decide +kernel
theorem dX6_ripens_46 : decode cX6_ripens 46 = .ok (.iconst 1, 1) := by decide +kernel
theorem dX6_ripens_47 : decode cX6_ripens 47 = .ok (.iand, 1) := by decide +kernel
theorem dX6_ripens_48 : decode cX6_ripens 48 = .ok (.ifCond .ne 37, 3) := by decide +kernel
theorem dX6_ripens_51 : decode cX6_ripens 51 = .ok (.aload_n 0, 1) := by decide +kernel
theorem dX6_ripens_52 : decode cX6_ripens 52 = .ok (.getfield 16, 3) := by decide +kernel
theorem dX6_ripens_55 : decode cX6_ripens 55 = .ok (.bipush 7, 2) := by decide +kernel
theorem dX6_ripens_57 : decode cX6_ripens 57 = .ok (.iload 6, 2) := by decide +kernel
theorem dX6_ripens_59 : decode cX6_ripens 59 = .ok (.iadd, 1) := by decide +kernel
theorem dX6_ripens_60 : decode cX6_ripens 60 = .ok (.iaload, 1) := by decide +kernel
theorem dX6_ripens_61 : decode cX6_ripens 61 = .ok (.iload 4, 2) := by decide +kernel
theorem dX6_ripens_63 : decode cX6_ripens 63 = .ok (.if_icmp .ge 7, 3) := by decide +kernel
theorem dX6_ripens_66 : decode cX6_ripens 66 = .ok (.iconst 0, 1) := by decide +kernel
theorem dX6_ripens_67 : decode cX6_ripens 67 = .ok (.goto 7, 3) := by decide +kernel
theorem dX6_ripens_70 : decode cX6_ripens 70 = .ok (.iload 5, 2) := by decide +kernel
theorem dX6_ripens_72 : decode cX6_ripens 72 = .ok (.iconst 1, 1) := by decide +kernel
theorem dX6_ripens_73 : decode cX6_ripens 73 = .ok (.iadd, 1) := by decide +kernel
theorem dX6_ripens_74 : decode cX6_ripens 74 = .ok (.istore 5, 2) := by decide +kernel
theorem dX6_ripens_76 : decode cX6_ripens 76 = .ok (.iload 5, 2) := by decide +kernel
theorem dX6_ripens_78 : decode cX6_ripens 78 = .ok (.iload_n 3, 1) := by decide +kernel
theorem dX6_ripens_79 : decode cX6_ripens 79 = .ok (.if_icmp .ne 6, 3) := by decide +kernel
theorem dX6_ripens_82 : decode cX6_ripens 82 = .ok (.iload 6, 2) := by decide +kernel
theorem dX6_ripens_84 : decode cX6_ripens 84 = .ok (.ireturn, 1) := by decide +kernel
theorem dX6_ripens_85 : decode cX6_ripens 85 = .ok (.iinc 6 1, 3) := by decide +kernel
theorem dX6_ripens_88 : decode cX6_ripens 88 = .ok (.goto (-55), 3) := by decide +kernel
theorem dX6_ripens_91 : decode cX6_ripens 91 = .ok (.bipush (-9), 2) := by decide +kernel
theorem dX6_ripens_93 : decode cX6_ripens 93 = .ok (.ireturn, 1) := by decide +kernel
theorem dX6_worth_0 : decode cX6_worth 0 = .ok (.aload_n 0, 1) := by decide +kernel
theorem dX6_worth_1 : decode cX6_worth 1 = .ok (.getfield 16, 3) := by decide +kernel
theorem dX6_worth_4 : decode cX6_worth 4 = .ok (.bipush 67, 2) := by decide +kernel
theorem dX6_worth_6 : decode cX6_worth 6 = .ok (.iconst 3, 1) := by decide +kernel
theorem dX6_worth_7 : decode cX6_worth 7 = .ok (.iload_n 1, 1) := by decide +kernel
theorem dX6_worth_8 : decode cX6_worth 8 = .ok (.imul, 1) := by decide +kernel
theorem dX6_worth_9 : decode cX6_worth 9 = .ok (.iadd, 1) := by decide +kernel
theorem dX6_worth_10 : decode cX6_worth 10 = .ok (.iconst 2, 1) := by decide +kernel
theorem dX6_worth_11 : decode cX6_worth 11 = .ok (.iadd, 1) := by decide +kernel
theorem dX6_worth_12 : decode cX6_worth 12 = .ok (.iaload, 1) := by decide +kernel
theorem dX6_worth_13 : decode cX6_worth 13 = .ok (.ireturn, 1) := by decide +kernel
theorem dX6_harvest_0 : decode cX6_harvest 0 = .ok (.iconst 0, 1) := by decide +kernel
theorem dX6_harvest_1 : decode cX6_harvest 1 = .ok (.istore_n 2, 1) := by decide +kernel
theorem dX6_harvest_2 : decode cX6_harvest 2 = .ok (.iconst 0, 1) := by decide +kernel
theorem dX6_harvest_3 : decode cX6_harvest 3 = .ok (.istore_n 3, 1) := by decide +kernel
theorem dX6_harvest_4 : decode cX6_harvest 4 = .ok (.iload_n 3, 1) := by decide +kernel
theorem dX6_harvest_5 : decode cX6_harvest 5 = .ok (.aload_n 0, 1) := by decide +kernel
theorem dX6_harvest_6 : decode cX6_harvest 6 = .ok (.getfield 16, 3) := by decide +kernel
theorem dX6_harvest_9 : decode cX6_harvest 9 = .ok (.iconst 2, 1) := by decide +kernel
theorem dX6_harvest_10 : decode cX6_harvest 10 = .ok (.iaload, 1) := by decide +kernel
theorem dX6_harvest_11 : decode cX6_harvest 11 = .ok (.if_icmp .ge 32, 3) := by decide +kernel
theorem dX6_harvest_14 : decode cX6_harvest 14 = .ok (.iload_n 2, 1) := by decide +kernel
theorem dX6_harvest_15 : decode cX6_harvest 15 = .ok (.aload_n 0, 1) := by decide +kernel
theorem dX6_harvest_16 : decode cX6_harvest 16 = .ok (.iload_n 3, 1) := by decide +kernel
theorem dX6_harvest_17 : decode cX6_harvest 17 = .ok (.iload_n 1, 1) := by decide +kernel
theorem dX6_harvest_18 : decode cX6_harvest 18 = .ok (.invokevirtual 129, 3) := by decide +kernel
theorem dX6_harvest_21 : decode cX6_harvest 21 = .ok (.bipush (-9), 2) := by decide +kernel
theorem dX6_harvest_23 : decode cX6_harvest 23 = .ok (.if_icmp .ne 7, 3) := by decide +kernel
theorem dX6_harvest_26 : decode cX6_harvest 26 = .ok (.iconst 0, 1) := by decide +kernel
theorem dX6_harvest_27 : decode cX6_harvest 27 = .ok (.goto 8, 3) := by decide +kernel
theorem dX6_harvest_30 : decode cX6_harvest 30 = .ok (.aload_n 0, 1) := by decide +kernel
theorem dX6_harvest_31 : decode cX6_harvest 31 = .ok (.iload_n 3, 1) := by decide +kernel
theorem dX6_harvest_32 : decode cX6_harvest 32 = .ok (.invokevirtual 133, 3) := by decide +kernel
theorem dX6_harvest_35 : decode cX6_harvest 35 = .ok (.iadd, 1) := by decide +kernel
theorem dX6_harvest_36 : decode cX6_harvest 36 = .ok (.istore_n 2, 1) := by decide +kernel
theorem dX6_harvest_37 : decode cX6_harvest 37 = .ok (.iinc 3 1, 3) := by decide +kernel
theorem dX6_harvest_40 : decode cX6_harvest 40 = .ok (.goto (-36), 3) := by decide +kernel
theorem dX6_harvest_43 : decode cX6_harvest 43 = .ok (.iload_n 2, 1) := by decide +kernel
theorem dX6_harvest_44 : decode cX6_harvest 44 = .ok (.ireturn, 1) := by decide +kernel
theorem dX6_day_0 : decode cX6_day 0 = .ok (.aload_n 0, 1) := by decide +kernel
theorem dX6_day_1 : decode cX6_day 1 = .ok (.iload_n 1, 1) := by decide +kernel
theorem dX6_day_2 : decode cX6_day 2 = .ok (.invokevirtual 136, 3) := by decide +kernel
theorem dX6_day_5 : decode cX6_day 5 = .ok (.ifCond .eq 15, 3) := by decide +kernel
theorem dX6_day_8 : decode cX6_day 8 = .ok (.iload_n 2, 1) := by decide +kernel
theorem dX6_day_9 : decode cX6_day 9 = .ok (.i2l, 1) := by decide +kernel
theorem dX6_day_10 : decode cX6_day 10 = .ok (.lconst 0, 1) := by decide +kernel
theorem dX6_day_11 : decode cX6_day 11 = .ok (.ldc2_w 120, 3) := by decide +kernel
theorem dX6_day_14 : decode cX6_day 14 = .ok (.invokestatic 45, 3) := by decide +kernel
theorem dX6_day_17 : decode cX6_day 17 = .ok (.ifCond .ne 5, 3) := by decide +kernel
theorem dX6_day_20 : decode cX6_day 20 = .ok (.iconst (-1), 1) := by decide +kernel
theorem dX6_day_21 : decode cX6_day 21 = .ok (.ireturn, 1) := by decide +kernel
theorem dX6_day_22 : decode cX6_day 22 = .ok (.bipush (-9), 2) := by decide +kernel
theorem dX6_day_24 : decode cX6_day 24 = .ok (.istore_n 3, 1) := by decide +kernel
theorem dX6_day_25 : decode cX6_day 25 = .ok (.iconst 0, 1) := by decide +kernel
theorem dX6_day_26 : decode cX6_day 26 = .ok (.istore 4, 2) := by decide +kernel
theorem dX6_day_28 : decode cX6_day 28 = .ok (.iload 4, 2) := by decide +kernel
theorem dX6_day_30 : decode cX6_day 30 = .ok (.iconst 4, 1) := by decide +kernel
theorem dX6_day_31 : decode cX6_day 31 = .ok (.if_icmp .ge 30, 3) := by decide +kernel
theorem dX6_day_34 : decode cX6_day 34 = .ok (.aload_n 0, 1) := by decide +kernel
theorem dX6_day_35 : decode cX6_day 35 = .ok (.iload 4, 2) := by decide +kernel
theorem dX6_day_37 : decode cX6_day 37 = .ok (.invokevirtual 122, 3) := by decide +kernel
theorem dX6_day_40 : decode cX6_day 40 = .ok (.iload_n 1, 1) := by decide +kernel
theorem dX6_day_41 : decode cX6_day 41 = .ok (.ishr, 1) := by decide +kernel
theorem dX6_day_42 : decode cX6_day 42 = .ok (.iconst 1, 1) := by decide +kernel
theorem dX6_day_43 : decode cX6_day 43 = .ok (.iand, 1) := by decide +kernel
theorem dX6_day_44 : decode cX6_day 44 = .ok (.iconst 1, 1) := by decide +kernel
theorem dX6_day_45 : decode cX6_day 45 = .ok (.if_icmp .ne 8, 3) := by decide +kernel
theorem dX6_day_48 : decode cX6_day 48 = .ok (.iload 4, 2) := by decide +kernel
theorem dX6_day_50 : decode cX6_day 50 = .ok (.goto 4, 3) := by decide +kernel
theorem dX6_day_53 : decode cX6_day 53 = .ok (.iload_n 3, 1) := by decide +kernel
theorem dX6_day_54 : decode cX6_day 54 = .ok (.istore_n 3, 1) := by decide +kernel
theorem dX6_day_55 : decode cX6_day 55 = .ok (.iinc 4 1, 3) := by decide +kernel
theorem dX6_day_58 : decode cX6_day 58 = .ok (.goto (-30), 3) := by decide +kernel
theorem dX6_day_61 : decode cX6_day 61 = .ok (.aload_n 0, 1) := by decide +kernel
theorem dX6_day_62 : decode cX6_day 62 = .ok (.getfield 19, 3) := by decide +kernel
theorem dX6_day_65 : decode cX6_day 65 = .ok (.iconst 2, 1) := by decide +kernel
theorem dX6_day_66 : decode cX6_day 66 = .ok (.iaload, 1) := by decide +kernel
theorem dX6_day_67 : decode cX6_day 67 = .ok (.iload_n 1, 1) := by decide +kernel
theorem dX6_day_68 : decode cX6_day 68 = .ok (.ishr, 1) := by decide +kernel
theorem dX6_day_69 : decode cX6_day 69 = .ok (.iconst 1, 1) := by decide +kernel
theorem dX6_day_70 : decode cX6_day 70 = .ok (.iand, 1) := by decide +kernel
theorem dX6_day_71 : decode cX6_day 71 = .ok (.iconst 1, 1) := by decide +kernel
theorem dX6_day_72 : decode cX6_day 72 = .ok (.if_icmp .ne 7, 3) := by decide +kernel
theorem dX6_day_75 : decode cX6_day 75 = .ok (.iconst 1, 1) := by decide +kernel
theorem dX6_day_76 : decode cX6_day 76 = .ok (.goto 4, 3) := by decide +kernel
theorem dX6_day_79 : decode cX6_day 79 = .ok (.iconst 0, 1) := by decide +kernel
theorem dX6_day_80 : decode cX6_day 80 = .ok (.istore 4, 2) := by decide +kernel
theorem dX6_day_82 : decode cX6_day 82 = .ok (.iload_n 2, 1) := by decide +kernel
theorem dX6_day_83 : decode cX6_day 83 = .ok (.ifCond .ne 15, 3) := by decide +kernel
theorem dX6_day_86 : decode cX6_day 86 = .ok (.aload_n 0, 1) := by decide +kernel
theorem dX6_day_87 : decode cX6_day 87 = .ok (.getfield 16, 3) := by decide +kernel
theorem dX6_day_90 : decode cX6_day 90 = .ok (.bipush 37, 2) := by decide +kernel
theorem dX6_day_92 : decode cX6_day 92 = .ok (.iload_n 1, 1) := by decide +kernel
theorem dX6_day_93 : decode cX6_day 93 = .ok (.iadd, 1) := by decide +kernel
theorem dX6_day_94 : decode cX6_day 94 = .ok (.iaload, 1) := by decide +kernel
theorem dX6_day_95 : decode cX6_day 95 = .ok (.goto 49, 3) := by decide +kernel
theorem dX6_day_98 : decode cX6_day 98 = .ok (.iload_n 2, 1) := by decide +kernel
theorem dX6_day_99 : decode cX6_day 99 = .ok (.iconst 1, 1) := by decide +kernel
theorem dX6_day_100 : decode cX6_day 100 = .ok (.if_icmp .ne 15, 3) := by decide +kernel
theorem dX6_day_103 : decode cX6_day 103 = .ok (.aload_n 0, 1) := by decide +kernel
theorem dX6_day_104 : decode cX6_day 104 = .ok (.getfield 16, 3) := by decide +kernel
theorem dX6_day_107 : decode cX6_day 107 = .ok (.bipush 7, 2) := by decide +kernel
theorem dX6_day_109 : decode cX6_day 109 = .ok (.iload_n 1, 1) := by decide +kernel
theorem dX6_day_110 : decode cX6_day 110 = .ok (.iadd, 1) := by decide +kernel
theorem dX6_day_111 : decode cX6_day 111 = .ok (.iaload, 1) := by decide +kernel
theorem dX6_day_112 : decode cX6_day 112 = .ok (.goto 32, 3) := by decide +kernel
theorem dX6_day_115 : decode cX6_day 115 = .ok (.iload_n 2, 1) := by decide +kernel
theorem dX6_day_116 : decode cX6_day 116 = .ok (.iconst 2, 1) := by decide +kernel
theorem dX6_day_117 : decode cX6_day 117 = .ok (.if_icmp .ne 26, 3) := by decide +kernel
theorem dX6_day_120 : decode cX6_day 120 = .ok (.iload_n 3, 1) := by decide +kernel
theorem dX6_day_121 : decode cX6_day 121 = .ok (.bipush (-9), 2) := by decide +kernel
theorem dX6_day_123 : decode cX6_day 123 = .ok (.if_icmp .eq 7, 3) := by decide +kernel
theorem dX6_day_126 : decode cX6_day 126 = .ok (.iconst 1, 1) := by decide +kernel
theorem dX6_day_127 : decode cX6_day 127 = .ok (.goto 17, 3) := by decide +kernel
theorem dX6_day_130 : decode cX6_day 130 = .ok (.iload 4, 2) := by decide +kernel
theorem dX6_day_132 : decode cX6_day 132 = .ok (.ifCond .eq 7, 3) := by decide +kernel
theorem dX6_day_135 : decode cX6_day 135 = .ok (.iconst 2, 1) := by decide +kernel
theorem dX6_day_136 : decode cX6_day 136 = .ok (.goto 8, 3) := by decide +kernel
theorem dX6_day_139 : decode cX6_day 139 = .ok (.iconst 0, 1) := by decide +kernel
theorem dX6_day_140 : decode cX6_day 140 = .ok (.goto 4, 3) := by decide +kernel
theorem dX6_day_143 : decode cX6_day 143 = .ok (.iload_n 3, 1) := by decide +kernel
theorem dX6_day_144 : decode cX6_day 144 = .ok (.ireturn, 1) := by decide +kernel
theorem dX6_crop_0 : decode cX6_crop 0 = .ok (.aload_n 0, 1) := by decide +kernel
theorem dX6_crop_1 : decode cX6_crop 1 = .ok (.iload_n 1, 1) := by decide +kernel
theorem dX6_crop_2 : decode cX6_crop 2 = .ok (.invokevirtual 139, 3) := by decide +kernel
theorem dX6_crop_5 : decode cX6_crop 5 = .ok (.ifCond .eq 15, 3) := by decide +kernel
theorem dX6_crop_8 : decode cX6_crop 8 = .ok (.iload_n 2, 1) := by decide +kernel
theorem dX6_crop_9 : decode cX6_crop 9 = .ok (.i2l, 1) := by decide +kernel
theorem dX6_crop_10 : decode cX6_crop 10 = .ok (.lconst 0, 1) := by decide +kernel
theorem dX6_crop_11 : decode cX6_crop 11 = .ok (.ldc2_w 142, 3) := by decide +kernel
theorem dX6_crop_14 : decode cX6_crop 14 = .ok (.invokestatic 45, 3) := by decide +kernel
theorem dX6_crop_17 : decode cX6_crop 17 = .ok (.ifCond .ne 5, 3) := by decide +kernel
theorem dX6_crop_20 : decode cX6_crop 20 = .ok (.iconst (-1), 1) := by decide +kernel
theorem dX6_crop_21 : decode cX6_crop 21 = .ok (.ireturn, 1) := by decide +kernel
theorem dX6_crop_22 : decode cX6_crop 22 = .ok (.aload_n 0, 1) := by decide +kernel
theorem dX6_crop_23 : decode cX6_crop 23 = .ok (.iload_n 1, 1) := by decide +kernel
theorem dX6_crop_24 : decode cX6_crop 24 = .ok (.aload_n 0, 1) := by decide +kernel
theorem dX6_crop_25 : decode cX6_crop 25 = .ok (.invokevirtual 144, 3) := by decide +kernel
theorem dX6_crop_28 : decode cX6_crop 28 = .ok (.invokevirtual 129, 3) := by decide +kernel
theorem dX6_crop_31 : decode cX6_crop 31 = .ok (.istore_n 3, 1) := by decide +kernel
theorem dX6_crop_32 : decode cX6_crop 32 = .ok (.iload_n 2, 1) := by decide +kernel
theorem dX6_crop_33 : decode cX6_crop 33 = .ok (.iconst 3, 1) := by decide +kernel
theorem dX6_crop_34 : decode cX6_crop 34 = .ok (.if_icmp .ge 19, 3) := by decide +kernel
theorem dX6_crop_37 : decode cX6_crop 37 = .ok (.aload_n 0, 1) := by decide +kernel
theorem dX6_crop_38 : decode cX6_crop 38 = .ok (.getfield 16, 3) := by decide +kernel
theorem dX6_crop_41 : decode cX6_crop 41 = .ok (.bipush 67, 2) := by decide +kernel
theorem dX6_crop_43 : decode cX6_crop 43 = .ok (.iconst 3, 1) := by decide +kernel
theorem dX6_crop_44 : decode cX6_crop 44 = .ok (.iload_n 1, 1) := by decide +kernel
theorem dX6_crop_45 : decode cX6_crop 45 = .ok (.imul, 1) := by decide +kernel
theorem dX6_crop_46 : decode cX6_crop 46 = .ok (.iadd, 1) := by decide +kernel
theorem dX6_crop_47 : decode cX6_crop 47 = .ok (.iload_n 2, 1) := by decide +kernel
theorem dX6_crop_48 : decode cX6_crop 48 = .ok (.iadd, 1) := by decide +kernel
theorem dX6_crop_49 : decode cX6_crop 49 = .ok (.iaload, 1) := by decide +kernel
theorem dX6_crop_50 : decode cX6_crop 50 = .ok (.goto 23, 3) := by decide +kernel
theorem dX6_crop_53 : decode cX6_crop 53 = .ok (.iload_n 2, 1) := by decide +kernel
theorem dX6_crop_54 : decode cX6_crop 54 = .ok (.iconst 3, 1) := by decide +kernel
theorem dX6_crop_55 : decode cX6_crop 55 = .ok (.if_icmp .ne 17, 3) := by decide +kernel
theorem dX6_crop_58 : decode cX6_crop 58 = .ok (.iload_n 3, 1) := by decide +kernel
theorem dX6_crop_59 : decode cX6_crop 59 = .ok (.bipush (-9), 2) := by decide +kernel
theorem dX6_crop_61 : decode cX6_crop 61 = .ok (.if_icmp .ne 7, 3) := by decide +kernel
theorem dX6_crop_64 : decode cX6_crop 64 = .ok (.iconst 0, 1) := by decide +kernel
theorem dX6_crop_65 : decode cX6_crop 65 = .ok (.goto 8, 3) := by decide +kernel
theorem dX6_crop_68 : decode cX6_crop 68 = .ok (.iconst 1, 1) := by decide +kernel
theorem dX6_crop_69 : decode cX6_crop 69 = .ok (.goto 4, 3) := by decide +kernel
theorem dX6_crop_72 : decode cX6_crop 72 = .ok (.iload_n 3, 1) := by decide +kernel
theorem dX6_crop_73 : decode cX6_crop 73 = .ok (.ireturn, 1) := by decide +kernel
theorem dX6_loan_0 : decode cX6_loan 0 = .ok (.iload_n 1, 1) := by decide +kernel
theorem dX6_loan_1 : decode cX6_loan 1 = .ok (.invokestatic 147, 3) := by decide +kernel
theorem dX6_loan_4 : decode cX6_loan 4 = .ok (.ifCond .eq 15, 3) := by decide +kernel
theorem dX6_loan_7 : decode cX6_loan 7 = .ok (.iload_n 2, 1) := by decide +kernel
theorem dX6_loan_8 : decode cX6_loan 8 = .ok (.i2l, 1) := by decide +kernel
theorem dX6_loan_9 : decode cX6_loan 9 = .ok (.lconst 0, 1) := by decide +kernel
theorem dX6_loan_10 : decode cX6_loan 10 = .ok (.ldc2_w 150, 3) := by decide +kernel
theorem dX6_loan_13 : decode cX6_loan 13 = .ok (.invokestatic 45, 3) := by decide +kernel
theorem dX6_loan_16 : decode cX6_loan 16 = .ok (.ifCond .ne 5, 3) := by decide +kernel
theorem dX6_loan_19 : decode cX6_loan 19 = .ok (.iconst (-1), 1) := by decide +kernel
theorem dX6_loan_20 : decode cX6_loan 20 = .ok (.ireturn, 1) := by decide +kernel
theorem dX6_loan_21 : decode cX6_loan 21 = .ok (.aload_n 0, 1) := by decide +kernel
theorem dX6_loan_22 : decode cX6_loan 22 = .ok (.iload_n 1, 1) := by decide +kernel
theorem dX6_loan_23 : decode cX6_loan 23 = .ok (.invokevirtual 122, 3) := by decide +kernel
theorem dX6_loan_26 : decode cX6_loan 26 = .ok (.ifCond .ne 8, 3) := by decide +kernel
theorem dX6_loan_29 : decode cX6_loan 29 = .ok (.bipush (-9), 2) := by decide +kernel
theorem dX6_loan_31 : decode cX6_loan 31 = .ok (.goto 15, 3) := by decide +kernel
theorem dX6_loan_34 : decode cX6_loan 34 = .ok (.aload_n 0, 1) := by decide +kernel
theorem dX6_loan_35 : decode cX6_loan 35 = .ok (.getfield 19, 3) := by decide +kernel
theorem dX6_loan_38 : decode cX6_loan 38 = .ok (.iconst 3, 1) := by decide +kernel
theorem dX6_loan_39 : decode cX6_loan 39 = .ok (.iconst 3, 1) := by decide +kernel
theorem dX6_loan_40 : decode cX6_loan 40 = .ok (.iload_n 1, 1) := by decide +kernel
theorem dX6_loan_41 : decode cX6_loan 41 = .ok (.imul, 1) := by decide +kernel
theorem dX6_loan_42 : decode cX6_loan 42 = .ok (.iadd, 1) := by decide +kernel
theorem dX6_loan_43 : decode cX6_loan 43 = .ok (.iload_n 2, 1) := by decide +kernel
theorem dX6_loan_44 : decode cX6_loan 44 = .ok (.iadd, 1) := by decide +kernel
theorem dX6_loan_45 : decode cX6_loan 45 = .ok (.iaload, 1) := by decide +kernel
theorem dX6_loan_46 : decode cX6_loan 46 = .ok (.ireturn, 1) := by decide +kernel
theorem dX6_notes_0 : decode cX6_notes 0 = .ok (.aload_n 0, 1) := by decide +kernel
theorem dX6_notes_1 : decode cX6_notes 1 = .ok (.getfield 113, 3) := by decide +kernel
theorem dX6_notes_4 : decode cX6_notes 4 = .ok (.bipush 10, 2) := by decide +kernel
theorem dX6_notes_6 : decode cX6_notes 6 = .ok (.if_icmp .ne 40, 3) := by decide +kernel
theorem dX6_notes_9 : decode cX6_notes 9 = .ok (.bipush 15, 2) := by decide +kernel
theorem dX6_notes_11 : decode cX6_notes 11 = .ok (.istore_n 1, 1) := by decide +kernel
theorem dX6_notes_12 : decode cX6_notes 12 = .ok (.iload_n 1, 1) := by decide +kernel
theorem dX6_notes_13 : decode cX6_notes 13 = .ok (.sipush 150, 3) := by decide +kernel
theorem dX6_notes_16 : decode cX6_notes 16 = .ok (.if_icmp .ge 24, 3) := by decide +kernel
theorem dX6_notes_19 : decode cX6_notes 19 = .ok (.aload_n 0, 1) := by decide +kernel
theorem dX6_notes_20 : decode cX6_notes 20 = .ok (.getfield 22, 3) := by decide +kernel
theorem dX6_notes_23 : decode cX6_notes 23 = .ok (.iload_n 1, 1) := by decide +kernel
theorem dX6_notes_24 : decode cX6_notes 24 = .ok (.bipush 15, 2) := by decide +kernel
theorem dX6_notes_26 : decode cX6_notes 26 = .ok (.isub, 1) := by decide +kernel
theorem dX6_notes_27 : decode cX6_notes 27 = .ok (.aload_n 0, 1) := by decide +kernel
theorem dX6_notes_28 : decode cX6_notes 28 = .ok (.getfield 22, 3) := by decide +kernel
theorem dX6_notes_31 : decode cX6_notes 31 = .ok (.iload_n 1, 1) := by decide +kernel
theorem dX6_notes_32 : decode cX6_notes 32 = .ok (.iaload, 1) := by decide +kernel
theorem dX6_notes_33 : decode cX6_notes 33 = .ok (.iastore, 1) := by decide +kernel
theorem dX6_notes_34 : decode cX6_notes 34 = .ok (.iinc 1 1, 3) := by decide +kernel
theorem dX6_notes_37 : decode cX6_notes 37 = .ok (.goto (-25), 3) := by decide +kernel
theorem dX6_notes_40 : decode cX6_notes 40 = .ok (.aload_n 0, 1) := by decide +kernel
theorem dX6_notes_41 : decode cX6_notes 41 = .ok (.bipush 9, 2) := by decide +kernel
theorem dX6_notes_43 : decode cX6_notes 43 = .ok (.putfield 113, 3) := by decide +kernel
theorem dX6_notes_46 : decode cX6_notes 46 = .ok (.iconst 0, 1) := by decide +kernel
theorem dX6_notes_47 : decode cX6_notes 47 = .ok (.istore_n 1, 1) := by decide +kernel
theorem dX6_notes_48 : decode cX6_notes 48 = .ok (.iload_n 1, 1) := by decide +kernel
theorem dX6_notes_49 : decode cX6_notes 49 = .ok (.bipush 15, 2) := by decide +kernel
theorem dX6_notes_51 : decode cX6_notes 51 = .ok (.if_icmp .ge 29, 3) := by decide +kernel
theorem dX6_notes_54 : decode cX6_notes 54 = .ok (.aload_n 0, 1) := by decide +kernel
theorem dX6_notes_55 : decode cX6_notes 55 = .ok (.getfield 22, 3) := by decide +kernel
theorem dX6_notes_58 : decode cX6_notes 58 = .ok (.bipush 15, 2) := by decide +kernel
theorem dX6_notes_60 : decode cX6_notes 60 = .ok (.aload_n 0, 1) := by decide +kernel
theorem dX6_notes_61 : decode cX6_notes 61 = .ok (.getfield 113, 3) := by decide +kernel
theorem dX6_notes_64 : decode cX6_notes 64 = .ok (.imul, 1) := by decide +kernel
theorem dX6_notes_65 : decode cX6_notes 65 = .ok (.iload_n 1, 1) := by decide +kernel
theorem dX6_notes_66 : decode cX6_notes 66 = .ok (.iadd, 1) := by decide +kernel
theorem dX6_notes_67 : decode cX6_notes 67 = .ok (.aload_n 0, 1) := by decide +kernel
theorem dX6_notes_68 : decode cX6_notes 68 = .ok (.getfield 19, 3) := by decide +kernel
theorem dX6_notes_71 : decode cX6_notes 71 = .ok (.iload_n 1, 1) := by decide +kernel
theorem dX6_notes_72 : decode cX6_notes 72 = .ok (.iaload, 1) := by decide +kernel
theorem dX6_notes_73 : decode cX6_notes 73 = .ok (.iastore, 1) := by decide +kernel
theorem dX6_notes_74 : decode cX6_notes 74 = .ok (.iinc 1 1, 3) := by decide +kernel
theorem dX6_notes_77 : decode cX6_notes 77 = .ok (.goto (-29), 3) := by decide +kernel
theorem dX6_notes_80 : decode cX6_notes 80 = .ok (.aload_n 0, 1) := by decide +kernel
theorem dX6_notes_81 : decode cX6_notes 81 = .ok (.dup, 1) := by decide +kernel
theorem dX6_notes_82 : decode cX6_notes 82 = .ok (.getfield 113, 3) := by decide +kernel
theorem dX6_notes_85 : decode cX6_notes 85 = .ok (.iconst 1, 1) := by decide +kernel
theorem dX6_notes_86 : decode cX6_notes 86 = .ok (.iadd, 1) := by decide +kernel
theorem dX6_notes_87 : decode cX6_notes 87 = .ok (.putfield 113, 3) := by decide +kernel
theorem dX6_notes_90 : decode cX6_notes 90 = .ok (.return_, 1) := by decide +kernel
theorem dX6_row_0 : decode cX6_row 0 = .ok (.iconst 1, 1) := by decide +kernel
theorem dX6_row_1 : decode cX6_row 1 = .ok (.iload_n 1, 1) := by decide +kernel
theorem dX6_row_2 : decode cX6_row 2 = .ok (.ishl, 1) := by decide +kernel
theorem dX6_row_3 : decode cX6_row 3 = .ok (.iconst 1, 1) := by decide +kernel
theorem dX6_row_4 : decode cX6_row 4 = .ok (.isub, 1) := by decide +kernel
theorem dX6_row_5 : decode cX6_row 5 = .ok (.iload_n 0, 1) := by decide +kernel
theorem dX6_row_6 : decode cX6_row 6 = .ok (.ishl, 1) := by decide +kernel
theorem dX6_row_7 : decode cX6_row 7 = .ok (.ireturn, 1) := by decide +kernel
theorem dX6_lendsOf_0 : decode cX6_lendsOf 0 = .ok (.iconst 0, 1) := by decide +kernel
theorem dX6_lendsOf_1 : decode cX6_lendsOf 1 = .ok (.istore_n 3, 1) := by decide +kernel
theorem dX6_lendsOf_2 : decode cX6_lendsOf 2 = .ok (.iload_n 1, 1) := by decide +kernel
theorem dX6_lendsOf_3 : decode cX6_lendsOf 3 = .ok (.istore 4, 2) := by decide +kernel
theorem dX6_lendsOf_5 : decode cX6_lendsOf 5 = .ok (.iload 4, 2) := by decide +kernel
theorem dX6_lendsOf_7 : decode cX6_lendsOf 7 = .ok (.iload_n 1, 1) := by decide +kernel
theorem dX6_lendsOf_8 : decode cX6_lendsOf 8 = .ok (.iload_n 2, 1) := by decide +kernel
theorem dX6_lendsOf_9 : decode cX6_lendsOf 9 = .ok (.iadd, 1) := by decide +kernel
theorem dX6_lendsOf_10 : decode cX6_lendsOf 10 = .ok (.if_icmp .ge 31, 3) := by decide +kernel
theorem dX6_lendsOf_13 : decode cX6_lendsOf 13 = .ok (.iload 4, 2) := by decide +kernel
theorem dX6_lendsOf_15 : decode cX6_lendsOf 15 = .ok (.aload_n 0, 1) := by decide +kernel
theorem dX6_lendsOf_16 : decode cX6_lendsOf 16 = .ok (.invokevirtual 116, 3) := by decide +kernel
theorem dX6_lendsOf_19 : decode cX6_lendsOf 19 = .ok (.if_icmp .ge 22, 3) := by decide +kernel
theorem dX6_lendsOf_22 : decode cX6_lendsOf 22 = .ok (.iload_n 3, 1) := by decide +kernel
theorem dX6_lendsOf_23 : decode cX6_lendsOf 23 = .ok (.aload_n 0, 1) := by decide +kernel
theorem dX6_lendsOf_24 : decode cX6_lendsOf 24 = .ok (.getfield 16, 3) := by decide +kernel
theorem dX6_lendsOf_27 : decode cX6_lendsOf 27 = .ok (.bipush 7, 2) := by decide +kernel
theorem dX6_lendsOf_29 : decode cX6_lendsOf 29 = .ok (.iload 4, 2) := by decide +kernel
theorem dX6_lendsOf_31 : decode cX6_lendsOf 31 = .ok (.iadd, 1) := by decide +kernel
theorem dX6_lendsOf_32 : decode cX6_lendsOf 32 = .ok (.iaload, 1) := by decide +kernel
theorem dX6_lendsOf_33 : decode cX6_lendsOf 33 = .ok (.iadd, 1) := by decide +kernel
theorem dX6_lendsOf_34 : decode cX6_lendsOf 34 = .ok (.istore_n 3, 1) := by decide +kernel
theorem dX6_lendsOf_35 : decode cX6_lendsOf 35 = .ok (.iinc 4 1, 3) := by decide +kernel
theorem dX6_lendsOf_38 : decode cX6_lendsOf 38 = .ok (.goto (-33), 3) := by decide +kernel
theorem dX6_lendsOf_41 : decode cX6_lendsOf 41 = .ok (.aload_n 0, 1) := by decide +kernel
theorem dX6_lendsOf_42 : decode cX6_lendsOf 42 = .ok (.getfield 16, 3) := by decide +kernel
theorem dX6_lendsOf_45 : decode cX6_lendsOf 45 = .ok (.iconst 3, 1) := by decide +kernel
theorem dX6_lendsOf_46 : decode cX6_lendsOf 46 = .ok (.iaload, 1) := by decide +kernel
theorem dX6_lendsOf_47 : decode cX6_lendsOf 47 = .ok (.iload_n 3, 1) := by decide +kernel
theorem dX6_lendsOf_48 : decode cX6_lendsOf 48 = .ok (.imul, 1) := by decide +kernel
theorem dX6_lendsOf_49 : decode cX6_lendsOf 49 = .ok (.ireturn, 1) := by decide +kernel
theorem dX6_isFree_0 : decode cX6_isFree 0 = .ok (.iload_n 1, 1) := by decide +kernel
theorem dX6_isFree_1 : decode cX6_isFree 1 = .ok (.iload_n 2, 1) := by decide +kernel
theorem dX6_isFree_2 : decode cX6_isFree 2 = .ok (.iadd, 1) := by decide +kernel
theorem dX6_isFree_3 : decode cX6_isFree 3 = .ok (.aload_n 0, 1) := by decide +kernel
theorem dX6_isFree_4 : decode cX6_isFree 4 = .ok (.invokevirtual 116, 3) := by decide +kernel
theorem dX6_isFree_7 : decode cX6_isFree 7 = .ok (.if_icmp .gt 20, 3) := by decide +kernel
theorem dX6_isFree_10 : decode cX6_isFree 10 = .ok (.iload_n 1, 1) := by decide +kernel
theorem dX6_isFree_11 : decode cX6_isFree 11 = .ok (.iload_n 2, 1) := by decide +kernel
theorem dX6_isFree_12 : decode cX6_isFree 12 = .ok (.invokestatic 152, 3) := by decide +kernel
theorem dX6_isFree_15 : decode cX6_isFree 15 = .ok (.aload_n 0, 1) := by decide +kernel
theorem dX6_isFree_16 : decode cX6_isFree 16 = .ok (.invokevirtual 144, 3) := by decide +kernel
theorem dX6_isFree_19 : decode cX6_isFree 19 = .ok (.iand, 1) := by decide +kernel
theorem dX6_isFree_20 : decode cX6_isFree 20 = .ok (.ifCond .ne 7, 3) := by decide +kernel
theorem dX6_isFree_23 : decode cX6_isFree 23 = .ok (.iconst 1, 1) := by decide +kernel
theorem dX6_isFree_24 : decode cX6_isFree 24 = .ok (.goto 4, 3) := by decide +kernel
theorem dX6_isFree_27 : decode cX6_isFree 27 = .ok (.iconst 0, 1) := by decide +kernel
theorem dX6_isFree_28 : decode cX6_isFree 28 = .ok (.ireturn, 1) := by decide +kernel
theorem dX6_pawns_0 : decode cX6_pawns 0 = .ok (.aload_n 0, 1) := by decide +kernel
theorem dX6_pawns_1 : decode cX6_pawns 1 = .ok (.iload_n 1, 1) := by decide +kernel
theorem dX6_pawns_2 : decode cX6_pawns 2 = .ok (.invokevirtual 136, 3) := by decide +kernel
theorem dX6_pawns_5 : decode cX6_pawns 5 = .ok (.ifCond .eq 15, 3) := by decide +kernel
theorem dX6_pawns_8 : decode cX6_pawns 8 = .ok (.iload_n 2, 1) := by decide +kernel
theorem dX6_pawns_9 : decode cX6_pawns 9 = .ok (.i2l, 1) := by decide +kernel
theorem dX6_pawns_10 : decode cX6_pawns 10 = .ok (.lconst 1, 1) := by decide +kernel
theorem dX6_pawns_11 : decode cX6_pawns 11 = .ok (.ldc2_w 155, 3) := by decide +kernel
theorem dX6_pawns_14 : decode cX6_pawns 14 = .ok (.invokestatic 45, 3) := by decide +kernel
theorem dX6_pawns_17 : decode cX6_pawns 17 = .ok (.ifCond .ne 5, 3) := by decide +kernel
theorem dX6_pawns_20 : decode cX6_pawns 20 = .ok (.iconst (-1), 1) := by decide +kernel
theorem dX6_pawns_21 : decode cX6_pawns 21 = .ok (.ireturn, 1) := by decide +kernel
theorem dX6_pawns_22 : decode cX6_pawns 22 = .ok (.iconst 0, 1) := by decide +kernel
theorem dX6_pawns_23 : decode cX6_pawns 23 = .ok (.istore_n 3, 1) := by decide +kernel
theorem dX6_pawns_24 : decode cX6_pawns 24 = .ok (.iload_n 3, 1) := by decide +kernel
theorem dX6_pawns_25 : decode cX6_pawns 25 = .ok (.iconst 4, 1) := by decide +kernel
theorem dX6_pawns_26 : decode cX6_pawns 26 = .ok (.if_icmp .ge 17, 3) := by decide +kernel
theorem dX6_pawns_29 : decode cX6_pawns 29 = .ok (.aload_n 0, 1) := by decide +kernel
theorem dX6_pawns_30 : decode cX6_pawns 30 = .ok (.iload_n 3, 1) := by decide +kernel
theorem dX6_pawns_31 : decode cX6_pawns 31 = .ok (.invokevirtual 122, 3) := by decide +kernel
theorem dX6_pawns_34 : decode cX6_pawns 34 = .ok (.ifCond .eq 9, 3) := by decide +kernel
theorem dX6_pawns_37 : decode cX6_pawns 37 = .ok (.iinc 3 1, 3) := by decide +kernel
theorem dX6_pawns_40 : decode cX6_pawns 40 = .ok (.goto (-16), 3) := by decide +kernel
theorem dX6_pawns_43 : decode cX6_pawns 43 = .ok (.aload_n 0, 1) := by decide +kernel
theorem dX6_pawns_44 : decode cX6_pawns 44 = .ok (.iload_n 1, 1) := by decide +kernel
theorem dX6_pawns_45 : decode cX6_pawns 45 = .ok (.iload_n 2, 1) := by decide +kernel
theorem dX6_pawns_46 : decode cX6_pawns 46 = .ok (.invokevirtual 157, 3) := by decide +kernel
theorem dX6_pawns_49 : decode cX6_pawns 49 = .ok (.ifCond .eq 8, 3) := by decide +kernel
theorem dX6_pawns_52 : decode cX6_pawns 52 = .ok (.iload_n 3, 1) := by decide +kernel
theorem dX6_pawns_53 : decode cX6_pawns 53 = .ok (.iconst 4, 1) := by decide +kernel
theorem dX6_pawns_54 : decode cX6_pawns 54 = .ok (.if_icmp .ne 6, 3) := by decide +kernel
theorem dX6_pawns_57 : decode cX6_pawns 57 = .ok (.bipush (-2), 2) := by decide +kernel
theorem dX6_pawns_59 : decode cX6_pawns 59 = .ok (.ireturn, 1) := by decide +kernel
theorem dX6_pawns_60 : decode cX6_pawns 60 = .ok (.aload_n 0, 1) := by decide +kernel
theorem dX6_pawns_61 : decode cX6_pawns 61 = .ok (.invokevirtual 160, 3) := by decide +kernel
theorem dX6_pawns_64 : decode cX6_pawns 64 = .ok (.aload_n 0, 1) := by decide +kernel
theorem dX6_pawns_65 : decode cX6_pawns 65 = .ok (.iload_n 1, 1) := by decide +kernel
theorem dX6_pawns_66 : decode cX6_pawns 66 = .ok (.iload_n 2, 1) := by decide +kernel
theorem dX6_pawns_67 : decode cX6_pawns 67 = .ok (.invokevirtual 163, 3) := by decide +kernel
theorem dX6_pawns_70 : decode cX6_pawns 70 = .ok (.istore 4, 2) := by decide +kernel
theorem dX6_pawns_72 : decode cX6_pawns 72 = .ok (.aload_n 0, 1) := by decide +kernel
theorem dX6_pawns_73 : decode cX6_pawns 73 = .ok (.getfield 19, 3) := by decide +kernel
theorem dX6_pawns_76 : decode cX6_pawns 76 = .ok (.iconst 3, 1) := by decide +kernel
theorem dX6_pawns_77 : decode cX6_pawns 77 = .ok (.iconst 3, 1) := by decide +kernel
theorem dX6_pawns_78 : decode cX6_pawns 78 = .ok (.iload_n 3, 1) := by decide +kernel
theorem dX6_pawns_79 : decode cX6_pawns 79 = .ok (.imul, 1) := by decide +kernel
theorem dX6_pawns_80 : decode cX6_pawns 80 = .ok (.iadd, 1) := by decide +kernel
theorem dX6_pawns_81 : decode cX6_pawns 81 = .ok (.iload_n 1, 1) := by decide +kernel
theorem dX6_pawns_82 : decode cX6_pawns 82 = .ok (.iload_n 2, 1) := by decide +kernel
theorem dX6_pawns_83 : decode cX6_pawns 83 = .ok (.invokestatic 152, 3) := by decide +kernel
theorem dX6_pawns_86 : decode cX6_pawns 86 = .ok (.iastore, 1) := by decide +kernel
theorem dX6_pawns_87 : decode cX6_pawns 87 = .ok (.aload_n 0, 1) := by decide +kernel
theorem dX6_pawns_88 : decode cX6_pawns 88 = .ok (.getfield 19, 3) := by decide +kernel
theorem dX6_pawns_91 : decode cX6_pawns 91 = .ok (.iconst 3, 1) := by decide +kernel
theorem dX6_pawns_92 : decode cX6_pawns 92 = .ok (.iconst 3, 1) := by decide +kernel
theorem dX6_pawns_93 : decode cX6_pawns 93 = .ok (.iload_n 3, 1) := by decide +kernel
theorem dX6_pawns_94 : decode cX6_pawns 94 = .ok (.imul, 1) := by decide +kernel
theorem dX6_pawns_95 : decode cX6_pawns 95 = .ok (.iadd, 1) := by decide +kernel
theorem dX6_pawns_96 : decode cX6_pawns 96 = .ok (.iconst 1, 1) := by decide +kernel
theorem dX6_pawns_97 : decode cX6_pawns 97 = .ok (.iadd, 1) := by decide +kernel
theorem dX6_pawns_98 : decode cX6_pawns 98 = .ok (.iload 4, 2) := by decide +kernel
theorem dX6_pawns_100 : decode cX6_pawns 100 = .ok (.iastore, 1) := by decide +kernel
theorem dX6_pawns_101 : decode cX6_pawns 101 = .ok (.aload_n 0, 1) := by decide +kernel
theorem dX6_pawns_102 : decode cX6_pawns 102 = .ok (.getfield 19, 3) := by decide +kernel
theorem dX6_pawns_105 : decode cX6_pawns 105 = .ok (.iconst 3, 1) := by decide +kernel
theorem dX6_pawns_106 : decode cX6_pawns 106 = .ok (.iconst 3, 1) := by decide +kernel
theorem dX6_pawns_107 : decode cX6_pawns 107 = .ok (.iload_n 3, 1) := by decide +kernel
theorem dX6_pawns_108 : decode cX6_pawns 108 = .ok (.imul, 1) := by decide +kernel
theorem dX6_pawns_109 : decode cX6_pawns 109 = .ok (.iadd, 1) := by decide +kernel
theorem dX6_pawns_110 : decode cX6_pawns 110 = .ok (.iconst 2, 1) := by decide +kernel
theorem dX6_pawns_111 : decode cX6_pawns 111 = .ok (.iadd, 1) := by decide +kernel
theorem dX6_pawns_112 : decode cX6_pawns 112 = .ok (.iconst 0, 1) := by decide +kernel
theorem dX6_pawns_113 : decode cX6_pawns 113 = .ok (.iastore, 1) := by decide +kernel
theorem dX6_pawns_114 : decode cX6_pawns 114 = .ok (.aload_n 0, 1) := by decide +kernel
theorem dX6_pawns_115 : decode cX6_pawns 115 = .ok (.getfield 19, 3) := by decide +kernel
theorem dX6_pawns_118 : decode cX6_pawns 118 = .ok (.iconst 0, 1) := by decide +kernel
theorem dX6_pawns_119 : decode cX6_pawns 119 = .ok (.dup2, 1) := by decide +kernel
theorem dX6_pawns_120 : decode cX6_pawns 120 = .ok (.iaload, 1) := by decide +kernel
theorem dX6_pawns_121 : decode cX6_pawns 121 = .ok (.iload 4, 2) := by decide +kernel
theorem dX6_pawns_123 : decode cX6_pawns 123 = .ok (.iadd, 1) := by decide +kernel
theorem dX6_pawns_124 : decode cX6_pawns 124 = .ok (.iastore, 1) := by decide +kernel
theorem dX6_pawns_125 : decode cX6_pawns 125 = .ok (.iload 4, 2) := by decide +kernel
theorem dX6_pawns_127 : decode cX6_pawns 127 = .ok (.ireturn, 1) := by decide +kernel
theorem dX6_frees_0 : decode cX6_frees 0 = .ok (.iconst 0, 1) := by decide +kernel
theorem dX6_frees_1 : decode cX6_frees 1 = .ok (.istore_n 2, 1) := by decide +kernel
theorem dX6_frees_2 : decode cX6_frees 2 = .ok (.iload_n 2, 1) := by decide +kernel
theorem dX6_frees_3 : decode cX6_frees 3 = .ok (.iconst 3, 1) := by decide +kernel
theorem dX6_frees_4 : decode cX6_frees 4 = .ok (.if_icmp .ge 22, 3) := by decide +kernel
theorem dX6_frees_7 : decode cX6_frees 7 = .ok (.aload_n 0, 1) := by decide +kernel
theorem dX6_frees_8 : decode cX6_frees 8 = .ok (.getfield 19, 3) := by decide +kernel
theorem dX6_frees_11 : decode cX6_frees 11 = .ok (.iconst 3, 1) := by decide +kernel
theorem dX6_frees_12 : decode cX6_frees 12 = .ok (.iconst 3, 1) := by decide +kernel
theorem dX6_frees_13 : decode cX6_frees 13 = .ok (.iload_n 1, 1) := by decide +kernel
theorem dX6_frees_14 : decode cX6_frees 14 = .ok (.imul, 1) := by decide +kernel
theorem dX6_frees_15 : decode cX6_frees 15 = .ok (.iadd, 1) := by decide +kernel
theorem dX6_frees_16 : decode cX6_frees 16 = .ok (.iload_n 2, 1) := by decide +kernel
theorem dX6_frees_17 : decode cX6_frees 17 = .ok (.iadd, 1) := by decide +kernel
theorem dX6_frees_18 : decode cX6_frees 18 = .ok (.iconst 0, 1) := by decide +kernel
theorem dX6_frees_19 : decode cX6_frees 19 = .ok (.iastore, 1) := by decide +kernel
theorem dX6_frees_20 : decode cX6_frees 20 = .ok (.iinc 2 1, 3) := by decide +kernel
theorem dX6_frees_23 : decode cX6_frees 23 = .ok (.goto (-21), 3) := by decide +kernel
theorem dX6_frees_26 : decode cX6_frees 26 = .ok (.return_, 1) := by decide +kernel
theorem dX6_redeems_0 : decode cX6_redeems 0 = .ok (.iload_n 1, 1) := by decide +kernel
theorem dX6_redeems_1 : decode cX6_redeems 1 = .ok (.invokestatic 147, 3) := by decide +kernel
theorem dX6_redeems_4 : decode cX6_redeems 4 = .ok (.ifCond .ne 5, 3) := by decide +kernel
theorem dX6_redeems_7 : decode cX6_redeems 7 = .ok (.iconst (-1), 1) := by decide +kernel
theorem dX6_redeems_8 : decode cX6_redeems 8 = .ok (.ireturn, 1) := by decide +kernel
theorem dX6_redeems_9 : decode cX6_redeems 9 = .ok (.aload_n 0, 1) := by decide +kernel
theorem dX6_redeems_10 : decode cX6_redeems 10 = .ok (.iload_n 1, 1) := by decide +kernel
theorem dX6_redeems_11 : decode cX6_redeems 11 = .ok (.invokevirtual 122, 3) := by decide +kernel
theorem dX6_redeems_14 : decode cX6_redeems 14 = .ok (.ifCond .eq 17, 3) := by decide +kernel
theorem dX6_redeems_17 : decode cX6_redeems 17 = .ok (.aload_n 0, 1) := by decide +kernel
theorem dX6_redeems_18 : decode cX6_redeems 18 = .ok (.iload_n 1, 1) := by decide +kernel
theorem dX6_redeems_19 : decode cX6_redeems 19 = .ok (.invokevirtual 166, 3) := by decide +kernel
theorem dX6_redeems_22 : decode cX6_redeems 22 = .ok (.aload_n 0, 1) := by decide +kernel
theorem dX6_redeems_23 : decode cX6_redeems 23 = .ok (.getfield 19, 3) := by decide +kernel
theorem dX6_redeems_26 : decode cX6_redeems 26 = .ok (.iconst 0, 1) := by decide +kernel
theorem dX6_redeems_27 : decode cX6_redeems 27 = .ok (.iaload, 1) := by decide +kernel
theorem dX6_redeems_28 : decode cX6_redeems 28 = .ok (.if_icmp .le 6, 3) := by decide +kernel
theorem dX6_redeems_31 : decode cX6_redeems 31 = .ok (.bipush (-2), 2) := by decide +kernel
theorem dX6_redeems_33 : decode cX6_redeems 33 = .ok (.ireturn, 1) := by decide +kernel
theorem dX6_redeems_34 : decode cX6_redeems 34 = .ok (.aload_n 0, 1) := by decide +kernel
theorem dX6_redeems_35 : decode cX6_redeems 35 = .ok (.invokevirtual 160, 3) := by decide +kernel
theorem dX6_redeems_38 : decode cX6_redeems 38 = .ok (.aload_n 0, 1) := by decide +kernel
theorem dX6_redeems_39 : decode cX6_redeems 39 = .ok (.getfield 19, 3) := by decide +kernel
theorem dX6_redeems_42 : decode cX6_redeems 42 = .ok (.iconst 0, 1) := by decide +kernel
theorem dX6_redeems_43 : decode cX6_redeems 43 = .ok (.dup2, 1) := by decide +kernel
theorem dX6_redeems_44 : decode cX6_redeems 44 = .ok (.iaload, 1) := by decide +kernel
theorem dX6_redeems_45 : decode cX6_redeems 45 = .ok (.aload_n 0, 1) := by decide +kernel
theorem dX6_redeems_46 : decode cX6_redeems 46 = .ok (.iload_n 1, 1) := by decide +kernel
theorem dX6_redeems_47 : decode cX6_redeems 47 = .ok (.invokevirtual 166, 3) := by decide +kernel
theorem dX6_redeems_50 : decode cX6_redeems 50 = .ok (.isub, 1) := by decide +kernel
theorem dX6_redeems_51 : decode cX6_redeems 51 = .ok (.iastore, 1) := by decide +kernel
theorem dX6_redeems_52 : decode cX6_redeems 52 = .ok (.aload_n 0, 1) := by decide +kernel
theorem dX6_redeems_53 : decode cX6_redeems 53 = .ok (.iload_n 1, 1) := by decide +kernel
theorem dX6_redeems_54 : decode cX6_redeems 54 = .ok (.invokevirtual 169, 3) := by decide +kernel
theorem dX6_redeems_57 : decode cX6_redeems 57 = .ok (.aload_n 0, 1) := by decide +kernel
theorem dX6_redeems_58 : decode cX6_redeems 58 = .ok (.getfield 19, 3) := by decide +kernel
theorem dX6_redeems_61 : decode cX6_redeems 61 = .ok (.iconst 0, 1) := by decide +kernel
theorem dX6_redeems_62 : decode cX6_redeems 62 = .ok (.iaload, 1) := by decide +kernel
theorem dX6_redeems_63 : decode cX6_redeems 63 = .ok (.ireturn, 1) := by decide +kernel
theorem dX6_goesBy_0 : decode cX6_goesBy 0 = .ok (.aload_n 0, 1) := by decide +kernel
theorem dX6_goesBy_1 : decode cX6_goesBy 1 = .ok (.aload_n 0, 1) := by decide +kernel
theorem dX6_goesBy_2 : decode cX6_goesBy 2 = .ok (.invokevirtual 144, 3) := by decide +kernel
theorem dX6_goesBy_5 : decode cX6_goesBy 5 = .ok (.invokevirtual 173, 3) := by decide +kernel
theorem dX6_goesBy_8 : decode cX6_goesBy 8 = .ok (.istore_n 1, 1) := by decide +kernel
theorem dX6_goesBy_9 : decode cX6_goesBy 9 = .ok (.aload_n 0, 1) := by decide +kernel
theorem dX6_goesBy_10 : decode cX6_goesBy 10 = .ok (.getfield 19, 3) := by decide +kernel
theorem dX6_goesBy_13 : decode cX6_goesBy 13 = .ok (.iconst 0, 1) := by decide +kernel
theorem dX6_goesBy_14 : decode cX6_goesBy 14 = .ok (.dup2, 1) := by decide +kernel
theorem dX6_goesBy_15 : decode cX6_goesBy 15 = .ok (.iaload, 1) := by decide +kernel
theorem dX6_goesBy_16 : decode cX6_goesBy 16 = .ok (.iload_n 1, 1) := by decide +kernel
theorem dX6_goesBy_17 : decode cX6_goesBy 17 = .ok (.iadd, 1) := by decide +kernel
theorem dX6_goesBy_18 : decode cX6_goesBy 18 = .ok (.iastore, 1) := by decide +kernel
theorem dX6_goesBy_19 : decode cX6_goesBy 19 = .ok (.iconst 0, 1) := by decide +kernel
theorem dX6_goesBy_20 : decode cX6_goesBy 20 = .ok (.istore_n 2, 1) := by decide +kernel
theorem dX6_goesBy_21 : decode cX6_goesBy 21 = .ok (.iload_n 2, 1) := by decide +kernel
theorem dX6_goesBy_22 : decode cX6_goesBy 22 = .ok (.iconst 4, 1) := by decide +kernel
theorem dX6_goesBy_23 : decode cX6_goesBy 23 = .ok (.if_icmp .ge 22, 3) := by decide +kernel
theorem dX6_goesBy_26 : decode cX6_goesBy 26 = .ok (.aload_n 0, 1) := by decide +kernel
theorem dX6_goesBy_27 : decode cX6_goesBy 27 = .ok (.iload_n 2, 1) := by decide +kernel
theorem dX6_goesBy_28 : decode cX6_goesBy 28 = .ok (.invokevirtual 122, 3) := by decide +kernel
theorem dX6_goesBy_31 : decode cX6_goesBy 31 = .ok (.ifCond .eq 8, 3) := by decide +kernel
theorem dX6_goesBy_34 : decode cX6_goesBy 34 = .ok (.aload_n 0, 1) := by decide +kernel
theorem dX6_goesBy_35 : decode cX6_goesBy 35 = .ok (.iload_n 2, 1) := by decide +kernel
theorem dX6_goesBy_36 : decode cX6_goesBy 36 = .ok (.invokevirtual 176, 3) := by decide +kernel
theorem dX6_goesBy_39 : decode cX6_goesBy 39 = .ok (.iinc 2 1, 3) := by decide +kernel
theorem dX6_goesBy_42 : decode cX6_goesBy 42 = .ok (.goto (-21), 3) := by decide +kernel
theorem dX6_goesBy_45 : decode cX6_goesBy 45 = .ok (.aload_n 0, 1) := by decide +kernel
theorem dX6_goesBy_46 : decode cX6_goesBy 46 = .ok (.getfield 19, 3) := by decide +kernel
theorem dX6_goesBy_49 : decode cX6_goesBy 49 = .ok (.iconst 1, 1) := by decide +kernel
theorem dX6_goesBy_50 : decode cX6_goesBy 50 = .ok (.dup2, 1) := by decide +kernel
theorem dX6_goesBy_51 : decode cX6_goesBy 51 = .ok (.iaload, 1) := by decide +kernel
theorem dX6_goesBy_52 : decode cX6_goesBy 52 = .ok (.iconst 1, 1) := by decide +kernel
theorem dX6_goesBy_53 : decode cX6_goesBy 53 = .ok (.iadd, 1) := by decide +kernel
theorem dX6_goesBy_54 : decode cX6_goesBy 54 = .ok (.iastore, 1) := by decide +kernel
theorem dX6_goesBy_55 : decode cX6_goesBy 55 = .ok (.iload_n 1, 1) := by decide +kernel
theorem dX6_goesBy_56 : decode cX6_goesBy 56 = .ok (.ireturn, 1) := by decide +kernel
theorem dX6_ages_0 : decode cX6_ages 0 = .ok (.aload_n 0, 1) := by decide +kernel
theorem dX6_ages_1 : decode cX6_ages 1 = .ok (.getfield 16, 3) := by decide +kernel
theorem dX6_ages_4 : decode cX6_ages 4 = .ok (.iconst 4, 1) := by decide +kernel
theorem dX6_ages_5 : decode cX6_ages 5 = .ok (.iaload, 1) := by decide +kernel
theorem dX6_ages_6 : decode cX6_ages 6 = .ok (.istore_n 2, 1) := by decide +kernel
theorem dX6_ages_7 : decode cX6_ages 7 = .ok (.iconst 0, 1) := by decide +kernel
theorem dX6_ages_8 : decode cX6_ages 8 = .ok (.istore_n 3, 1) := by decide +kernel
theorem dX6_ages_9 : decode cX6_ages 9 = .ok (.aload_n 0, 1) := by decide +kernel
theorem dX6_ages_10 : decode cX6_ages 10 = .ok (.iload_n 1, 1) := by decide +kernel
theorem dX6_ages_11 : decode cX6_ages 11 = .ok (.invokevirtual 122, 3) := by decide +kernel
theorem dX6_ages_14 : decode cX6_ages 14 = .ok (.iload_n 3, 1) := by decide +kernel
theorem dX6_ages_15 : decode cX6_ages 15 = .ok (.iconst 1, 1) := by decide +kernel
theorem dX6_ages_16 : decode cX6_ages 16 = .ok (.iadd, 1) := by decide +kernel
theorem dX6_ages_17 : decode cX6_ages 17 = .ok (.ishr, 1) := by decide +kernel
theorem dX6_ages_18 : decode cX6_ages 18 = .ok (.ifCond .eq 9, 3) := by decide +kernel
theorem dX6_ages_21 : decode cX6_ages 21 = .ok (.iinc 3 1, 3) := by decide +kernel
theorem dX6_ages_24 : decode cX6_ages 24 = .ok (.goto (-15), 3) := by decide +kernel
theorem dX6_ages_27 : decode cX6_ages 27 = .ok (.iload_n 3, 1) := by decide +kernel
theorem dX6_ages_28 : decode cX6_ages 28 = .ok (.iconst 1, 1) := by decide +kernel
theorem dX6_ages_29 : decode cX6_ages 29 = .ok (.iadd, 1) := by decide +kernel
theorem dX6_ages_30 : decode cX6_ages 30 = .ok (.istore 4, 2) := by decide +kernel
theorem dX6_ages_32 : decode cX6_ages 32 = .ok (.iload 4, 2) := by decide +kernel
theorem dX6_ages_34 : decode cX6_ages 34 = .ok (.aload_n 0, 1) := by decide +kernel
theorem dX6_ages_35 : decode cX6_ages 35 = .ok (.invokevirtual 116, 3) := by decide +kernel
theorem dX6_ages_38 : decode cX6_ages 38 = .ok (.if_icmp .ge 45, 3) := by decide +kernel
theorem dX6_ages_41 : decode cX6_ages 41 = .ok (.iload_n 2, 1) := by decide +kernel
theorem dX6_ages_42 : decode cX6_ages 42 = .ok (.ifCond .le 41, 3) := by decide +kernel
theorem dX6_ages_45 : decode cX6_ages 45 = .ok (.aload_n 0, 1) := by decide +kernel
theorem dX6_ages_46 : decode cX6_ages 46 = .ok (.invokevirtual 144, 3) := by decide +kernel
theorem dX6_ages_49 : decode cX6_ages 49 = .ok (.iload 4, 2) := by decide +kernel
theorem dX6_ages_51 : decode cX6_ages 51 = .ok (.ishr, 1) := by decide +kernel
theorem dX6_ages_52 : decode cX6_ages 52 = .ok (.iconst 1, 1) := by decide +kernel
theorem dX6_ages_53 : decode cX6_ages 53 = .ok (.iand, 1) := by decide +kernel
theorem dX6_ages_54 : decode cX6_ages 54 = .ok (.ifCond .ne 23, 3) := by decide +kernel
theorem dX6_ages_57 : decode cX6_ages 57 = .ok (.aload_n 0, 1) := by decide +kernel
theorem dX6_ages_58 : decode cX6_ages 58 = .ok (.getfield 19, 3) := by decide +kernel
theorem dX6_ages_61 : decode cX6_ages 61 = .ok (.iconst 3, 1) := by decide +kernel
theorem dX6_ages_62 : decode cX6_ages 62 = .ok (.iconst 3, 1) := by decide +kernel
theorem dX6_ages_63 : decode cX6_ages 63 = .ok (.iload_n 1, 1) := by decide +kernel
theorem dX6_ages_64 : decode cX6_ages 64 = .ok (.imul, 1) := by decide +kernel
theorem dX6_ages_65 : decode cX6_ages 65 = .ok (.iadd, 1) := by decide +kernel
theorem dX6_ages_66 : decode cX6_ages 66 = .ok (.dup2, 1) := by decide +kernel
theorem dX6_ages_67 : decode cX6_ages 67 = .ok (.iaload, 1) := by decide +kernel
theorem dX6_ages_68 : decode cX6_ages 68 = .ok (.iconst 1, 1) := by decide +kernel
theorem dX6_ages_69 : decode cX6_ages 69 = .ok (.iload 4, 2) := by decide +kernel
theorem dX6_ages_71 : decode cX6_ages 71 = .ok (.ishl, 1) := by decide +kernel
theorem dX6_ages_72 : decode cX6_ages 72 = .ok (.ior, 1) := by decide +kernel
theorem dX6_ages_73 : decode cX6_ages 73 = .ok (.iastore, 1) := by decide +kernel
theorem dX6_ages_74 : decode cX6_ages 74 = .ok (.iinc 2 (-1), 3) := by decide +kernel
theorem dX6_ages_77 : decode cX6_ages 77 = .ok (.iinc 4 1, 3) := by decide +kernel
theorem dX6_ages_80 : decode cX6_ages 80 = .ok (.goto (-48), 3) := by decide +kernel
theorem dX6_ages_83 : decode cX6_ages 83 = .ok (.aload_n 0, 1) := by decide +kernel
theorem dX6_ages_84 : decode cX6_ages 84 = .ok (.getfield 19, 3) := by decide +kernel
theorem dX6_ages_87 : decode cX6_ages 87 = .ok (.iconst 3, 1) := by decide +kernel
theorem dX6_ages_88 : decode cX6_ages 88 = .ok (.iconst 3, 1) := by decide +kernel
theorem dX6_ages_89 : decode cX6_ages 89 = .ok (.iload_n 1, 1) := by decide +kernel
theorem dX6_ages_90 : decode cX6_ages 90 = .ok (.imul, 1) := by decide +kernel
theorem dX6_ages_91 : decode cX6_ages 91 = .ok (.iadd, 1) := by decide +kernel
theorem dX6_ages_92 : decode cX6_ages 92 = .ok (.iconst 2, 1) := by decide +kernel
theorem dX6_ages_93 : decode cX6_ages 93 = .ok (.iadd, 1) := by decide +kernel
theorem dX6_ages_94 : decode cX6_ages 94 = .ok (.dup2, 1) := by decide +kernel
theorem dX6_ages_95 : decode cX6_ages 95 = .ok (.iaload, 1) := by decide +kernel
theorem dX6_ages_96 : decode cX6_ages 96 = .ok (.iconst 1, 1) := by decide +kernel
theorem dX6_ages_97 : decode cX6_ages 97 = .ok (.iadd, 1) := by decide +kernel
theorem dX6_ages_98 : decode cX6_ages 98 = .ok (.iastore, 1) := by decide +kernel
theorem dX6_ages_99 : decode cX6_ages 99 = .ok (.aload_n 0, 1) := by decide +kernel
theorem dX6_ages_100 : decode cX6_ages 100 = .ok (.getfield 19, 3) := by decide +kernel
theorem dX6_ages_103 : decode cX6_ages 103 = .ok (.iconst 3, 1) := by decide +kernel
theorem dX6_ages_104 : decode cX6_ages 104 = .ok (.iconst 3, 1) := by decide +kernel
theorem dX6_ages_105 : decode cX6_ages 105 = .ok (.iload_n 1, 1) := by decide +kernel
theorem dX6_ages_106 : decode cX6_ages 106 = .ok (.imul, 1) := by decide +kernel
theorem dX6_ages_107 : decode cX6_ages 107 = .ok (.iadd, 1) := by decide +kernel
theorem dX6_ages_108 : decode cX6_ages 108 = .ok (.iconst 2, 1) := by decide +kernel
theorem dX6_ages_109 : decode cX6_ages 109 = .ok (.iadd, 1) := by decide +kernel
theorem dX6_ages_110 : decode cX6_ages 110 = .ok (.iaload, 1) := by decide +kernel
theorem dX6_ages_111 : decode cX6_ages 111 = .ok (.aload_n 0, 1) := by decide +kernel
theorem dX6_ages_112 : decode cX6_ages 112 = .ok (.getfield 16, 3) := by decide +kernel
theorem dX6_ages_115 : decode cX6_ages 115 = .ok (.iconst 5, 1) := by decide +kernel
theorem dX6_ages_116 : decode cX6_ages 116 = .ok (.iaload, 1) := by decide +kernel
theorem dX6_ages_117 : decode cX6_ages 117 = .ok (.if_icmp .ne 22, 3) := by decide +kernel
theorem dX6_ages_120 : decode cX6_ages 120 = .ok (.aload_n 0, 1) := by decide +kernel
theorem dX6_ages_121 : decode cX6_ages 121 = .ok (.getfield 19, 3) := by decide +kernel
theorem dX6_ages_124 : decode cX6_ages 124 = .ok (.iconst 2, 1) := by decide +kernel
theorem dX6_ages_125 : decode cX6_ages 125 = .ok (.dup2, 1) := by decide +kernel
theorem dX6_ages_126 : decode cX6_ages 126 = .ok (.iaload, 1) := by decide +kernel
theorem dX6_ages_127 : decode cX6_ages 127 = .ok (.aload_n 0, 1) := by decide +kernel
theorem dX6_ages_128 : decode cX6_ages 128 = .ok (.iload_n 1, 1) := by decide +kernel
theorem dX6_ages_129 : decode cX6_ages 129 = .ok (.invokevirtual 122, 3) := by decide +kernel
theorem dX6_ages_132 : decode cX6_ages 132 = .ok (.ior, 1) := by decide +kernel
theorem dX6_ages_133 : decode cX6_ages 133 = .ok (.iastore, 1) := by decide +kernel
theorem dX6_ages_134 : decode cX6_ages 134 = .ok (.aload_n 0, 1) := by decide +kernel
theorem dX6_ages_135 : decode cX6_ages 135 = .ok (.iload_n 1, 1) := by decide +kernel
theorem dX6_ages_136 : decode cX6_ages 136 = .ok (.invokevirtual 169, 3) := by decide +kernel
theorem dX6_ages_139 : decode cX6_ages 139 = .ok (.return_, 1) := by decide +kernel
theorem dX6_year_0 : decode cX6_year 0 = .ok (.aload_n 0, 1) := by decide +kernel
theorem dX6_year_1 : decode cX6_year 1 = .ok (.getfield 19, 3) := by decide +kernel
theorem dX6_year_4 : decode cX6_year 4 = .ok (.iconst 1, 1) := by decide +kernel
theorem dX6_year_5 : decode cX6_year 5 = .ok (.iaload, 1) := by decide +kernel
theorem dX6_year_6 : decode cX6_year 6 = .ok (.bipush 99, 2) := by decide +kernel
theorem dX6_year_8 : decode cX6_year 8 = .ok (.if_icmp .ne 6, 3) := by decide +kernel
theorem dX6_year_11 : decode cX6_year 11 = .ok (.bipush (-2), 2) := by decide +kernel
theorem dX6_year_13 : decode cX6_year 13 = .ok (.ireturn, 1) := by decide +kernel
theorem dX6_year_14 : decode cX6_year 14 = .ok (.aload_n 0, 1) := by decide +kernel
theorem dX6_year_15 : decode cX6_year 15 = .ok (.invokevirtual 160, 3) := by decide +kernel
theorem dX6_year_18 : decode cX6_year 18 = .ok (.aload_n 0, 1) := by decide +kernel
theorem dX6_year_19 : decode cX6_year 19 = .ok (.invokevirtual 179, 3) := by decide +kernel
theorem dX6_year_22 : decode cX6_year 22 = .ok (.ireturn, 1) := by decide +kernel
theorem dX6_undo_0 : decode cX6_undo 0 = .ok (.aload_n 0, 1) := by decide +kernel
theorem dX6_undo_1 : decode cX6_undo 1 = .ok (.getfield 113, 3) := by decide +kernel
theorem dX6_undo_4 : decode cX6_undo 4 = .ok (.ifCond .ne 6, 3) := by decide +kernel
theorem dX6_undo_7 : decode cX6_undo 7 = .ok (.bipush (-2), 2) := by decide +kernel
theorem dX6_undo_9 : decode cX6_undo 9 = .ok (.ireturn, 1) := by decide +kernel
theorem dX6_undo_10 : decode cX6_undo 10 = .ok (.aload_n 0, 1) := by decide +kernel
theorem dX6_undo_11 : decode cX6_undo 11 = .ok (.dup, 1) := by decide +kernel
theorem dX6_undo_12 : decode cX6_undo 12 = .ok (.getfield 113, 3) := by decide +kernel
theorem dX6_undo_15 : decode cX6_undo 15 = .ok (.iconst 1, 1) := by decide +kernel
theorem dX6_undo_16 : decode cX6_undo 16 = .ok (.isub, 1) := by decide +kernel
theorem dX6_undo_17 : decode cX6_undo 17 = .ok (.putfield 113, 3) := by decide +kernel
theorem dX6_undo_20 : decode cX6_undo 20 = .ok (.iconst 0, 1) := by decide +kernel
theorem dX6_undo_21 : decode cX6_undo 21 = .ok (.istore_n 1, 1) := by decide +kernel
theorem dX6_undo_22 : decode cX6_undo 22 = .ok (.iload_n 1, 1) := by decide +kernel
theorem dX6_undo_23 : decode cX6_undo 23 = .ok (.bipush 15, 2) := by decide +kernel
theorem dX6_undo_25 : decode cX6_undo 25 = .ok (.if_icmp .ge 29, 3) := by decide +kernel
theorem dX6_undo_28 : decode cX6_undo 28 = .ok (.aload_n 0, 1) := by decide +kernel
theorem dX6_undo_29 : decode cX6_undo 29 = .ok (.getfield 19, 3) := by decide +kernel
theorem dX6_undo_32 : decode cX6_undo 32 = .ok (.iload_n 1, 1) := by decide +kernel
theorem dX6_undo_33 : decode cX6_undo 33 = .ok (.aload_n 0, 1) := by decide +kernel
theorem dX6_undo_34 : decode cX6_undo 34 = .ok (.getfield 22, 3) := by decide +kernel
theorem dX6_undo_37 : decode cX6_undo 37 = .ok (.bipush 15, 2) := by decide +kernel
theorem dX6_undo_39 : decode cX6_undo 39 = .ok (.aload_n 0, 1) := by decide +kernel
theorem dX6_undo_40 : decode cX6_undo 40 = .ok (.getfield 113, 3) := by decide +kernel
theorem dX6_undo_43 : decode cX6_undo 43 = .ok (.imul, 1) := by decide +kernel
theorem dX6_undo_44 : decode cX6_undo 44 = .ok (.iload_n 1, 1) := by decide +kernel
theorem dX6_undo_45 : decode cX6_undo 45 = .ok (.iadd, 1) := by decide +kernel
theorem dX6_undo_46 : decode cX6_undo 46 = .ok (.iaload, 1) := by decide +kernel
theorem dX6_undo_47 : decode cX6_undo 47 = .ok (.iastore, 1) := by decide +kernel
theorem dX6_undo_48 : decode cX6_undo 48 = .ok (.iinc 1 1, 3) := by decide +kernel
theorem dX6_undo_51 : decode cX6_undo 51 = .ok (.goto (-29), 3) := by decide +kernel
theorem dX6_undo_54 : decode cX6_undo 54 = .ok (.aload_n 0, 1) := by decide +kernel
theorem dX6_undo_55 : decode cX6_undo 55 = .ok (.getfield 113, 3) := by decide +kernel
theorem dX6_undo_58 : decode cX6_undo 58 = .ok (.ireturn, 1) := by decide +kernel
theorem dX6_gap_0 : decode cX6_gap 0 = .ok (.iconst 0, 1) := by decide +kernel
theorem dX6_gap_1 : decode cX6_gap 1 = .ok (.istore_n 1, 1) := by decide +kernel
theorem dX6_gap_2 : decode cX6_gap 2 = .ok (.iconst 0, 1) := by decide +kernel
theorem dX6_gap_3 : decode cX6_gap 3 = .ok (.istore_n 2, 1) := by decide +kernel
theorem dX6_gap_4 : decode cX6_gap 4 = .ok (.iconst 0, 1) := by decide +kernel
theorem dX6_gap_5 : decode cX6_gap 5 = .ok (.istore_n 3, 1) := by decide +kernel
theorem dX6_gap_6 : decode cX6_gap 6 = .ok (.iload_n 3, 1) := by decide +kernel
theorem dX6_gap_7 : decode cX6_gap 7 = .ok (.aload_n 0, 1) := by decide +kernel
theorem dX6_gap_8 : decode cX6_gap 8 = .ok (.invokevirtual 116, 3) := by decide +kernel
theorem dX6_gap_11 : decode cX6_gap 11 = .ok (.if_icmp .ge 40, 3) := by decide +kernel
theorem dX6_gap_14 : decode cX6_gap 14 = .ok (.aload_n 0, 1) := by decide +kernel
theorem dX6_gap_15 : decode cX6_gap 15 = .ok (.invokevirtual 144, 3) := by decide +kernel
theorem dX6_gap_18 : decode cX6_gap 18 = .ok (.iload_n 3, 1) := by decide +kernel
theorem dX6_gap_19 : decode cX6_gap 19 = .ok (.ishr, 1) := by decide +kernel
theorem dX6_gap_20 : decode cX6_gap 20 = .ok (.iconst 1, 1) := by decide +kernel
theorem dX6_gap_21 : decode cX6_gap 21 = .ok (.iand, 1) := by decide +kernel
theorem dX6_gap_22 : decode cX6_gap 22 = .ok (.iconst 1, 1) := by decide +kernel
theorem dX6_gap_23 : decode cX6_gap 23 = .ok (.if_icmp .ne 9, 3) := by decide +kernel
theorem dX6_gap_26 : decode cX6_gap 26 = .ok (.iload_n 2, 1) := by decide +kernel
theorem dX6_gap_27 : decode cX6_gap 27 = .ok (.iconst 1, 1) := by decide +kernel
theorem dX6_gap_28 : decode cX6_gap 28 = .ok (.iadd, 1) := by decide +kernel
theorem dX6_gap_29 : decode cX6_gap 29 = .ok (.goto 4, 3) := by decide +kernel
theorem dX6_gap_32 : decode cX6_gap 32 = .ok (.iconst 0, 1) := by decide +kernel
theorem dX6_gap_33 : decode cX6_gap 33 = .ok (.istore_n 2, 1) := by decide +kernel
theorem dX6_gap_34 : decode cX6_gap 34 = .ok (.iload_n 2, 1) := by decide +kernel
theorem dX6_gap_35 : decode cX6_gap 35 = .ok (.iload_n 1, 1) := by decide +kernel
theorem dX6_gap_36 : decode cX6_gap 36 = .ok (.if_icmp .le 7, 3) := by decide +kernel
theorem dX6_gap_39 : decode cX6_gap 39 = .ok (.iload_n 2, 1) := by decide +kernel
theorem dX6_gap_40 : decode cX6_gap 40 = .ok (.goto 4, 3) := by decide +kernel
theorem dX6_gap_43 : decode cX6_gap 43 = .ok (.iload_n 1, 1) := by decide +kernel
theorem dX6_gap_44 : decode cX6_gap 44 = .ok (.istore_n 1, 1) := by decide +kernel
theorem dX6_gap_45 : decode cX6_gap 45 = .ok (.iinc 3 1, 3) := by decide +kernel
theorem dX6_gap_48 : decode cX6_gap 48 = .ok (.goto (-42), 3) := by decide +kernel
theorem dX6_gap_51 : decode cX6_gap 51 = .ok (.iload_n 1, 1) := by decide +kernel
theorem dX6_gap_52 : decode cX6_gap 52 = .ok (.ireturn, 1) := by decide +kernel
theorem dX6_now_0 : decode cX6_now 0 = .ok (.iload_n 1, 1) := by decide +kernel
theorem dX6_now_1 : decode cX6_now 1 = .ok (.tableswitch 100 0 6 #[43, 43, 50, 55, 62, 71, 76], 43) := by decide +kernel
theorem dX6_now_44 : decode cX6_now 44 = .ok (.aload_n 0, 1) := by decide +kernel
theorem dX6_now_45 : decode cX6_now 45 = .ok (.getfield 19, 3) := by decide +kernel
theorem dX6_now_48 : decode cX6_now 48 = .ok (.iload_n 1, 1) := by decide +kernel
theorem dX6_now_49 : decode cX6_now 49 = .ok (.iaload, 1) := by decide +kernel
theorem dX6_now_50 : decode cX6_now 50 = .ok (.ireturn, 1) := by decide +kernel
theorem dX6_now_51 : decode cX6_now 51 = .ok (.aload_n 0, 1) := by decide +kernel
theorem dX6_now_52 : decode cX6_now 52 = .ok (.invokevirtual 126, 3) := by decide +kernel
theorem dX6_now_55 : decode cX6_now 55 = .ok (.ireturn, 1) := by decide +kernel
theorem dX6_now_56 : decode cX6_now 56 = .ok (.aload_n 0, 1) := by decide +kernel
theorem dX6_now_57 : decode cX6_now 57 = .ok (.getfield 19, 3) := by decide +kernel
theorem dX6_now_60 : decode cX6_now 60 = .ok (.iconst 2, 1) := by decide +kernel
theorem dX6_now_61 : decode cX6_now 61 = .ok (.iaload, 1) := by decide +kernel
theorem dX6_now_62 : decode cX6_now 62 = .ok (.ireturn, 1) := by decide +kernel
theorem dX6_now_63 : decode cX6_now 63 = .ok (.aload_n 0, 1) := by decide +kernel
theorem dX6_now_64 : decode cX6_now 64 = .ok (.aload_n 0, 1) := by decide +kernel
theorem dX6_now_65 : decode cX6_now 65 = .ok (.invokevirtual 144, 3) := by decide +kernel
theorem dX6_now_68 : decode cX6_now 68 = .ok (.invokevirtual 173, 3) := by decide +kernel
theorem dX6_now_71 : decode cX6_now 71 = .ok (.ireturn, 1) := by decide +kernel
theorem dX6_now_72 : decode cX6_now 72 = .ok (.aload_n 0, 1) := by decide +kernel
theorem dX6_now_73 : decode cX6_now 73 = .ok (.invokevirtual 182, 3) := by decide +kernel
theorem dX6_now_76 : decode cX6_now 76 = .ok (.ireturn, 1) := by decide +kernel
theorem dX6_now_77 : decode cX6_now 77 = .ok (.aload_n 0, 1) := by decide +kernel
theorem dX6_now_78 : decode cX6_now 78 = .ok (.iconst 0, 1) := by decide +kernel
theorem dX6_now_79 : decode cX6_now 79 = .ok (.invokevirtual 166, 3) := by decide +kernel
theorem dX6_now_82 : decode cX6_now 82 = .ok (.aload_n 0, 1) := by decide +kernel
theorem dX6_now_83 : decode cX6_now 83 = .ok (.iconst 1, 1) := by decide +kernel
theorem dX6_now_84 : decode cX6_now 84 = .ok (.invokevirtual 166, 3) := by decide +kernel
theorem dX6_now_87 : decode cX6_now 87 = .ok (.iadd, 1) := by decide +kernel
theorem dX6_now_88 : decode cX6_now 88 = .ok (.aload_n 0, 1) := by decide +kernel
theorem dX6_now_89 : decode cX6_now 89 = .ok (.iconst 2, 1) := by decide +kernel
theorem dX6_now_90 : decode cX6_now 90 = .ok (.invokevirtual 166, 3) := by decide +kernel
theorem dX6_now_93 : decode cX6_now 93 = .ok (.iadd, 1) := by decide +kernel
theorem dX6_now_94 : decode cX6_now 94 = .ok (.aload_n 0, 1) := by decide +kernel
theorem dX6_now_95 : decode cX6_now 95 = .ok (.iconst 3, 1) := by decide +kernel
theorem dX6_now_96 : decode cX6_now 96 = .ok (.invokevirtual 166, 3) := by decide +kernel
theorem dX6_now_99 : decode cX6_now 99 = .ok (.iadd, 1) := by decide +kernel
theorem dX6_now_100 : decode cX6_now 100 = .ok (.ireturn, 1) := by decide +kernel
theorem dX6_now_101 : decode cX6_now 101 = .ok (.iconst (-1), 1) := by decide +kernel
theorem dX6_now_102 : decode cX6_now 102 = .ok (.ireturn, 1) := by decide +kernel
theorem dX6_lends_0 : decode cX6_lends 0 = .ok (.aload_n 0, 1) := by decide +kernel
theorem dX6_lends_1 : decode cX6_lends 1 = .ok (.iload_n 1, 1) := by decide +kernel
theorem dX6_lends_2 : decode cX6_lends 2 = .ok (.invokevirtual 136, 3) := by decide +kernel
theorem dX6_lends_5 : decode cX6_lends 5 = .ok (.ifCond .eq 24, 3) := by decide +kernel
theorem dX6_lends_8 : decode cX6_lends 8 = .ok (.iload_n 2, 1) := by decide +kernel
theorem dX6_lends_9 : decode cX6_lends 9 = .ok (.i2l, 1) := by decide +kernel
theorem dX6_lends_10 : decode cX6_lends 10 = .ok (.lconst 1, 1) := by decide +kernel
theorem dX6_lends_11 : decode cX6_lends 11 = .ok (.ldc2_w 155, 3) := by decide +kernel
theorem dX6_lends_14 : decode cX6_lends 14 = .ok (.invokestatic 45, 3) := by decide +kernel
theorem dX6_lends_17 : decode cX6_lends 17 = .ok (.ifCond .eq 12, 3) := by decide +kernel
theorem dX6_lends_20 : decode cX6_lends 20 = .ok (.aload_n 0, 1) := by decide +kernel
theorem dX6_lends_21 : decode cX6_lends 21 = .ok (.iload_n 1, 1) := by decide +kernel
theorem dX6_lends_22 : decode cX6_lends 22 = .ok (.iload_n 2, 1) := by decide +kernel
theorem dX6_lends_23 : decode cX6_lends 23 = .ok (.invokevirtual 163, 3) := by decide +kernel
theorem dX6_lends_26 : decode cX6_lends 26 = .ok (.goto 4, 3) := by decide +kernel
theorem dX6_lends_29 : decode cX6_lends 29 = .ok (.iconst (-1), 1) := by decide +kernel
theorem dX6_lends_30 : decode cX6_lends 30 = .ok (.ireturn, 1) := by decide +kernel
theorem dX6_cheap_0 : decode cX6_cheap 0 = .ok (.iload_n 1, 1) := by decide +kernel
theorem dX6_cheap_1 : decode cX6_cheap 1 = .ok (.i2l, 1) := by decide +kernel
theorem dX6_cheap_2 : decode cX6_cheap 2 = .ok (.lconst 1, 1) := by decide +kernel
theorem dX6_cheap_3 : decode cX6_cheap 3 = .ok (.ldc2_w 185, 3) := by decide +kernel
theorem dX6_cheap_6 : decode cX6_cheap 6 = .ok (.invokestatic 45, 3) := by decide +kernel
theorem dX6_cheap_9 : decode cX6_cheap 9 = .ok (.ifCond .eq 15, 3) := by decide +kernel
theorem dX6_cheap_12 : decode cX6_cheap 12 = .ok (.iload_n 2, 1) := by decide +kernel
theorem dX6_cheap_13 : decode cX6_cheap 13 = .ok (.i2l, 1) := by decide +kernel
theorem dX6_cheap_14 : decode cX6_cheap 14 = .ok (.lconst 0, 1) := by decide +kernel
theorem dX6_cheap_15 : decode cX6_cheap 15 = .ok (.ldc2_w 150, 3) := by decide +kernel
theorem dX6_cheap_18 : decode cX6_cheap 18 = .ok (.invokestatic 45, 3) := by decide +kernel
theorem dX6_cheap_21 : decode cX6_cheap 21 = .ok (.ifCond .ne 5, 3) := by decide +kernel
theorem dX6_cheap_24 : decode cX6_cheap 24 = .ok (.iconst (-1), 1) := by decide +kernel
theorem dX6_cheap_25 : decode cX6_cheap 25 = .ok (.ireturn, 1) := by decide +kernel
theorem dX6_cheap_26 : decode cX6_cheap 26 = .ok (.bipush (-9), 2) := by decide +kernel
theorem dX6_cheap_28 : decode cX6_cheap 28 = .ok (.istore_n 3, 1) := by decide +kernel
theorem dX6_cheap_29 : decode cX6_cheap 29 = .ok (.bipush (-9), 2) := by decide +kernel
theorem dX6_cheap_31 : decode cX6_cheap 31 = .ok (.istore 4, 2) := by decide +kernel
theorem dX6_cheap_33 : decode cX6_cheap 33 = .ok (.bipush (-9), 2) := by decide +kernel
theorem dX6_cheap_35 : decode cX6_cheap 35 = .ok (.istore 5, 2) := by decide +kernel
theorem dX6_cheap_37 : decode cX6_cheap 37 = .ok (.iconst 1, 1) := by decide +kernel
theorem dX6_cheap_38 : decode cX6_cheap 38 = .ok (.istore 6, 2) := by decide +kernel
theorem dX6_cheap_40 : decode cX6_cheap 40 = .ok (.iload 6, 2) := by decide +kernel
theorem dX6_cheap_42 : decode cX6_cheap 42 = .ok (.bipush 10, 2) := by decide +kernel
theorem dX6_cheap_44 : decode cX6_cheap 44 = .ok (.if_icmp .ge 128, 3) := by decide +kernel
theorem dX6_cheap_47 : decode cX6_cheap 47 = .ok (.iconst 0, 1) := by decide +kernel
theorem dX6_cheap_48 : decode cX6_cheap 48 = .ok (.istore 7, 2) := by decide +kernel
theorem dX6_cheap_50 : decode cX6_cheap 50 = .ok (.iload 7, 2) := by decide +kernel
theorem dX6_cheap_52 : decode cX6_cheap 52 = .ok (.aload_n 0, 1) := by decide +kernel
theorem dX6_cheap_53 : decode cX6_cheap 53 = .ok (.invokevirtual 116, 3) := by decide +kernel
theorem dX6_cheap_56 : decode cX6_cheap 56 = .ok (.if_icmp .ge 110, 3) := by decide +kernel
theorem dX6_cheap_59 : decode cX6_cheap 59 = .ok (.aload_n 0, 1) := by decide +kernel
theorem dX6_cheap_60 : decode cX6_cheap 60 = .ok (.iload 7, 2) := by decide +kernel
theorem dX6_cheap_62 : decode cX6_cheap 62 = .ok (.iload 6, 2) := by decide +kernel
theorem dX6_cheap_64 : decode cX6_cheap 64 = .ok (.invokevirtual 157, 3) := by decide +kernel
theorem dX6_cheap_67 : decode cX6_cheap 67 = .ok (.ifCond .eq 93, 3) := by decide +kernel
theorem dX6_cheap_70 : decode cX6_cheap 70 = .ok (.aload_n 0, 1) := by decide +kernel
theorem dX6_cheap_71 : decode cX6_cheap 71 = .ok (.iload 7, 2) := by decide +kernel
theorem dX6_cheap_73 : decode cX6_cheap 73 = .ok (.iload 6, 2) := by decide +kernel
theorem dX6_cheap_75 : decode cX6_cheap 75 = .ok (.invokevirtual 163, 3) := by decide +kernel
theorem dX6_cheap_78 : decode cX6_cheap 78 = .ok (.iload_n 1, 1) := by decide +kernel
theorem dX6_cheap_79 : decode cX6_cheap 79 = .ok (.if_icmp .lt 81, 3) := by decide +kernel
theorem dX6_cheap_82 : decode cX6_cheap 82 = .ok (.aload_n 0, 1) := by decide +kernel
theorem dX6_cheap_83 : decode cX6_cheap 83 = .ok (.aload_n 0, 1) := by decide +kernel
theorem dX6_cheap_84 : decode cX6_cheap 84 = .ok (.invokevirtual 144, 3) := by decide +kernel
theorem dX6_cheap_87 : decode cX6_cheap 87 = .ok (.iload 7, 2) := by decide +kernel
theorem dX6_cheap_89 : decode cX6_cheap 89 = .ok (.iload 6, 2) := by decide +kernel
theorem dX6_cheap_91 : decode cX6_cheap 91 = .ok (.invokestatic 152, 3) := by decide +kernel
theorem dX6_cheap_94 : decode cX6_cheap 94 = .ok (.ior, 1) := by decide +kernel
theorem dX6_cheap_95 : decode cX6_cheap 95 = .ok (.invokevirtual 173, 3) := by decide +kernel
theorem dX6_cheap_98 : decode cX6_cheap 98 = .ok (.istore 8, 2) := by decide +kernel
theorem dX6_cheap_100 : decode cX6_cheap 100 = .ok (.iload_n 3, 1) := by decide +kernel
theorem dX6_cheap_101 : decode cX6_cheap 101 = .ok (.bipush (-9), 2) := by decide +kernel
theorem dX6_cheap_103 : decode cX6_cheap 103 = .ok (.if_icmp .eq 10, 3) := by decide +kernel
theorem dX6_cheap_106 : decode cX6_cheap 106 = .ok (.iload 8, 2) := by decide +kernel
theorem dX6_cheap_108 : decode cX6_cheap 108 = .ok (.iload 5, 2) := by decide +kernel
theorem dX6_cheap_110 : decode cX6_cheap 110 = .ok (.if_icmp .le 7, 3) := by decide +kernel
theorem dX6_cheap_113 : decode cX6_cheap 113 = .ok (.iconst 1, 1) := by decide +kernel
theorem dX6_cheap_114 : decode cX6_cheap 114 = .ok (.goto 4, 3) := by decide +kernel
theorem dX6_cheap_117 : decode cX6_cheap 117 = .ok (.iconst 0, 1) := by decide +kernel
theorem dX6_cheap_118 : decode cX6_cheap 118 = .ok (.istore 9, 2) := by decide +kernel
theorem dX6_cheap_120 : decode cX6_cheap 120 = .ok (.iload 9, 2) := by decide +kernel
theorem dX6_cheap_122 : decode cX6_cheap 122 = .ok (.ifCond .eq 8, 3) := by decide +kernel
theorem dX6_cheap_125 : decode cX6_cheap 125 = .ok (.iload 7, 2) := by decide +kernel
theorem dX6_cheap_127 : decode cX6_cheap 127 = .ok (.goto 4, 3) := by decide +kernel
theorem dX6_cheap_130 : decode cX6_cheap 130 = .ok (.iload_n 3, 1) := by decide +kernel
theorem dX6_cheap_131 : decode cX6_cheap 131 = .ok (.istore_n 3, 1) := by decide +kernel
theorem dX6_cheap_132 : decode cX6_cheap 132 = .ok (.iload 9, 2) := by decide +kernel
theorem dX6_cheap_134 : decode cX6_cheap 134 = .ok (.ifCond .eq 8, 3) := by decide +kernel
theorem dX6_cheap_137 : decode cX6_cheap 137 = .ok (.iload 6, 2) := by decide +kernel
theorem dX6_cheap_139 : decode cX6_cheap 139 = .ok (.goto 5, 3) := by decide +kernel
theorem dX6_cheap_142 : decode cX6_cheap 142 = .ok (.iload 4, 2) := by decide +kernel
theorem dX6_cheap_144 : decode cX6_cheap 144 = .ok (.istore 4, 2) := by decide +kernel
theorem dX6_cheap_146 : decode cX6_cheap 146 = .ok (.iload 9, 2) := by decide +kernel
theorem dX6_cheap_148 : decode cX6_cheap 148 = .ok (.ifCond .eq 8, 3) := by decide +kernel
theorem dX6_cheap_151 : decode cX6_cheap 151 = .ok (.iload 8, 2) := by decide +kernel
theorem dX6_cheap_153 : decode cX6_cheap 153 = .ok (.goto 5, 3) := by decide +kernel
theorem dX6_cheap_156 : decode cX6_cheap 156 = .ok (.iload 5, 2) := by decide +kernel
theorem dX6_cheap_158 : decode cX6_cheap 158 = .ok (.istore 5, 2) := by decide +kernel
theorem dX6_cheap_160 : decode cX6_cheap 160 = .ok (.iinc 7 1, 3) := by decide +kernel
theorem dX6_cheap_163 : decode cX6_cheap 163 = .ok (.goto (-113), 3) := by decide +kernel
theorem dX6_cheap_166 : decode cX6_cheap 166 = .ok (.iinc 6 1, 3) := by decide +kernel
theorem dX6_cheap_169 : decode cX6_cheap 169 = .ok (.goto (-129), 3) := by decide +kernel
theorem dX6_cheap_172 : decode cX6_cheap 172 = .ok (.iload_n 2, 1) := by decide +kernel
theorem dX6_cheap_173 : decode cX6_cheap 173 = .ok (.ifCond .ne 7, 3) := by decide +kernel
theorem dX6_cheap_176 : decode cX6_cheap 176 = .ok (.iload_n 3, 1) := by decide +kernel
theorem dX6_cheap_177 : decode cX6_cheap 177 = .ok (.goto 15, 3) := by decide +kernel
theorem dX6_cheap_180 : decode cX6_cheap 180 = .ok (.iload_n 2, 1) := by decide +kernel
theorem dX6_cheap_181 : decode cX6_cheap 181 = .ok (.iconst 1, 1) := by decide +kernel
theorem dX6_cheap_182 : decode cX6_cheap 182 = .ok (.if_icmp .ne 8, 3) := by decide +kernel
theorem dX6_cheap_185 : decode cX6_cheap 185 = .ok (.iload 4, 2) := by decide +kernel
theorem dX6_cheap_187 : decode cX6_cheap 187 = .ok (.goto 5, 3) := by decide +kernel
theorem dX6_cheap_190 : decode cX6_cheap 190 = .ok (.iload 5, 2) := by decide +kernel
theorem dX6_cheap_192 : decode cX6_cheap 192 = .ok (.ireturn, 1) := by decide +kernel
theorem dX6_freeing_0 : decode cX6_freeing 0 = .ok (.iload_n 1, 1) := by decide +kernel
theorem dX6_freeing_1 : decode cX6_freeing 1 = .ok (.i2l, 1) := by decide +kernel
theorem dX6_freeing_2 : decode cX6_freeing 2 = .ok (.lconst 0, 1) := by decide +kernel
theorem dX6_freeing_3 : decode cX6_freeing 3 = .ok (.lconst 1, 1) := by decide +kernel
theorem dX6_freeing_4 : decode cX6_freeing 4 = .ok (.invokestatic 45, 3) := by decide +kernel
theorem dX6_freeing_7 : decode cX6_freeing 7 = .ok (.ifCond .ne 5, 3) := by decide +kernel
theorem dX6_freeing_10 : decode cX6_freeing 10 = .ok (.iconst (-1), 1) := by decide +kernel
theorem dX6_freeing_11 : decode cX6_freeing 11 = .ok (.ireturn, 1) := by decide +kernel
theorem dX6_freeing_12 : decode cX6_freeing 12 = .ok (.iconst 0, 1) := by decide +kernel
theorem dX6_freeing_13 : decode cX6_freeing 13 = .ok (.istore_n 2, 1) := by decide +kernel
theorem dX6_freeing_14 : decode cX6_freeing 14 = .ok (.iconst (-1), 1) := by decide +kernel
theorem dX6_freeing_15 : decode cX6_freeing 15 = .ok (.istore_n 3, 1) := by decide +kernel
theorem dX6_freeing_16 : decode cX6_freeing 16 = .ok (.iconst 0, 1) := by decide +kernel
theorem dX6_freeing_17 : decode cX6_freeing 17 = .ok (.istore 4, 2) := by decide +kernel
theorem dX6_freeing_19 : decode cX6_freeing 19 = .ok (.iconst 0, 1) := by decide +kernel
theorem dX6_freeing_20 : decode cX6_freeing 20 = .ok (.istore 5, 2) := by decide +kernel
theorem dX6_freeing_22 : decode cX6_freeing 22 = .ok (.iload 5, 2) := by decide +kernel
theorem dX6_freeing_24 : decode cX6_freeing 24 = .ok (.bipush 16, 2) := by decide +kernel
theorem dX6_freeing_26 : decode cX6_freeing 26 = .ok (.if_icmp .ge 210, 3) := by decide +kernel
theorem dX6_freeing_29 : decode cX6_freeing 29 = .ok (.iconst 0, 1) := by decide +kernel
theorem dX6_freeing_30 : decode cX6_freeing 30 = .ok (.istore 6, 2) := by decide +kernel
theorem dX6_freeing_32 : decode cX6_freeing 32 = .ok (.aload_n 0, 1) := by decide +kernel
theorem dX6_freeing_33 : decode cX6_freeing 33 = .ok (.invokevirtual 144, 3) := by decide +kernel
theorem dX6_freeing_36 : decode cX6_freeing 36 = .ok (.istore 7, 2) := by decide +kernel
theorem dX6_freeing_38 : decode cX6_freeing 38 = .ok (.iconst 1, 1) := by decide +kernel
theorem dX6_freeing_39 : decode cX6_freeing 39 = .ok (.istore 8, 2) := by decide +kernel
theorem dX6_freeing_41 : decode cX6_freeing 41 = .ok (.iconst 0, 1) := by decide +kernel
theorem dX6_freeing_42 : decode cX6_freeing 42 = .ok (.istore 9, 2) := by decide +kernel
theorem dX6_freeing_44 : decode cX6_freeing 44 = .ok (.iload 9, 2) := by decide +kernel
theorem dX6_freeing_46 : decode cX6_freeing 46 = .ok (.iconst 4, 1) := by decide +kernel
theorem dX6_freeing_47 : decode cX6_freeing 47 = .ok (.if_icmp .ge 95, 3) := by decide +kernel
theorem dX6_freeing_50 : decode cX6_freeing 50 = .ok (.iload 5, 2) := by decide +kernel
theorem dX6_freeing_52 : decode cX6_freeing 52 = .ok (.iload 9, 2) := by decide +kernel
theorem dX6_freeing_54 : decode cX6_freeing 54 = .ok (.ishr, 1) := by decide +kernel
theorem dX6_freeing_55 : decode cX6_freeing 55 = .ok (.iconst 1, 1) := by decide +kernel
theorem dX6_freeing_56 : decode cX6_freeing 56 = .ok (.iand, 1) := by decide +kernel
theorem dX6_freeing_57 : decode cX6_freeing 57 = .ok (.iconst 1, 1) := by decide +kernel
theorem dX6_freeing_58 : decode cX6_freeing 58 = .ok (.if_icmp .ne 7, 3) := by decide +kernel
theorem dX6_freeing_61 : decode cX6_freeing 61 = .ok (.iconst 1, 1) := by decide +kernel
theorem dX6_freeing_62 : decode cX6_freeing 62 = .ok (.goto 4, 3) := by decide +kernel
theorem dX6_freeing_65 : decode cX6_freeing 65 = .ok (.iconst 0, 1) := by decide +kernel
theorem dX6_freeing_66 : decode cX6_freeing 66 = .ok (.istore 10, 2) := by decide +kernel
theorem dX6_freeing_68 : decode cX6_freeing 68 = .ok (.iload 8, 2) := by decide +kernel
theorem dX6_freeing_70 : decode cX6_freeing 70 = .ok (.ifCond .eq 21, 3) := by decide +kernel
theorem dX6_freeing_73 : decode cX6_freeing 73 = .ok (.iload 10, 2) := by decide +kernel
theorem dX6_freeing_75 : decode cX6_freeing 75 = .ok (.ifCond .eq 12, 3) := by decide +kernel
theorem dX6_freeing_78 : decode cX6_freeing 78 = .ok (.aload_n 0, 1) := by decide +kernel
theorem dX6_freeing_79 : decode cX6_freeing 79 = .ok (.iload 9, 2) := by decide +kernel
theorem dX6_freeing_81 : decode cX6_freeing 81 = .ok (.invokevirtual 122, 3) := by decide +kernel
theorem dX6_freeing_84 : decode cX6_freeing 84 = .ok (.ifCond .eq 7, 3) := by decide +kernel
theorem dX6_freeing_87 : decode cX6_freeing 87 = .ok (.iconst 1, 1) := by decide +kernel
theorem dX6_freeing_88 : decode cX6_freeing 88 = .ok (.goto 4, 3) := by decide +kernel
theorem dX6_freeing_91 : decode cX6_freeing 91 = .ok (.iconst 0, 1) := by decide +kernel
theorem dX6_freeing_92 : decode cX6_freeing 92 = .ok (.istore 8, 2) := by decide +kernel
theorem dX6_freeing_94 : decode cX6_freeing 94 = .ok (.iload 6, 2) := by decide +kernel
theorem dX6_freeing_96 : decode cX6_freeing 96 = .ok (.iload 10, 2) := by decide +kernel
theorem dX6_freeing_98 : decode cX6_freeing 98 = .ok (.ifCond .eq 12, 3) := by decide +kernel
theorem dX6_freeing_101 : decode cX6_freeing 101 = .ok (.aload_n 0, 1) := by decide +kernel
theorem dX6_freeing_102 : decode cX6_freeing 102 = .ok (.iload 9, 2) := by decide +kernel
theorem dX6_freeing_104 : decode cX6_freeing 104 = .ok (.invokevirtual 166, 3) := by decide +kernel
theorem dX6_freeing_107 : decode cX6_freeing 107 = .ok (.goto 4, 3) := by decide +kernel
theorem dX6_freeing_110 : decode cX6_freeing 110 = .ok (.iconst 0, 1) := by decide +kernel
theorem dX6_freeing_111 : decode cX6_freeing 111 = .ok (.iadd, 1) := by decide +kernel
theorem dX6_freeing_112 : decode cX6_freeing 112 = .ok (.istore 6, 2) := by decide +kernel
theorem dX6_freeing_114 : decode cX6_freeing 114 = .ok (.iload 7, 2) := by decide +kernel
theorem dX6_freeing_116 : decode cX6_freeing 116 = .ok (.iload 10, 2) := by decide +kernel
theorem dX6_freeing_118 : decode cX6_freeing 118 = .ok (.ifCond .eq 14, 3) := by decide +kernel
theorem dX6_freeing_121 : decode cX6_freeing 121 = .ok (.aload_n 0, 1) := by decide +kernel
theorem dX6_freeing_122 : decode cX6_freeing 122 = .ok (.iload 9, 2) := by decide +kernel
theorem dX6_freeing_124 : decode cX6_freeing 124 = .ok (.invokevirtual 122, 3) := by decide +kernel
theorem dX6_freeing_127 : decode cX6_freeing 127 = .ok (.iconst (-1), 1) := by decide +kernel
theorem dX6_freeing_128 : decode cX6_freeing 128 = .ok (.ixor, 1) := by decide +kernel
theorem dX6_freeing_129 : decode cX6_freeing 129 = .ok (.goto 4, 3) := by decide +kernel
theorem dX6_freeing_132 : decode cX6_freeing 132 = .ok (.iconst (-1), 1) := by decide +kernel
theorem dX6_freeing_133 : decode cX6_freeing 133 = .ok (.iand, 1) := by decide +kernel
theorem dX6_freeing_134 : decode cX6_freeing 134 = .ok (.istore 7, 2) := by decide +kernel
theorem dX6_freeing_136 : decode cX6_freeing 136 = .ok (.iinc 9 1, 3) := by decide +kernel
theorem dX6_freeing_139 : decode cX6_freeing 139 = .ok (.goto (-95), 3) := by decide +kernel
theorem dX6_freeing_142 : decode cX6_freeing 142 = .ok (.iload 8, 2) := by decide +kernel
theorem dX6_freeing_144 : decode cX6_freeing 144 = .ok (.ifCond .eq 86, 3) := by decide +kernel
theorem dX6_freeing_147 : decode cX6_freeing 147 = .ok (.iload 6, 2) := by decide +kernel
theorem dX6_freeing_149 : decode cX6_freeing 149 = .ok (.aload_n 0, 1) := by decide +kernel
theorem dX6_freeing_150 : decode cX6_freeing 150 = .ok (.getfield 19, 3) := by decide +kernel
theorem dX6_freeing_153 : decode cX6_freeing 153 = .ok (.iconst 0, 1) := by decide +kernel
theorem dX6_freeing_154 : decode cX6_freeing 154 = .ok (.iaload, 1) := by decide +kernel
theorem dX6_freeing_155 : decode cX6_freeing 155 = .ok (.if_icmp .gt 75, 3) := by decide +kernel
theorem dX6_freeing_158 : decode cX6_freeing 158 = .ok (.aload_n 0, 1) := by decide +kernel
theorem dX6_freeing_159 : decode cX6_freeing 159 = .ok (.iload 7, 2) := by decide +kernel
theorem dX6_freeing_161 : decode cX6_freeing 161 = .ok (.invokevirtual 173, 3) := by decide +kernel
theorem dX6_freeing_164 : decode cX6_freeing 164 = .ok (.istore 9, 2) := by decide +kernel
theorem dX6_freeing_166 : decode cX6_freeing 166 = .ok (.iload 9, 2) := by decide +kernel
theorem dX6_freeing_168 : decode cX6_freeing 168 = .ok (.iload_n 3, 1) := by decide +kernel
theorem dX6_freeing_169 : decode cX6_freeing 169 = .ok (.if_icmp .gt 16, 3) := by decide +kernel
theorem dX6_freeing_172 : decode cX6_freeing 172 = .ok (.iload 9, 2) := by decide +kernel
theorem dX6_freeing_174 : decode cX6_freeing 174 = .ok (.iload_n 3, 1) := by decide +kernel
theorem dX6_freeing_175 : decode cX6_freeing 175 = .ok (.if_icmp .ne 14, 3) := by decide +kernel
theorem dX6_freeing_178 : decode cX6_freeing 178 = .ok (.iload 6, 2) := by decide +kernel
theorem dX6_freeing_180 : decode cX6_freeing 180 = .ok (.iload 4, 2) := by decide +kernel
theorem dX6_freeing_182 : decode cX6_freeing 182 = .ok (.if_icmp .ge 7, 3) := by decide +kernel
theorem dX6_freeing_185 : decode cX6_freeing 185 = .ok (.iconst 1, 1) := by decide +kernel
theorem dX6_freeing_186 : decode cX6_freeing 186 = .ok (.goto 4, 3) := by decide +kernel
theorem dX6_freeing_189 : decode cX6_freeing 189 = .ok (.iconst 0, 1) := by decide +kernel
theorem dX6_freeing_190 : decode cX6_freeing 190 = .ok (.istore 10, 2) := by decide +kernel
theorem dX6_freeing_192 : decode cX6_freeing 192 = .ok (.iload 10, 2) := by decide +kernel
theorem dX6_freeing_194 : decode cX6_freeing 194 = .ok (.ifCond .eq 8, 3) := by decide +kernel
theorem dX6_freeing_197 : decode cX6_freeing 197 = .ok (.iload 5, 2) := by decide +kernel
theorem dX6_freeing_199 : decode cX6_freeing 199 = .ok (.goto 4, 3) := by decide +kernel
theorem dX6_freeing_202 : decode cX6_freeing 202 = .ok (.iload_n 2, 1) := by decide +kernel
theorem dX6_freeing_203 : decode cX6_freeing 203 = .ok (.istore_n 2, 1) := by decide +kernel
theorem dX6_freeing_204 : decode cX6_freeing 204 = .ok (.iload 10, 2) := by decide +kernel
theorem dX6_freeing_206 : decode cX6_freeing 206 = .ok (.ifCond .eq 8, 3) := by decide +kernel
theorem dX6_freeing_209 : decode cX6_freeing 209 = .ok (.iload 9, 2) := by decide +kernel
theorem dX6_freeing_211 : decode cX6_freeing 211 = .ok (.goto 4, 3) := by decide +kernel
theorem dX6_freeing_214 : decode cX6_freeing 214 = .ok (.iload_n 3, 1) := by decide +kernel
theorem dX6_freeing_215 : decode cX6_freeing 215 = .ok (.istore_n 3, 1) := by decide +kernel
theorem dX6_freeing_216 : decode cX6_freeing 216 = .ok (.iload 10, 2) := by decide +kernel
theorem dX6_freeing_218 : decode cX6_freeing 218 = .ok (.ifCond .eq 8, 3) := by decide +kernel
theorem dX6_freeing_221 : decode cX6_freeing 221 = .ok (.iload 6, 2) := by decide +kernel
theorem dX6_freeing_223 : decode cX6_freeing 223 = .ok (.goto 5, 3) := by decide +kernel
theorem dX6_freeing_226 : decode cX6_freeing 226 = .ok (.iload 4, 2) := by decide +kernel
theorem dX6_freeing_228 : decode cX6_freeing 228 = .ok (.istore 4, 2) := by decide +kernel
theorem dX6_freeing_230 : decode cX6_freeing 230 = .ok (.iinc 5 1, 3) := by decide +kernel
theorem dX6_freeing_233 : decode cX6_freeing 233 = .ok (.goto (-211), 3) := by decide +kernel
theorem dX6_freeing_236 : decode cX6_freeing 236 = .ok (.iload_n 1, 1) := by decide +kernel
theorem dX6_freeing_237 : decode cX6_freeing 237 = .ok (.ifCond .ne 7, 3) := by decide +kernel
theorem dX6_freeing_240 : decode cX6_freeing 240 = .ok (.iload_n 2, 1) := by decide +kernel
theorem dX6_freeing_241 : decode cX6_freeing 241 = .ok (.goto 4, 3) := by decide +kernel
theorem dX6_freeing_244 : decode cX6_freeing 244 = .ok (.iload_n 3, 1) := by decide +kernel
theorem dX6_freeing_245 : decode cX6_freeing 245 = .ok (.ireturn, 1) := by decide +kernel
theorem dX6_asides_0 : decode cX6_asides 0 = .ok (.iconst 0, 1) := by decide +kernel
theorem dX6_asides_1 : decode cX6_asides 1 = .ok (.istore_n 1, 1) := by decide +kernel
theorem dX6_asides_2 : decode cX6_asides 2 = .ok (.iload_n 1, 1) := by decide +kernel
theorem dX6_asides_3 : decode cX6_asides 3 = .ok (.bipush 15, 2) := by decide +kernel
theorem dX6_asides_5 : decode cX6_asides 5 = .ok (.if_icmp .ge 21, 3) := by decide +kernel
theorem dX6_asides_8 : decode cX6_asides 8 = .ok (.aload_n 0, 1) := by decide +kernel
theorem dX6_asides_9 : decode cX6_asides 9 = .ok (.getfield 25, 3) := by decide +kernel
theorem dX6_asides_12 : decode cX6_asides 12 = .ok (.iload_n 1, 1) := by decide +kernel
theorem dX6_asides_13 : decode cX6_asides 13 = .ok (.aload_n 0, 1) := by decide +kernel
theorem dX6_asides_14 : decode cX6_asides 14 = .ok (.getfield 19, 3) := by decide +kernel
theorem dX6_asides_17 : decode cX6_asides 17 = .ok (.iload_n 1, 1) := by decide +kernel
theorem dX6_asides_18 : decode cX6_asides 18 = .ok (.iaload, 1) := by decide +kernel
theorem dX6_asides_19 : decode cX6_asides 19 = .ok (.iastore, 1) := by decide +kernel
theorem dX6_asides_20 : decode cX6_asides 20 = .ok (.iinc 1 1, 3) := by decide +kernel
theorem dX6_asides_23 : decode cX6_asides 23 = .ok (.goto (-21), 3) := by decide +kernel
theorem dX6_asides_26 : decode cX6_asides 26 = .ok (.return_, 1) := by decide +kernel
theorem dX6_backs_0 : decode cX6_backs 0 = .ok (.iconst 0, 1) := by decide +kernel
theorem dX6_backs_1 : decode cX6_backs 1 = .ok (.istore_n 1, 1) := by decide +kernel
theorem dX6_backs_2 : decode cX6_backs 2 = .ok (.iload_n 1, 1) := by decide +kernel
theorem dX6_backs_3 : decode cX6_backs 3 = .ok (.bipush 15, 2) := by decide +kernel
theorem dX6_backs_5 : decode cX6_backs 5 = .ok (.if_icmp .ge 21, 3) := by decide +kernel
theorem dX6_backs_8 : decode cX6_backs 8 = .ok (.aload_n 0, 1) := by decide +kernel
theorem dX6_backs_9 : decode cX6_backs 9 = .ok (.getfield 19, 3) := by decide +kernel
theorem dX6_backs_12 : decode cX6_backs 12 = .ok (.iload_n 1, 1) := by decide +kernel
theorem dX6_backs_13 : decode cX6_backs 13 = .ok (.aload_n 0, 1) := by decide +kernel
theorem dX6_backs_14 : decode cX6_backs 14 = .ok (.getfield 25, 3) := by decide +kernel
theorem dX6_backs_17 : decode cX6_backs 17 = .ok (.iload_n 1, 1) := by decide +kernel
theorem dX6_backs_18 : decode cX6_backs 18 = .ok (.iaload, 1) := by decide +kernel
theorem dX6_backs_19 : decode cX6_backs 19 = .ok (.iastore, 1) := by decide +kernel
theorem dX6_backs_20 : decode cX6_backs 20 = .ok (.iinc 1 1, 3) := by decide +kernel
theorem dX6_backs_23 : decode cX6_backs 23 = .ok (.goto (-21), 3) := by decide +kernel
theorem dX6_backs_26 : decode cX6_backs 26 = .ok (.return_, 1) := by decide +kernel
theorem dX6_rich_0 : decode cX6_rich 0 = .ok (.iload_n 1, 1) := by decide +kernel
theorem dX6_rich_1 : decode cX6_rich 1 = .ok (.i2l, 1) := by decide +kernel
theorem dX6_rich_2 : decode cX6_rich 2 = .ok (.lconst 0, 1) := by decide +kernel
theorem dX6_rich_3 : decode cX6_rich 3 = .ok (.ldc2_w 187, 3) := by decide +kernel
theorem dX6_rich_6 : decode cX6_rich 6 = .ok (.invokestatic 45, 3) := by decide +kernel
theorem dX6_rich_9 : decode cX6_rich 9 = .ok (.ifCond .ne 5, 3) := by decide +kernel
theorem dX6_rich_12 : decode cX6_rich 12 = .ok (.iconst (-1), 1) := by decide +kernel
theorem dX6_rich_13 : decode cX6_rich 13 = .ok (.ireturn, 1) := by decide +kernel
theorem dX6_rich_14 : decode cX6_rich 14 = .ok (.aload_n 0, 1) := by decide +kernel
theorem dX6_rich_15 : decode cX6_rich 15 = .ok (.invokevirtual 189, 3) := by decide +kernel
theorem dX6_rich_18 : decode cX6_rich 18 = .ok (.iconst 0, 1) := by decide +kernel
theorem dX6_rich_19 : decode cX6_rich 19 = .ok (.istore_n 2, 1) := by decide +kernel
theorem dX6_rich_20 : decode cX6_rich 20 = .ok (.iload_n 2, 1) := by decide +kernel
theorem dX6_rich_21 : decode cX6_rich 21 = .ok (.bipush 61, 2) := by decide +kernel
theorem dX6_rich_23 : decode cX6_rich 23 = .ok (.if_icmp .ge 24, 3) := by decide +kernel
theorem dX6_rich_26 : decode cX6_rich 26 = .ok (.aload_n 0, 1) := by decide +kernel
theorem dX6_rich_27 : decode cX6_rich 27 = .ok (.getfield 19, 3) := by decide +kernel
theorem dX6_rich_30 : decode cX6_rich 30 = .ok (.iconst 0, 1) := by decide +kernel
theorem dX6_rich_31 : decode cX6_rich 31 = .ok (.iaload, 1) := by decide +kernel
theorem dX6_rich_32 : decode cX6_rich 32 = .ok (.iload_n 1, 1) := by decide +kernel
theorem dX6_rich_33 : decode cX6_rich 33 = .ok (.if_icmp .ge 14, 3) := by decide +kernel
theorem dX6_rich_36 : decode cX6_rich 36 = .ok (.aload_n 0, 1) := by decide +kernel
theorem dX6_rich_37 : decode cX6_rich 37 = .ok (.invokevirtual 179, 3) := by decide +kernel
theorem dX6_rich_40 : decode cX6_rich 40 = .ok (.pop, 1) := by decide +kernel
theorem dX6_rich_41 : decode cX6_rich 41 = .ok (.iinc 2 1, 3) := by decide +kernel
theorem dX6_rich_44 : decode cX6_rich 44 = .ok (.goto (-24), 3) := by decide +kernel
theorem dX6_rich_47 : decode cX6_rich 47 = .ok (.aload_n 0, 1) := by decide +kernel
theorem dX6_rich_48 : decode cX6_rich 48 = .ok (.invokevirtual 192, 3) := by decide +kernel
theorem dX6_rich_51 : decode cX6_rich 51 = .ok (.iload_n 2, 1) := by decide +kernel
theorem dX6_rich_52 : decode cX6_rich 52 = .ok (.bipush 60, 2) := by decide +kernel
theorem dX6_rich_54 : decode cX6_rich 54 = .ok (.if_icmp .le 8, 3) := by decide +kernel
theorem dX6_rich_57 : decode cX6_rich 57 = .ok (.bipush (-9), 2) := by decide +kernel
theorem dX6_rich_59 : decode cX6_rich 59 = .ok (.goto 4, 3) := by decide +kernel
theorem dX6_rich_62 : decode cX6_rich 62 = .ok (.iload_n 2, 1) := by decide +kernel
theorem dX6_rich_63 : decode cX6_rich 63 = .ok (.ireturn, 1) := by decide +kernel
theorem dX6_isBare_0 : decode cX6_isBare 0 = .ok (.iconst 1, 1) := by decide +kernel
theorem dX6_isBare_1 : decode cX6_isBare 1 = .ok (.istore_n 1, 1) := by decide +kernel
theorem dX6_isBare_2 : decode cX6_isBare 2 = .ok (.iconst 0, 1) := by decide +kernel
theorem dX6_isBare_3 : decode cX6_isBare 3 = .ok (.istore_n 2, 1) := by decide +kernel
theorem dX6_isBare_4 : decode cX6_isBare 4 = .ok (.iload_n 2, 1) := by decide +kernel
theorem dX6_isBare_5 : decode cX6_isBare 5 = .ok (.aload_n 0, 1) := by decide +kernel
theorem dX6_isBare_6 : decode cX6_isBare 6 = .ok (.getfield 16, 3) := by decide +kernel
theorem dX6_isBare_9 : decode cX6_isBare 9 = .ok (.iconst 2, 1) := by decide +kernel
theorem dX6_isBare_10 : decode cX6_isBare 10 = .ok (.iaload, 1) := by decide +kernel
theorem dX6_isBare_11 : decode cX6_isBare 11 = .ok (.if_icmp .ge 33, 3) := by decide +kernel
theorem dX6_isBare_14 : decode cX6_isBare 14 = .ok (.iload_n 1, 1) := by decide +kernel
theorem dX6_isBare_15 : decode cX6_isBare 15 = .ok (.ifCond .eq 21, 3) := by decide +kernel
theorem dX6_isBare_18 : decode cX6_isBare 18 = .ok (.aload_n 0, 1) := by decide +kernel
theorem dX6_isBare_19 : decode cX6_isBare 19 = .ok (.iload_n 2, 1) := by decide +kernel
theorem dX6_isBare_20 : decode cX6_isBare 20 = .ok (.aload_n 0, 1) := by decide +kernel
theorem dX6_isBare_21 : decode cX6_isBare 21 = .ok (.invokevirtual 144, 3) := by decide +kernel
theorem dX6_isBare_24 : decode cX6_isBare 24 = .ok (.invokevirtual 129, 3) := by decide +kernel
theorem dX6_isBare_27 : decode cX6_isBare 27 = .ok (.bipush (-9), 2) := by decide +kernel
theorem dX6_isBare_29 : decode cX6_isBare 29 = .ok (.if_icmp .ne 7, 3) := by decide +kernel
theorem dX6_isBare_32 : decode cX6_isBare 32 = .ok (.iconst 1, 1) := by decide +kernel
theorem dX6_isBare_33 : decode cX6_isBare 33 = .ok (.goto 4, 3) := by decide +kernel
theorem dX6_isBare_36 : decode cX6_isBare 36 = .ok (.iconst 0, 1) := by decide +kernel
theorem dX6_isBare_37 : decode cX6_isBare 37 = .ok (.istore_n 1, 1) := by decide +kernel
theorem dX6_isBare_38 : decode cX6_isBare 38 = .ok (.iinc 2 1, 3) := by decide +kernel
theorem dX6_isBare_41 : decode cX6_isBare 41 = .ok (.goto (-37), 3) := by decide +kernel
theorem dX6_isBare_44 : decode cX6_isBare 44 = .ok (.iload_n 1, 1) := by decide +kernel
theorem dX6_isBare_45 : decode cX6_isBare 45 = .ok (.ireturn, 1) := by decide +kernel
theorem dX6_bare_0 : decode cX6_bare 0 = .ok (.aload_n 0, 1) := by decide +kernel
theorem dX6_bare_1 : decode cX6_bare 1 = .ok (.invokevirtual 189, 3) := by decide +kernel
theorem dX6_bare_4 : decode cX6_bare 4 = .ok (.iconst 0, 1) := by decide +kernel
theorem dX6_bare_5 : decode cX6_bare 5 = .ok (.istore_n 1, 1) := by decide +kernel
theorem dX6_bare_6 : decode cX6_bare 6 = .ok (.iload_n 1, 1) := by decide +kernel
theorem dX6_bare_7 : decode cX6_bare 7 = .ok (.bipush 61, 2) := by decide +kernel
theorem dX6_bare_9 : decode cX6_bare 9 = .ok (.if_icmp .ge 21, 3) := by decide +kernel
theorem dX6_bare_12 : decode cX6_bare 12 = .ok (.aload_n 0, 1) := by decide +kernel
theorem dX6_bare_13 : decode cX6_bare 13 = .ok (.invokevirtual 195, 3) := by decide +kernel
theorem dX6_bare_16 : decode cX6_bare 16 = .ok (.ifCond .ne 14, 3) := by decide +kernel
theorem dX6_bare_19 : decode cX6_bare 19 = .ok (.aload_n 0, 1) := by decide +kernel
theorem dX6_bare_20 : decode cX6_bare 20 = .ok (.invokevirtual 179, 3) := by decide +kernel
theorem dX6_bare_23 : decode cX6_bare 23 = .ok (.pop, 1) := by decide +kernel
theorem dX6_bare_24 : decode cX6_bare 24 = .ok (.iinc 1 1, 3) := by decide +kernel
theorem dX6_bare_27 : decode cX6_bare 27 = .ok (.goto (-21), 3) := by decide +kernel
theorem dX6_bare_30 : decode cX6_bare 30 = .ok (.aload_n 0, 1) := by decide +kernel
theorem dX6_bare_31 : decode cX6_bare 31 = .ok (.invokevirtual 192, 3) := by decide +kernel
theorem dX6_bare_34 : decode cX6_bare 34 = .ok (.iload_n 1, 1) := by decide +kernel
theorem dX6_bare_35 : decode cX6_bare 35 = .ok (.bipush 60, 2) := by decide +kernel
theorem dX6_bare_37 : decode cX6_bare 37 = .ok (.if_icmp .le 8, 3) := by decide +kernel
theorem dX6_bare_40 : decode cX6_bare 40 = .ok (.bipush (-9), 2) := by decide +kernel
theorem dX6_bare_42 : decode cX6_bare 42 = .ok (.goto 4, 3) := by decide +kernel
theorem dX6_bare_45 : decode cX6_bare 45 = .ok (.iload_n 1, 1) := by decide +kernel
theorem dX6_bare_46 : decode cX6_bare 46 = .ok (.ireturn, 1) := by decide +kernel
theorem dX6_tells_0 : decode cX6_tells 0 = .ok (.aload_n 0, 1) := by decide +kernel
theorem dX6_tells_1 : decode cX6_tells 1 = .ok (.iload_n 1, 1) := by decide +kernel
theorem dX6_tells_2 : decode cX6_tells 2 = .ok (.invokevirtual 139, 3) := by decide +kernel
theorem dX6_tells_5 : decode cX6_tells 5 = .ok (.ifCond .eq 13, 3) := by decide +kernel
theorem dX6_tells_8 : decode cX6_tells 8 = .ok (.iload_n 2, 1) := by decide +kernel
theorem dX6_tells_9 : decode cX6_tells 9 = .ok (.i2l, 1) := by decide +kernel
theorem dX6_tells_10 : decode cX6_tells 10 = .ok (.lconst 0, 1) := by decide +kernel
theorem dX6_tells_11 : decode cX6_tells 11 = .ok (.lconst 1, 1) := by decide +kernel
theorem dX6_tells_12 : decode cX6_tells 12 = .ok (.invokestatic 45, 3) := by decide +kernel
theorem dX6_tells_15 : decode cX6_tells 15 = .ok (.ifCond .ne 5, 3) := by decide +kernel
theorem dX6_tells_18 : decode cX6_tells 18 = .ok (.iconst (-1), 1) := by decide +kernel
theorem dX6_tells_19 : decode cX6_tells 19 = .ok (.ireturn, 1) := by decide +kernel
theorem dX6_tells_20 : decode cX6_tells 20 = .ok (.aload_n 0, 1) := by decide +kernel
theorem dX6_tells_21 : decode cX6_tells 21 = .ok (.getfield 110, 3) := by decide +kernel
theorem dX6_tells_24 : decode cX6_tells 24 = .ok (.bipush 6, 2) := by decide +kernel
theorem dX6_tells_26 : decode cX6_tells 26 = .ok (.if_icmp .ne 6, 3) := by decide +kernel
theorem dX6_tells_29 : decode cX6_tells 29 = .ok (.bipush (-3), 2) := by decide +kernel
theorem dX6_tells_31 : decode cX6_tells 31 = .ok (.ireturn, 1) := by decide +kernel
theorem dX6_tells_32 : decode cX6_tells 32 = .ok (.aload_n 0, 1) := by decide +kernel
theorem dX6_tells_33 : decode cX6_tells 33 = .ok (.getfield 28, 3) := by decide +kernel
theorem dX6_tells_36 : decode cX6_tells 36 = .ok (.aload_n 0, 1) := by decide +kernel
theorem dX6_tells_37 : decode cX6_tells 37 = .ok (.getfield 110, 3) := by decide +kernel
theorem dX6_tells_40 : decode cX6_tells 40 = .ok (.iload_n 1, 1) := by decide +kernel
theorem dX6_tells_41 : decode cX6_tells 41 = .ok (.iastore, 1) := by decide +kernel
theorem dX6_tells_42 : decode cX6_tells 42 = .ok (.aload_n 0, 1) := by decide +kernel
theorem dX6_tells_43 : decode cX6_tells 43 = .ok (.getfield 31, 3) := by decide +kernel
theorem dX6_tells_46 : decode cX6_tells 46 = .ok (.aload_n 0, 1) := by decide +kernel
theorem dX6_tells_47 : decode cX6_tells 47 = .ok (.getfield 110, 3) := by decide +kernel
theorem dX6_tells_50 : decode cX6_tells 50 = .ok (.iload_n 2, 1) := by decide +kernel
theorem dX6_tells_51 : decode cX6_tells 51 = .ok (.iastore, 1) := by decide +kernel
theorem dX6_tells_52 : decode cX6_tells 52 = .ok (.aload_n 0, 1) := by decide +kernel
theorem dX6_tells_53 : decode cX6_tells 53 = .ok (.dup, 1) := by decide +kernel
theorem dX6_tells_54 : decode cX6_tells 54 = .ok (.getfield 110, 3) := by decide +kernel
theorem dX6_tells_57 : decode cX6_tells 57 = .ok (.iconst 1, 1) := by decide +kernel
theorem dX6_tells_58 : decode cX6_tells 58 = .ok (.iadd, 1) := by decide +kernel
theorem dX6_tells_59 : decode cX6_tells 59 = .ok (.putfield 110, 3) := by decide +kernel
theorem dX6_tells_62 : decode cX6_tells 62 = .ok (.aload_n 0, 1) := by decide +kernel
theorem dX6_tells_63 : decode cX6_tells 63 = .ok (.getfield 110, 3) := by decide +kernel
theorem dX6_tells_66 : decode cX6_tells 66 = .ok (.ireturn, 1) := by decide +kernel
theorem dX6_forget_0 : decode cX6_forget 0 = .ok (.aload_n 0, 1) := by decide +kernel
theorem dX6_forget_1 : decode cX6_forget 1 = .ok (.getfield 110, 3) := by decide +kernel
theorem dX6_forget_4 : decode cX6_forget 4 = .ok (.istore_n 1, 1) := by decide +kernel
theorem dX6_forget_5 : decode cX6_forget 5 = .ok (.aload_n 0, 1) := by decide +kernel
theorem dX6_forget_6 : decode cX6_forget 6 = .ok (.iconst 0, 1) := by decide +kernel
theorem dX6_forget_7 : decode cX6_forget 7 = .ok (.putfield 110, 3) := by decide +kernel
theorem dX6_forget_10 : decode cX6_forget 10 = .ok (.iload_n 1, 1) := by decide +kernel
theorem dX6_forget_11 : decode cX6_forget 11 = .ok (.ireturn, 1) := by decide +kernel
theorem dX6_isSo_0 : decode cX6_isSo 0 = .ok (.iconst 1, 1) := by decide +kernel
theorem dX6_isSo_1 : decode cX6_isSo 1 = .ok (.istore_n 2, 1) := by decide +kernel
theorem dX6_isSo_2 : decode cX6_isSo 2 = .ok (.iconst 0, 1) := by decide +kernel
theorem dX6_isSo_3 : decode cX6_isSo 3 = .ok (.istore_n 3, 1) := by decide +kernel
theorem dX6_isSo_4 : decode cX6_isSo 4 = .ok (.iload_n 3, 1) := by decide +kernel
theorem dX6_isSo_5 : decode cX6_isSo 5 = .ok (.aload_n 0, 1) := by decide +kernel
theorem dX6_isSo_6 : decode cX6_isSo 6 = .ok (.getfield 110, 3) := by decide +kernel
theorem dX6_isSo_9 : decode cX6_isSo 9 = .ok (.if_icmp .ge 49, 3) := by decide +kernel
theorem dX6_isSo_12 : decode cX6_isSo 12 = .ok (.iload_n 2, 1) := by decide +kernel
theorem dX6_isSo_13 : decode cX6_isSo 13 = .ok (.ifCond .eq 37, 3) := by decide +kernel
theorem dX6_isSo_16 : decode cX6_isSo 16 = .ok (.aload_n 0, 1) := by decide +kernel
theorem dX6_isSo_17 : decode cX6_isSo 17 = .ok (.aload_n 0, 1) := by decide +kernel
theorem dX6_isSo_18 : decode cX6_isSo 18 = .ok (.getfield 28, 3) := by decide +kernel
theorem dX6_isSo_21 : decode cX6_isSo 21 = .ok (.iload_n 3, 1) := by decide +kernel
theorem dX6_isSo_22 : decode cX6_isSo 22 = .ok (.iaload, 1) := by decide +kernel
theorem dX6_isSo_23 : decode cX6_isSo 23 = .ok (.iload_n 1, 1) := by decide +kernel
theorem dX6_isSo_24 : decode cX6_isSo 24 = .ok (.invokevirtual 129, 3) := by decide +kernel
theorem dX6_isSo_27 : decode cX6_isSo 27 = .ok (.bipush (-9), 2) := by decide +kernel
theorem dX6_isSo_29 : decode cX6_isSo 29 = .ok (.if_icmp .ne 7, 3) := by decide +kernel
theorem dX6_isSo_32 : decode cX6_isSo 32 = .ok (.iconst 0, 1) := by decide +kernel
theorem dX6_isSo_33 : decode cX6_isSo 33 = .ok (.goto 4, 3) := by decide +kernel
theorem dX6_isSo_36 : decode cX6_isSo 36 = .ok (.iconst 1, 1) := by decide +kernel
theorem dX6_isSo_37 : decode cX6_isSo 37 = .ok (.aload_n 0, 1) := by decide +kernel
theorem dX6_isSo_38 : decode cX6_isSo 38 = .ok (.getfield 31, 3) := by decide +kernel
theorem dX6_isSo_41 : decode cX6_isSo 41 = .ok (.iload_n 3, 1) := by decide +kernel
theorem dX6_isSo_42 : decode cX6_isSo 42 = .ok (.iaload, 1) := by decide +kernel
theorem dX6_isSo_43 : decode cX6_isSo 43 = .ok (.if_icmp .ne 7, 3) := by decide +kernel
theorem dX6_isSo_46 : decode cX6_isSo 46 = .ok (.iconst 1, 1) := by decide +kernel
theorem dX6_isSo_47 : decode cX6_isSo 47 = .ok (.goto 4, 3) := by decide +kernel
theorem dX6_isSo_50 : decode cX6_isSo 50 = .ok (.iconst 0, 1) := by decide +kernel
theorem dX6_isSo_51 : decode cX6_isSo 51 = .ok (.istore_n 2, 1) := by decide +kernel
theorem dX6_isSo_52 : decode cX6_isSo 52 = .ok (.iinc 3 1, 3) := by decide +kernel
theorem dX6_isSo_55 : decode cX6_isSo 55 = .ok (.goto (-51), 3) := by decide +kernel
theorem dX6_isSo_58 : decode cX6_isSo 58 = .ok (.iload_n 2, 1) := by decide +kernel
theorem dX6_isSo_59 : decode cX6_isSo 59 = .ok (.ireturn, 1) := by decide +kernel
theorem dX6_fits_0 : decode cX6_fits 0 = .ok (.iload_n 1, 1) := by decide +kernel
theorem dX6_fits_1 : decode cX6_fits 1 = .ok (.i2l, 1) := by decide +kernel
theorem dX6_fits_2 : decode cX6_fits 2 = .ok (.lconst 0, 1) := by decide +kernel
theorem dX6_fits_3 : decode cX6_fits 3 = .ok (.ldc2_w 150, 3) := by decide +kernel
theorem dX6_fits_6 : decode cX6_fits 6 = .ok (.invokestatic 45, 3) := by decide +kernel
theorem dX6_fits_9 : decode cX6_fits 9 = .ok (.ifCond .ne 5, 3) := by decide +kernel
theorem dX6_fits_12 : decode cX6_fits 12 = .ok (.iconst (-1), 1) := by decide +kernel
theorem dX6_fits_13 : decode cX6_fits 13 = .ok (.ireturn, 1) := by decide +kernel
theorem dX6_fits_14 : decode cX6_fits 14 = .ok (.iconst 0, 1) := by decide +kernel
theorem dX6_fits_15 : decode cX6_fits 15 = .ok (.istore_n 2, 1) := by decide +kernel
theorem dX6_fits_16 : decode cX6_fits 16 = .ok (.bipush (-9), 2) := by decide +kernel
theorem dX6_fits_18 : decode cX6_fits 18 = .ok (.istore_n 3, 1) := by decide +kernel
theorem dX6_fits_19 : decode cX6_fits 19 = .ok (.iconst (-1), 1) := by decide +kernel
theorem dX6_fits_20 : decode cX6_fits 20 = .ok (.istore 4, 2) := by decide +kernel
theorem dX6_fits_22 : decode cX6_fits 22 = .ok (.iconst 0, 1) := by decide +kernel
theorem dX6_fits_23 : decode cX6_fits 23 = .ok (.istore 5, 2) := by decide +kernel
theorem dX6_fits_25 : decode cX6_fits 25 = .ok (.iload 5, 2) := by decide +kernel
theorem dX6_fits_27 : decode cX6_fits 27 = .ok (.aload_n 0, 1) := by decide +kernel
theorem dX6_fits_28 : decode cX6_fits 28 = .ok (.invokevirtual 116, 3) := by decide +kernel
theorem dX6_fits_31 : decode cX6_fits 31 = .ok (.if_icmp .ge 83, 3) := by decide +kernel
theorem dX6_fits_34 : decode cX6_fits 34 = .ok (.iconst 1, 1) := by decide +kernel
theorem dX6_fits_35 : decode cX6_fits 35 = .ok (.istore 6, 2) := by decide +kernel
theorem dX6_fits_37 : decode cX6_fits 37 = .ok (.iload 6, 2) := by decide +kernel
theorem dX6_fits_39 : decode cX6_fits 39 = .ok (.bipush 10, 2) := by decide +kernel
theorem dX6_fits_41 : decode cX6_fits 41 = .ok (.if_icmp .ge 67, 3) := by decide +kernel
theorem dX6_fits_44 : decode cX6_fits 44 = .ok (.iload 5, 2) := by decide +kernel
theorem dX6_fits_46 : decode cX6_fits 46 = .ok (.iload 6, 2) := by decide +kernel
theorem dX6_fits_48 : decode cX6_fits 48 = .ok (.iadd, 1) := by decide +kernel
theorem dX6_fits_49 : decode cX6_fits 49 = .ok (.aload_n 0, 1) := by decide +kernel
theorem dX6_fits_50 : decode cX6_fits 50 = .ok (.invokevirtual 116, 3) := by decide +kernel
theorem dX6_fits_53 : decode cX6_fits 53 = .ok (.if_icmp .gt 55, 3) := by decide +kernel
theorem dX6_fits_56 : decode cX6_fits 56 = .ok (.aload_n 0, 1) := by decide +kernel
theorem dX6_fits_57 : decode cX6_fits 57 = .ok (.iload 5, 2) := by decide +kernel
theorem dX6_fits_59 : decode cX6_fits 59 = .ok (.iload 6, 2) := by decide +kernel
theorem dX6_fits_61 : decode cX6_fits 61 = .ok (.invokestatic 152, 3) := by decide +kernel
theorem dX6_fits_64 : decode cX6_fits 64 = .ok (.invokevirtual 198, 3) := by decide +kernel
theorem dX6_fits_67 : decode cX6_fits 67 = .ok (.ifCond .eq 35, 3) := by decide +kernel
theorem dX6_fits_70 : decode cX6_fits 70 = .ok (.iload_n 2, 1) := by decide +kernel
theorem dX6_fits_71 : decode cX6_fits 71 = .ok (.ifCond .ne 14, 3) := by decide +kernel
theorem dX6_fits_74 : decode cX6_fits 74 = .ok (.bipush 100, 2) := by decide +kernel
theorem dX6_fits_76 : decode cX6_fits 76 = .ok (.iload 5, 2) := by decide +kernel
theorem dX6_fits_78 : decode cX6_fits 78 = .ok (.imul, 1) := by decide +kernel
theorem dX6_fits_79 : decode cX6_fits 79 = .ok (.iload 6, 2) := by decide +kernel
theorem dX6_fits_81 : decode cX6_fits 81 = .ok (.iadd, 1) := by decide +kernel
theorem dX6_fits_82 : decode cX6_fits 82 = .ok (.goto 4, 3) := by decide +kernel
theorem dX6_fits_85 : decode cX6_fits 85 = .ok (.iload_n 3, 1) := by decide +kernel
theorem dX6_fits_86 : decode cX6_fits 86 = .ok (.istore_n 3, 1) := by decide +kernel
theorem dX6_fits_87 : decode cX6_fits 87 = .ok (.iinc 2 1, 3) := by decide +kernel
theorem dX6_fits_90 : decode cX6_fits 90 = .ok (.iload 4, 2) := by decide +kernel
theorem dX6_fits_92 : decode cX6_fits 92 = .ok (.iload 5, 2) := by decide +kernel
theorem dX6_fits_94 : decode cX6_fits 94 = .ok (.iload 6, 2) := by decide +kernel
theorem dX6_fits_96 : decode cX6_fits 96 = .ok (.invokestatic 152, 3) := by decide +kernel
theorem dX6_fits_99 : decode cX6_fits 99 = .ok (.iand, 1) := by decide +kernel
theorem dX6_fits_100 : decode cX6_fits 100 = .ok (.istore 4, 2) := by decide +kernel
theorem dX6_fits_102 : decode cX6_fits 102 = .ok (.iinc 6 1, 3) := by decide +kernel
theorem dX6_fits_105 : decode cX6_fits 105 = .ok (.goto (-68), 3) := by decide +kernel
theorem dX6_fits_108 : decode cX6_fits 108 = .ok (.iinc 5 1, 3) := by decide +kernel
theorem dX6_fits_111 : decode cX6_fits 111 = .ok (.goto (-86), 3) := by decide +kernel
theorem dX6_fits_114 : decode cX6_fits 114 = .ok (.iload_n 1, 1) := by decide +kernel
theorem dX6_fits_115 : decode cX6_fits 115 = .ok (.ifCond .ne 7, 3) := by decide +kernel
theorem dX6_fits_118 : decode cX6_fits 118 = .ok (.iload_n 2, 1) := by decide +kernel
theorem dX6_fits_119 : decode cX6_fits 119 = .ok (.goto 23, 3) := by decide +kernel
theorem dX6_fits_122 : decode cX6_fits 122 = .ok (.iload_n 2, 1) := by decide +kernel
theorem dX6_fits_123 : decode cX6_fits 123 = .ok (.ifCond .ne 8, 3) := by decide +kernel
theorem dX6_fits_126 : decode cX6_fits 126 = .ok (.bipush (-9), 2) := by decide +kernel
theorem dX6_fits_128 : decode cX6_fits 128 = .ok (.goto 14, 3) := by decide +kernel
theorem dX6_fits_131 : decode cX6_fits 131 = .ok (.iload_n 1, 1) := by decide +kernel
theorem dX6_fits_132 : decode cX6_fits 132 = .ok (.iconst 1, 1) := by decide +kernel
theorem dX6_fits_133 : decode cX6_fits 133 = .ok (.if_icmp .ne 7, 3) := by decide +kernel
theorem dX6_fits_136 : decode cX6_fits 136 = .ok (.iload_n 3, 1) := by decide +kernel
theorem dX6_fits_137 : decode cX6_fits 137 = .ok (.goto 5, 3) := by decide +kernel
theorem dX6_fits_140 : decode cX6_fits 140 = .ok (.iload 4, 2) := by decide +kernel
theorem dX6_fits_142 : decode cX6_fits 142 = .ok (.ireturn, 1) := by decide +kernel
theorem dX6_odds_0 : decode cX6_odds 0 = .ok (.iload_n 1, 1) := by decide +kernel
theorem dX6_odds_1 : decode cX6_odds 1 = .ok (.i2l, 1) := by decide +kernel
theorem dX6_odds_2 : decode cX6_odds 2 = .ok (.lconst 0, 1) := by decide +kernel
theorem dX6_odds_3 : decode cX6_odds 3 = .ok (.ldc2_w 201, 3) := by decide +kernel
theorem dX6_odds_6 : decode cX6_odds 6 = .ok (.invokestatic 45, 3) := by decide +kernel
theorem dX6_odds_9 : decode cX6_odds 9 = .ok (.ifCond .eq 25, 3) := by decide +kernel
theorem dX6_odds_12 : decode cX6_odds 12 = .ok (.iload_n 2, 1) := by decide +kernel
theorem dX6_odds_13 : decode cX6_odds 13 = .ok (.i2l, 1) := by decide +kernel
theorem dX6_odds_14 : decode cX6_odds 14 = .ok (.lconst 0, 1) := by decide +kernel
theorem dX6_odds_15 : decode cX6_odds 15 = .ok (.ldc2_w 185, 3) := by decide +kernel
theorem dX6_odds_18 : decode cX6_odds 18 = .ok (.invokestatic 45, 3) := by decide +kernel
theorem dX6_odds_21 : decode cX6_odds 21 = .ok (.ifCond .eq 13, 3) := by decide +kernel
theorem dX6_odds_24 : decode cX6_odds 24 = .ok (.iload_n 3, 1) := by decide +kernel
theorem dX6_odds_25 : decode cX6_odds 25 = .ok (.i2l, 1) := by decide +kernel
theorem dX6_odds_26 : decode cX6_odds 26 = .ok (.lconst 0, 1) := by decide +kernel
theorem dX6_odds_27 : decode cX6_odds 27 = .ok (.lconst 1, 1) := by decide +kernel
theorem dX6_odds_28 : decode cX6_odds 28 = .ok (.invokestatic 45, 3) := by decide +kernel
theorem dX6_odds_31 : decode cX6_odds 31 = .ok (.ifCond .ne 5, 3) := by decide +kernel
theorem dX6_odds_34 : decode cX6_odds 34 = .ok (.iconst (-1), 1) := by decide +kernel
theorem dX6_odds_35 : decode cX6_odds 35 = .ok (.ireturn, 1) := by decide +kernel
theorem dX6_odds_36 : decode cX6_odds 36 = .ok (.iconst 0, 1) := by decide +kernel
theorem dX6_odds_37 : decode cX6_odds 37 = .ok (.istore 4, 2) := by decide +kernel
theorem dX6_odds_39 : decode cX6_odds 39 = .ok (.iconst 0, 1) := by decide +kernel
theorem dX6_odds_40 : decode cX6_odds 40 = .ok (.istore 5, 2) := by decide +kernel
theorem dX6_odds_42 : decode cX6_odds 42 = .ok (.iconst 0, 1) := by decide +kernel
theorem dX6_odds_43 : decode cX6_odds 43 = .ok (.istore 6, 2) := by decide +kernel
theorem dX6_odds_45 : decode cX6_odds 45 = .ok (.iload 6, 2) := by decide +kernel
theorem dX6_odds_47 : decode cX6_odds 47 = .ok (.iconst 1, 1) := by decide +kernel
theorem dX6_odds_48 : decode cX6_odds 48 = .ok (.aload_n 0, 1) := by decide +kernel
theorem dX6_odds_49 : decode cX6_odds 49 = .ok (.getfield 16, 3) := by decide +kernel
theorem dX6_odds_52 : decode cX6_odds 52 = .ok (.iconst 2, 1) := by decide +kernel
theorem dX6_odds_53 : decode cX6_odds 53 = .ok (.iaload, 1) := by decide +kernel
theorem dX6_odds_54 : decode cX6_odds 54 = .ok (.ishl, 1) := by decide +kernel
theorem dX6_odds_55 : decode cX6_odds 55 = .ok (.if_icmp .ge 160, 3) := by decide +kernel
theorem dX6_odds_58 : decode cX6_odds 58 = .ok (.iconst 1, 1) := by decide +kernel
theorem dX6_odds_59 : decode cX6_odds 59 = .ok (.istore 7, 2) := by decide +kernel
theorem dX6_odds_61 : decode cX6_odds 61 = .ok (.iconst 0, 1) := by decide +kernel
theorem dX6_odds_62 : decode cX6_odds 62 = .ok (.istore 8, 2) := by decide +kernel
theorem dX6_odds_64 : decode cX6_odds 64 = .ok (.iconst 0, 1) := by decide +kernel
theorem dX6_odds_65 : decode cX6_odds 65 = .ok (.istore 9, 2) := by decide +kernel
theorem dX6_odds_67 : decode cX6_odds 67 = .ok (.iload 9, 2) := by decide +kernel
theorem dX6_odds_69 : decode cX6_odds 69 = .ok (.aload_n 0, 1) := by decide +kernel
theorem dX6_odds_70 : decode cX6_odds 70 = .ok (.getfield 16, 3) := by decide +kernel
theorem dX6_odds_73 : decode cX6_odds 73 = .ok (.iconst 2, 1) := by decide +kernel
theorem dX6_odds_74 : decode cX6_odds 74 = .ok (.iaload, 1) := by decide +kernel
theorem dX6_odds_75 : decode cX6_odds 75 = .ok (.if_icmp .ge 110, 3) := by decide +kernel
theorem dX6_odds_78 : decode cX6_odds 78 = .ok (.iload 6, 2) := by decide +kernel
theorem dX6_odds_80 : decode cX6_odds 80 = .ok (.iload 9, 2) := by decide +kernel
theorem dX6_odds_82 : decode cX6_odds 82 = .ok (.ishr, 1) := by decide +kernel
theorem dX6_odds_83 : decode cX6_odds 83 = .ok (.iconst 1, 1) := by decide +kernel
theorem dX6_odds_84 : decode cX6_odds 84 = .ok (.iand, 1) := by decide +kernel
theorem dX6_odds_85 : decode cX6_odds 85 = .ok (.iconst 1, 1) := by decide +kernel
theorem dX6_odds_86 : decode cX6_odds 86 = .ok (.if_icmp .ne 7, 3) := by decide +kernel
theorem dX6_odds_89 : decode cX6_odds 89 = .ok (.iconst 1, 1) := by decide +kernel
theorem dX6_odds_90 : decode cX6_odds 90 = .ok (.goto 4, 3) := by decide +kernel
theorem dX6_odds_93 : decode cX6_odds 93 = .ok (.iconst 0, 1) := by decide +kernel
theorem dX6_odds_94 : decode cX6_odds 94 = .ok (.istore 10, 2) := by decide +kernel
theorem dX6_odds_96 : decode cX6_odds 96 = .ok (.aload_n 0, 1) := by decide +kernel
theorem dX6_odds_97 : decode cX6_odds 97 = .ok (.iload 9, 2) := by decide +kernel
theorem dX6_odds_99 : decode cX6_odds 99 = .ok (.aload_n 0, 1) := by decide +kernel
theorem dX6_odds_100 : decode cX6_odds 100 = .ok (.invokevirtual 144, 3) := by decide +kernel
theorem dX6_odds_103 : decode cX6_odds 103 = .ok (.invokevirtual 129, 3) := by decide +kernel
theorem dX6_odds_106 : decode cX6_odds 106 = .ok (.bipush (-9), 2) := by decide +kernel
theorem dX6_odds_108 : decode cX6_odds 108 = .ok (.if_icmp .eq 7, 3) := by decide +kernel
theorem dX6_odds_111 : decode cX6_odds 111 = .ok (.iconst 1, 1) := by decide +kernel
theorem dX6_odds_112 : decode cX6_odds 112 = .ok (.goto 4, 3) := by decide +kernel
theorem dX6_odds_115 : decode cX6_odds 115 = .ok (.iconst 0, 1) := by decide +kernel
theorem dX6_odds_116 : decode cX6_odds 116 = .ok (.istore 11, 2) := by decide +kernel
theorem dX6_odds_118 : decode cX6_odds 118 = .ok (.iload 7, 2) := by decide +kernel
theorem dX6_odds_120 : decode cX6_odds 120 = .ok (.iload 11, 2) := by decide +kernel
theorem dX6_odds_122 : decode cX6_odds 122 = .ok (.ifCond .eq 19, 3) := by decide +kernel
theorem dX6_odds_125 : decode cX6_odds 125 = .ok (.iload 10, 2) := by decide +kernel
theorem dX6_odds_127 : decode cX6_odds 127 = .ok (.ifCond .eq 7, 3) := by decide +kernel
theorem dX6_odds_130 : decode cX6_odds 130 = .ok (.iload_n 1, 1) := by decide +kernel
theorem dX6_odds_131 : decode cX6_odds 131 = .ok (.goto 20, 3) := by decide +kernel
theorem dX6_odds_134 : decode cX6_odds 134 = .ok (.bipush 10, 2) := by decide +kernel
theorem dX6_odds_136 : decode cX6_odds 136 = .ok (.iload_n 1, 1) := by decide +kernel
theorem dX6_odds_137 : decode cX6_odds 137 = .ok (.isub, 1) := by decide +kernel
theorem dX6_odds_138 : decode cX6_odds 138 = .ok (.goto 13, 3) := by decide +kernel
theorem dX6_odds_141 : decode cX6_odds 141 = .ok (.iload 10, 2) := by decide +kernel
theorem dX6_odds_143 : decode cX6_odds 143 = .ok (.ifCond .eq 7, 3) := by decide +kernel
theorem dX6_odds_146 : decode cX6_odds 146 = .ok (.iconst 0, 1) := by decide +kernel
theorem dX6_odds_147 : decode cX6_odds 147 = .ok (.goto 4, 3) := by decide +kernel
theorem dX6_odds_150 : decode cX6_odds 150 = .ok (.iconst 1, 1) := by decide +kernel
theorem dX6_odds_151 : decode cX6_odds 151 = .ok (.imul, 1) := by decide +kernel
theorem dX6_odds_152 : decode cX6_odds 152 = .ok (.istore 7, 2) := by decide +kernel
theorem dX6_odds_154 : decode cX6_odds 154 = .ok (.iload 8, 2) := by decide +kernel
theorem dX6_odds_156 : decode cX6_odds 156 = .ok (.iload 11, 2) := by decide +kernel
theorem dX6_odds_158 : decode cX6_odds 158 = .ok (.ifCond .eq 17, 3) := by decide +kernel
theorem dX6_odds_161 : decode cX6_odds 161 = .ok (.iload 10, 2) := by decide +kernel
theorem dX6_odds_163 : decode cX6_odds 163 = .ok (.ifCond .ne 12, 3) := by decide +kernel
theorem dX6_odds_166 : decode cX6_odds 166 = .ok (.aload_n 0, 1) := by decide +kernel
theorem dX6_odds_167 : decode cX6_odds 167 = .ok (.iload 9, 2) := by decide +kernel
theorem dX6_odds_169 : decode cX6_odds 169 = .ok (.invokevirtual 133, 3) := by decide +kernel
theorem dX6_odds_172 : decode cX6_odds 172 = .ok (.goto 4, 3) := by decide +kernel
theorem dX6_odds_175 : decode cX6_odds 175 = .ok (.iconst 0, 1) := by decide +kernel
theorem dX6_odds_176 : decode cX6_odds 176 = .ok (.iadd, 1) := by decide +kernel
theorem dX6_odds_177 : decode cX6_odds 177 = .ok (.istore 8, 2) := by decide +kernel
theorem dX6_odds_179 : decode cX6_odds 179 = .ok (.iinc 9 1, 3) := by decide +kernel
theorem dX6_odds_182 : decode cX6_odds 182 = .ok (.goto (-115), 3) := by decide +kernel
theorem dX6_odds_185 : decode cX6_odds 185 = .ok (.iload 5, 2) := by decide +kernel
theorem dX6_odds_187 : decode cX6_odds 187 = .ok (.iload 7, 2) := by decide +kernel
theorem dX6_odds_189 : decode cX6_odds 189 = .ok (.iadd, 1) := by decide +kernel
theorem dX6_odds_190 : decode cX6_odds 190 = .ok (.istore 5, 2) := by decide +kernel
theorem dX6_odds_192 : decode cX6_odds 192 = .ok (.iload 4, 2) := by decide +kernel
theorem dX6_odds_194 : decode cX6_odds 194 = .ok (.iload 8, 2) := by decide +kernel
theorem dX6_odds_196 : decode cX6_odds 196 = .ok (.iload_n 2, 1) := by decide +kernel
theorem dX6_odds_197 : decode cX6_odds 197 = .ok (.if_icmp .lt 8, 3) := by decide +kernel
theorem dX6_odds_200 : decode cX6_odds 200 = .ok (.iload 7, 2) := by decide +kernel
theorem dX6_odds_202 : decode cX6_odds 202 = .ok (.goto 4, 3) := by decide +kernel
theorem dX6_odds_205 : decode cX6_odds 205 = .ok (.iconst 0, 1) := by decide +kernel
theorem dX6_odds_206 : decode cX6_odds 206 = .ok (.iadd, 1) := by decide +kernel
theorem dX6_odds_207 : decode cX6_odds 207 = .ok (.istore 4, 2) := by decide +kernel
theorem dX6_odds_209 : decode cX6_odds 209 = .ok (.iinc 6 1, 3) := by decide +kernel
theorem dX6_odds_212 : decode cX6_odds 212 = .ok (.goto (-167), 3) := by decide +kernel
theorem dX6_odds_215 : decode cX6_odds 215 = .ok (.iload 4, 2) := by decide +kernel
theorem dX6_odds_217 : decode cX6_odds 217 = .ok (.istore 6, 2) := by decide +kernel
theorem dX6_odds_219 : decode cX6_odds 219 = .ok (.iload 5, 2) := by decide +kernel
theorem dX6_odds_221 : decode cX6_odds 221 = .ok (.istore 7, 2) := by decide +kernel
theorem dX6_odds_223 : decode cX6_odds 223 = .ok (.iload 7, 2) := by decide +kernel
theorem dX6_odds_225 : decode cX6_odds 225 = .ok (.ifCond .eq 21, 3) := by decide +kernel
theorem dX6_odds_228 : decode cX6_odds 228 = .ok (.iload 6, 2) := by decide +kernel
theorem dX6_odds_230 : decode cX6_odds 230 = .ok (.iload 7, 2) := by decide +kernel
theorem dX6_odds_232 : decode cX6_odds 232 = .ok (.irem, 1) := by decide +kernel
theorem dX6_odds_233 : decode cX6_odds 233 = .ok (.istore 8, 2) := by decide +kernel
theorem dX6_odds_235 : decode cX6_odds 235 = .ok (.iload 7, 2) := by decide +kernel
theorem dX6_odds_237 : decode cX6_odds 237 = .ok (.istore 6, 2) := by decide +kernel
theorem dX6_odds_239 : decode cX6_odds 239 = .ok (.iload 8, 2) := by decide +kernel
theorem dX6_odds_241 : decode cX6_odds 241 = .ok (.istore 7, 2) := by decide +kernel
theorem dX6_odds_243 : decode cX6_odds 243 = .ok (.goto (-20), 3) := by decide +kernel
theorem dX6_odds_246 : decode cX6_odds 246 = .ok (.iload_n 3, 1) := by decide +kernel
theorem dX6_odds_247 : decode cX6_odds 247 = .ok (.ifCond .ne 11, 3) := by decide +kernel
theorem dX6_odds_250 : decode cX6_odds 250 = .ok (.iload 4, 2) := by decide +kernel
theorem dX6_odds_252 : decode cX6_odds 252 = .ok (.iload 6, 2) := by decide +kernel
theorem dX6_odds_254 : decode cX6_odds 254 = .ok (.idiv, 1) := by decide +kernel
theorem dX6_odds_255 : decode cX6_odds 255 = .ok (.goto 8, 3) := by decide +kernel
theorem dX6_odds_258 : decode cX6_odds 258 = .ok (.iload 5, 2) := by decide +kernel
theorem dX6_odds_260 : decode cX6_odds 260 = .ok (.iload 6, 2) := by decide +kernel
theorem dX6_odds_262 : decode cX6_odds 262 = .ok (.idiv, 1) := by decide +kernel
theorem dX6_odds_263 : decode cX6_odds 263 = .ok (.ireturn, 1) := by decide +kernel
theorem dX6_mark_0 : decode cX6_mark 0 = .ok (.iload_n 1, 1) := by decide +kernel
theorem dX6_mark_1 : decode cX6_mark 1 = .ok (.i2l, 1) := by decide +kernel
theorem dX6_mark_2 : decode cX6_mark 2 = .ok (.lconst 0, 1) := by decide +kernel
theorem dX6_mark_3 : decode cX6_mark 3 = .ok (.ldc2_w 203, 3) := by decide +kernel
theorem dX6_mark_6 : decode cX6_mark 6 = .ok (.invokestatic 45, 3) := by decide +kernel
theorem dX6_mark_9 : decode cX6_mark 9 = .ok (.ifCond .eq 11, 3) := by decide +kernel
theorem dX6_mark_12 : decode cX6_mark 12 = .ok (.aload_n 0, 1) := by decide +kernel
theorem dX6_mark_13 : decode cX6_mark 13 = .ok (.iload_n 2, 1) := by decide +kernel
theorem dX6_mark_14 : decode cX6_mark 14 = .ok (.invokevirtual 139, 3) := by decide +kernel
theorem dX6_mark_17 : decode cX6_mark 17 = .ok (.ifCond .ne 6, 3) := by decide +kernel
theorem dX6_mark_20 : decode cX6_mark 20 = .ok (.ldc 205, 2) := by decide +kernel
theorem dX6_mark_22 : decode cX6_mark 22 = .ok (.ireturn, 1) := by decide +kernel
theorem dX6_mark_23 : decode cX6_mark 23 = .ok (.aload_n 0, 1) := by decide +kernel
theorem dX6_mark_24 : decode cX6_mark 24 = .ok (.dup, 1) := by decide +kernel
theorem dX6_mark_25 : decode cX6_mark 25 = .ok (.getfield 206, 3) := by decide +kernel
theorem dX6_mark_28 : decode cX6_mark 28 = .ok (.iload_n 1, 1) := by decide +kernel
theorem dX6_mark_29 : decode cX6_mark 29 = .ok (.ifCond .ne 7, 3) := by decide +kernel
theorem dX6_mark_32 : decode cX6_mark 32 = .ok (.lconst 1, 1) := by decide +kernel
theorem dX6_mark_33 : decode cX6_mark 33 = .ok (.goto 50, 3) := by decide +kernel
theorem dX6_mark_36 : decode cX6_mark 36 = .ok (.iload_n 1, 1) := by decide +kernel
theorem dX6_mark_37 : decode cX6_mark 37 = .ok (.iconst 1, 1) := by decide +kernel
theorem dX6_mark_38 : decode cX6_mark 38 = .ok (.if_icmp .ne 9, 3) := by decide +kernel
theorem dX6_mark_41 : decode cX6_mark 41 = .ok (.ldc2_w 210, 3) := by decide +kernel
theorem dX6_mark_44 : decode cX6_mark 44 = .ok (.goto 39, 3) := by decide +kernel
theorem dX6_mark_47 : decode cX6_mark 47 = .ok (.iload_n 1, 1) := by decide +kernel
theorem dX6_mark_48 : decode cX6_mark 48 = .ok (.iconst 2, 1) := by decide +kernel
theorem dX6_mark_49 : decode cX6_mark 49 = .ok (.if_icmp .ne 9, 3) := by decide +kernel
theorem dX6_mark_52 : decode cX6_mark 52 = .ok (.ldc2_w 212, 3) := by decide +kernel
theorem dX6_mark_55 : decode cX6_mark 55 = .ok (.goto 28, 3) := by decide +kernel
theorem dX6_mark_58 : decode cX6_mark 58 = .ok (.iload_n 1, 1) := by decide +kernel
theorem dX6_mark_59 : decode cX6_mark 59 = .ok (.iconst 3, 1) := by decide +kernel
theorem dX6_mark_60 : decode cX6_mark 60 = .ok (.if_icmp .ne 9, 3) := by decide +kernel
theorem dX6_mark_63 : decode cX6_mark 63 = .ok (.ldc2_w 214, 3) := by decide +kernel
theorem dX6_mark_66 : decode cX6_mark 66 = .ok (.goto 17, 3) := by decide +kernel
theorem dX6_mark_69 : decode cX6_mark 69 = .ok (.iload_n 1, 1) := by decide +kernel
theorem dX6_mark_70 : decode cX6_mark 70 = .ok (.iconst 4, 1) := by decide +kernel
theorem dX6_mark_71 : decode cX6_mark 71 = .ok (.if_icmp .ne 9, 3) := by decide +kernel
theorem dX6_mark_74 : decode cX6_mark 74 = .ok (.ldc2_w 216, 3) := by decide +kernel
theorem dX6_mark_77 : decode cX6_mark 77 = .ok (.goto 6, 3) := by decide +kernel
theorem dX6_mark_80 : decode cX6_mark 80 = .ok (.ldc2_w 218, 3) := by decide +kernel
theorem dX6_mark_83 : decode cX6_mark 83 = .ok (.ladd, 1) := by decide +kernel
theorem dX6_mark_84 : decode cX6_mark 84 = .ok (.putfield 206, 3) := by decide +kernel
theorem dX6_mark_87 : decode cX6_mark 87 = .ok (.aload_n 0, 1) := by decide +kernel
theorem dX6_mark_88 : decode cX6_mark 88 = .ok (.iload_n 2, 1) := by decide +kernel
theorem dX6_mark_89 : decode cX6_mark 89 = .ok (.invokevirtual 133, 3) := by decide +kernel
theorem dX6_mark_92 : decode cX6_mark 92 = .ok (.aload_n 0, 1) := by decide +kernel
theorem dX6_mark_93 : decode cX6_mark 93 = .ok (.getfield 16, 3) := by decide +kernel
theorem dX6_mark_96 : decode cX6_mark 96 = .ok (.bipush 67, 2) := by decide +kernel
theorem dX6_mark_98 : decode cX6_mark 98 = .ok (.iconst 3, 1) := by decide +kernel
theorem dX6_mark_99 : decode cX6_mark 99 = .ok (.iload_n 2, 1) := by decide +kernel
theorem dX6_mark_100 : decode cX6_mark 100 = .ok (.imul, 1) := by decide +kernel
theorem dX6_mark_101 : decode cX6_mark 101 = .ok (.iadd, 1) := by decide +kernel
theorem dX6_mark_102 : decode cX6_mark 102 = .ok (.iconst 1, 1) := by decide +kernel
theorem dX6_mark_103 : decode cX6_mark 103 = .ok (.iadd, 1) := by decide +kernel
theorem dX6_mark_104 : decode cX6_mark 104 = .ok (.iaload, 1) := by decide +kernel
theorem dX6_mark_105 : decode cX6_mark 105 = .ok (.isub, 1) := by decide +kernel
theorem dX6_mark_106 : decode cX6_mark 106 = .ok (.istore_n 3, 1) := by decide +kernel
theorem dX6_mark_107 : decode cX6_mark 107 = .ok (.iload_n 1, 1) := by decide +kernel
theorem dX6_mark_108 : decode cX6_mark 108 = .ok (.tableswitch 105 0 4 #[36, 42, 60, 62, 82], 36) := by decide +kernel
theorem dX6_mark_144 : decode cX6_mark 144 = .ok (.aload_n 0, 1) := by decide +kernel
theorem dX6_mark_145 : decode cX6_mark 145 = .ok (.iload_n 2, 1) := by decide +kernel
theorem dX6_mark_146 : decode cX6_mark 146 = .ok (.invokevirtual 133, 3) := by decide +kernel
theorem dX6_mark_149 : decode cX6_mark 149 = .ok (.ireturn, 1) := by decide +kernel
theorem dX6_mark_150 : decode cX6_mark 150 = .ok (.aload_n 0, 1) := by decide +kernel
theorem dX6_mark_151 : decode cX6_mark 151 = .ok (.iload_n 2, 1) := by decide +kernel
theorem dX6_mark_152 : decode cX6_mark 152 = .ok (.invokevirtual 133, 3) := by decide +kernel
theorem dX6_mark_155 : decode cX6_mark 155 = .ok (.aload_n 0, 1) := by decide +kernel
theorem dX6_mark_156 : decode cX6_mark 156 = .ok (.getfield 16, 3) := by decide +kernel
theorem dX6_mark_159 : decode cX6_mark 159 = .ok (.bipush 67, 2) := by decide +kernel
theorem dX6_mark_161 : decode cX6_mark 161 = .ok (.iconst 3, 1) := by decide +kernel
theorem dX6_mark_162 : decode cX6_mark 162 = .ok (.iload_n 2, 1) := by decide +kernel
theorem dX6_mark_163 : decode cX6_mark 163 = .ok (.imul, 1) := by decide +kernel
theorem dX6_mark_164 : decode cX6_mark 164 = .ok (.iadd, 1) := by decide +kernel
theorem dX6_mark_165 : decode cX6_mark 165 = .ok (.iaload, 1) := by decide +kernel
theorem dX6_mark_166 : decode cX6_mark 166 = .ok (.iadd, 1) := by decide +kernel
theorem dX6_mark_167 : decode cX6_mark 167 = .ok (.ireturn, 1) := by decide +kernel
theorem dX6_mark_168 : decode cX6_mark 168 = .ok (.iload_n 3, 1) := by decide +kernel
theorem dX6_mark_169 : decode cX6_mark 169 = .ok (.ireturn, 1) := by decide +kernel
theorem dX6_mark_170 : decode cX6_mark 170 = .ok (.iconst 2, 1) := by decide +kernel
theorem dX6_mark_171 : decode cX6_mark 171 = .ok (.aload_n 0, 1) := by decide +kernel
theorem dX6_mark_172 : decode cX6_mark 172 = .ok (.iload_n 2, 1) := by decide +kernel
theorem dX6_mark_173 : decode cX6_mark 173 = .ok (.invokevirtual 133, 3) := by decide +kernel
theorem dX6_mark_176 : decode cX6_mark 176 = .ok (.aload_n 0, 1) := by decide +kernel
theorem dX6_mark_177 : decode cX6_mark 177 = .ok (.getfield 16, 3) := by decide +kernel
theorem dX6_mark_180 : decode cX6_mark 180 = .ok (.bipush 67, 2) := by decide +kernel
theorem dX6_mark_182 : decode cX6_mark 182 = .ok (.iconst 3, 1) := by decide +kernel
theorem dX6_mark_183 : decode cX6_mark 183 = .ok (.iload_n 2, 1) := by decide +kernel
theorem dX6_mark_184 : decode cX6_mark 184 = .ok (.imul, 1) := by decide +kernel
theorem dX6_mark_185 : decode cX6_mark 185 = .ok (.iadd, 1) := by decide +kernel
theorem dX6_mark_186 : decode cX6_mark 186 = .ok (.iaload, 1) := by decide +kernel
theorem dX6_mark_187 : decode cX6_mark 187 = .ok (.iadd, 1) := by decide +kernel
theorem dX6_mark_188 : decode cX6_mark 188 = .ok (.imul, 1) := by decide +kernel
theorem dX6_mark_189 : decode cX6_mark 189 = .ok (.ireturn, 1) := by decide +kernel
theorem dX6_mark_190 : decode cX6_mark 190 = .ok (.iload_n 3, 1) := by decide +kernel
theorem dX6_mark_191 : decode cX6_mark 191 = .ok (.aload_n 0, 1) := by decide +kernel
theorem dX6_mark_192 : decode cX6_mark 192 = .ok (.iload_n 2, 1) := by decide +kernel
theorem dX6_mark_193 : decode cX6_mark 193 = .ok (.aload_n 0, 1) := by decide +kernel
theorem dX6_mark_194 : decode cX6_mark 194 = .ok (.invokevirtual 144, 3) := by decide +kernel
theorem dX6_mark_197 : decode cX6_mark 197 = .ok (.invokevirtual 129, 3) := by decide +kernel
theorem dX6_mark_200 : decode cX6_mark 200 = .ok (.bipush (-9), 2) := by decide +kernel
theorem dX6_mark_202 : decode cX6_mark 202 = .ok (.if_icmp .ne 7, 3) := by decide +kernel
theorem dX6_mark_205 : decode cX6_mark 205 = .ok (.iconst 0, 1) := by decide +kernel
theorem dX6_mark_206 : decode cX6_mark 206 = .ok (.goto 5, 3) := by decide +kernel
theorem dX6_mark_209 : decode cX6_mark 209 = .ok (.bipush 9, 2) := by decide +kernel
theorem dX6_mark_211 : decode cX6_mark 211 = .ok (.iadd, 1) := by decide +kernel
theorem dX6_mark_212 : decode cX6_mark 212 = .ok (.ireturn, 1) := by decide +kernel
theorem dX6_mark_213 : decode cX6_mark 213 = .ok (.aload_n 0, 1) := by decide +kernel
theorem dX6_mark_214 : decode cX6_mark 214 = .ok (.iload_n 2, 1) := by decide +kernel
theorem dX6_mark_215 : decode cX6_mark 215 = .ok (.invokevirtual 133, 3) := by decide +kernel
theorem dX6_mark_218 : decode cX6_mark 218 = .ok (.aload_n 0, 1) := by decide +kernel
theorem dX6_mark_219 : decode cX6_mark 219 = .ok (.getfield 19, 3) := by decide +kernel
theorem dX6_mark_222 : decode cX6_mark 222 = .ok (.iconst 1, 1) := by decide +kernel
theorem dX6_mark_223 : decode cX6_mark 223 = .ok (.iaload, 1) := by decide +kernel
theorem dX6_mark_224 : decode cX6_mark 224 = .ok (.iadd, 1) := by decide +kernel
theorem dX6_mark_225 : decode cX6_mark 225 = .ok (.ireturn, 1) := by decide +kernel
theorem dX6_trace_0 : decode cX6_trace 0 = .ok (.aload_n 0, 1) := by decide +kernel
theorem dX6_trace_1 : decode cX6_trace 1 = .ok (.getfield 206, 3) := by decide +kernel
theorem dX6_trace_4 : decode cX6_trace 4 = .ok (.lreturn, 1) := by decide +kernel
theorem dX6_keep_0 : decode cX6_keep 0 = .ok (.iload_n 1, 1) := by decide +kernel
theorem dX6_keep_1 : decode cX6_keep 1 = .ok (.i2l, 1) := by decide +kernel
theorem dX6_keep_2 : decode cX6_keep 2 = .ok (.lconst 0, 1) := by decide +kernel
theorem dX6_keep_3 : decode cX6_keep 3 = .ok (.lconst 1, 1) := by decide +kernel
theorem dX6_keep_4 : decode cX6_keep 4 = .ok (.invokestatic 45, 3) := by decide +kernel
theorem dX6_keep_7 : decode cX6_keep 7 = .ok (.ifCond .ne 5, 3) := by decide +kernel
theorem dX6_keep_10 : decode cX6_keep 10 = .ok (.iconst (-1), 1) := by decide +kernel
theorem dX6_keep_11 : decode cX6_keep 11 = .ok (.ireturn, 1) := by decide +kernel
theorem dX6_keep_12 : decode cX6_keep 12 = .ok (.sipush 167, 3) := by decide +kernel
theorem dX6_keep_15 : decode cX6_keep 15 = .ok (.iload_n 1, 1) := by decide +kernel
theorem dX6_keep_16 : decode cX6_keep 16 = .ok (.imul, 1) := by decide +kernel
theorem dX6_keep_17 : decode cX6_keep 17 = .ok (.istore_n 2, 1) := by decide +kernel
theorem dX6_keep_18 : decode cX6_keep 18 = .ok (.aload_n 0, 1) := by decide +kernel
theorem dX6_keep_19 : decode cX6_keep 19 = .ok (.getfield 34, 3) := by decide +kernel
theorem dX6_keep_22 : decode cX6_keep 22 = .ok (.iload_n 2, 1) := by decide +kernel
theorem dX6_keep_23 : decode cX6_keep 23 = .ok (.iconst 1, 1) := by decide +kernel
theorem dX6_keep_24 : decode cX6_keep 24 = .ok (.iastore, 1) := by decide +kernel
theorem dX6_keep_25 : decode cX6_keep 25 = .ok (.aload_n 0, 1) := by decide +kernel
theorem dX6_keep_26 : decode cX6_keep 26 = .ok (.getfield 34, 3) := by decide +kernel
theorem dX6_keep_29 : decode cX6_keep 29 = .ok (.iload_n 2, 1) := by decide +kernel
theorem dX6_keep_30 : decode cX6_keep 30 = .ok (.iconst 1, 1) := by decide +kernel
theorem dX6_keep_31 : decode cX6_keep 31 = .ok (.iadd, 1) := by decide +kernel
theorem dX6_keep_32 : decode cX6_keep 32 = .ok (.aload_n 0, 1) := by decide +kernel
theorem dX6_keep_33 : decode cX6_keep 33 = .ok (.getfield 113, 3) := by decide +kernel
theorem dX6_keep_36 : decode cX6_keep 36 = .ok (.iastore, 1) := by decide +kernel
theorem dX6_keep_37 : decode cX6_keep 37 = .ok (.iconst 0, 1) := by decide +kernel
theorem dX6_keep_38 : decode cX6_keep 38 = .ok (.istore_n 3, 1) := by decide +kernel
theorem dX6_keep_39 : decode cX6_keep 39 = .ok (.iload_n 3, 1) := by decide +kernel
theorem dX6_keep_40 : decode cX6_keep 40 = .ok (.bipush 15, 2) := by decide +kernel
theorem dX6_keep_42 : decode cX6_keep 42 = .ok (.if_icmp .ge 25, 3) := by decide +kernel
theorem dX6_keep_45 : decode cX6_keep 45 = .ok (.aload_n 0, 1) := by decide +kernel
theorem dX6_keep_46 : decode cX6_keep 46 = .ok (.getfield 34, 3) := by decide +kernel
theorem dX6_keep_49 : decode cX6_keep 49 = .ok (.iload_n 2, 1) := by decide +kernel
theorem dX6_keep_50 : decode cX6_keep 50 = .ok (.iconst 2, 1) := by decide +kernel
theorem dX6_keep_51 : decode cX6_keep 51 = .ok (.iadd, 1) := by decide +kernel
theorem dX6_keep_52 : decode cX6_keep 52 = .ok (.iload_n 3, 1) := by decide +kernel
theorem dX6_keep_53 : decode cX6_keep 53 = .ok (.iadd, 1) := by decide +kernel
theorem dX6_keep_54 : decode cX6_keep 54 = .ok (.aload_n 0, 1) := by decide +kernel
theorem dX6_keep_55 : decode cX6_keep 55 = .ok (.getfield 19, 3) := by decide +kernel
theorem dX6_keep_58 : decode cX6_keep 58 = .ok (.iload_n 3, 1) := by decide +kernel
theorem dX6_keep_59 : decode cX6_keep 59 = .ok (.iaload, 1) := by decide +kernel
theorem dX6_keep_60 : decode cX6_keep 60 = .ok (.iastore, 1) := by decide +kernel
theorem dX6_keep_61 : decode cX6_keep 61 = .ok (.iinc 3 1, 3) := by decide +kernel
theorem dX6_keep_64 : decode cX6_keep 64 = .ok (.goto (-25), 3) := by decide +kernel
theorem dX6_keep_67 : decode cX6_keep 67 = .ok (.iconst 0, 1) := by decide +kernel
theorem dX6_keep_68 : decode cX6_keep 68 = .ok (.istore_n 3, 1) := by decide +kernel
theorem dX6_keep_69 : decode cX6_keep 69 = .ok (.iload_n 3, 1) := by decide +kernel
theorem dX6_keep_70 : decode cX6_keep 70 = .ok (.sipush 150, 3) := by decide +kernel
theorem dX6_keep_73 : decode cX6_keep 73 = .ok (.if_icmp .ge 26, 3) := by decide +kernel
theorem dX6_keep_76 : decode cX6_keep 76 = .ok (.aload_n 0, 1) := by decide +kernel
theorem dX6_keep_77 : decode cX6_keep 77 = .ok (.getfield 34, 3) := by decide +kernel
theorem dX6_keep_80 : decode cX6_keep 80 = .ok (.iload_n 2, 1) := by decide +kernel
theorem dX6_keep_81 : decode cX6_keep 81 = .ok (.bipush 17, 2) := by decide +kernel
theorem dX6_keep_83 : decode cX6_keep 83 = .ok (.iadd, 1) := by decide +kernel
theorem dX6_keep_84 : decode cX6_keep 84 = .ok (.iload_n 3, 1) := by decide +kernel
theorem dX6_keep_85 : decode cX6_keep 85 = .ok (.iadd, 1) := by decide +kernel
theorem dX6_keep_86 : decode cX6_keep 86 = .ok (.aload_n 0, 1) := by decide +kernel
theorem dX6_keep_87 : decode cX6_keep 87 = .ok (.getfield 22, 3) := by decide +kernel
theorem dX6_keep_90 : decode cX6_keep 90 = .ok (.iload_n 3, 1) := by decide +kernel
theorem dX6_keep_91 : decode cX6_keep 91 = .ok (.iaload, 1) := by decide +kernel
theorem dX6_keep_92 : decode cX6_keep 92 = .ok (.iastore, 1) := by decide +kernel
theorem dX6_keep_93 : decode cX6_keep 93 = .ok (.iinc 3 1, 3) := by decide +kernel
theorem dX6_keep_96 : decode cX6_keep 96 = .ok (.goto (-27), 3) := by decide +kernel
theorem dX6_keep_99 : decode cX6_keep 99 = .ok (.aload_n 0, 1) := by decide +kernel
theorem dX6_keep_100 : decode cX6_keep 100 = .ok (.getfield 19, 3) := by decide +kernel
theorem dX6_keep_103 : decode cX6_keep 103 = .ok (.iconst 0, 1) := by decide +kernel
theorem dX6_keep_104 : decode cX6_keep 104 = .ok (.iaload, 1) := by decide +kernel
theorem dX6_keep_105 : decode cX6_keep 105 = .ok (.ireturn, 1) := by decide +kernel
theorem dX6_back_0 : decode cX6_back 0 = .ok (.iload_n 1, 1) := by decide +kernel
theorem dX6_back_1 : decode cX6_back 1 = .ok (.i2l, 1) := by decide +kernel
theorem dX6_back_2 : decode cX6_back 2 = .ok (.lconst 0, 1) := by decide +kernel
theorem dX6_back_3 : decode cX6_back 3 = .ok (.lconst 1, 1) := by decide +kernel
theorem dX6_back_4 : decode cX6_back 4 = .ok (.invokestatic 45, 3) := by decide +kernel
theorem dX6_back_7 : decode cX6_back 7 = .ok (.ifCond .ne 5, 3) := by decide +kernel
theorem dX6_back_10 : decode cX6_back 10 = .ok (.iconst (-1), 1) := by decide +kernel
theorem dX6_back_11 : decode cX6_back 11 = .ok (.ireturn, 1) := by decide +kernel
theorem dX6_back_12 : decode cX6_back 12 = .ok (.sipush 167, 3) := by decide +kernel
theorem dX6_back_15 : decode cX6_back 15 = .ok (.iload_n 1, 1) := by decide +kernel
theorem dX6_back_16 : decode cX6_back 16 = .ok (.imul, 1) := by decide +kernel
theorem dX6_back_17 : decode cX6_back 17 = .ok (.istore_n 2, 1) := by decide +kernel
theorem dX6_back_18 : decode cX6_back 18 = .ok (.aload_n 0, 1) := by decide +kernel
theorem dX6_back_19 : decode cX6_back 19 = .ok (.getfield 34, 3) := by decide +kernel
theorem dX6_back_22 : decode cX6_back 22 = .ok (.iload_n 2, 1) := by decide +kernel
theorem dX6_back_23 : decode cX6_back 23 = .ok (.iaload, 1) := by decide +kernel
theorem dX6_back_24 : decode cX6_back 24 = .ok (.ifCond .ne 6, 3) := by decide +kernel
theorem dX6_back_27 : decode cX6_back 27 = .ok (.bipush (-2), 2) := by decide +kernel
theorem dX6_back_29 : decode cX6_back 29 = .ok (.ireturn, 1) := by decide +kernel
theorem dX6_back_30 : decode cX6_back 30 = .ok (.aload_n 0, 1) := by decide +kernel
theorem dX6_back_31 : decode cX6_back 31 = .ok (.aload_n 0, 1) := by decide +kernel
theorem dX6_back_32 : decode cX6_back 32 = .ok (.getfield 34, 3) := by decide +kernel
theorem dX6_back_35 : decode cX6_back 35 = .ok (.iload_n 2, 1) := by decide +kernel
theorem dX6_back_36 : decode cX6_back 36 = .ok (.iconst 1, 1) := by decide +kernel
theorem dX6_back_37 : decode cX6_back 37 = .ok (.iadd, 1) := by decide +kernel
theorem dX6_back_38 : decode cX6_back 38 = .ok (.iaload, 1) := by decide +kernel
theorem dX6_back_39 : decode cX6_back 39 = .ok (.putfield 113, 3) := by decide +kernel
theorem dX6_back_42 : decode cX6_back 42 = .ok (.iconst 0, 1) := by decide +kernel
theorem dX6_back_43 : decode cX6_back 43 = .ok (.istore_n 3, 1) := by decide +kernel
theorem dX6_back_44 : decode cX6_back 44 = .ok (.iload_n 3, 1) := by decide +kernel
theorem dX6_back_45 : decode cX6_back 45 = .ok (.bipush 15, 2) := by decide +kernel
theorem dX6_back_47 : decode cX6_back 47 = .ok (.if_icmp .ge 25, 3) := by decide +kernel
theorem dX6_back_50 : decode cX6_back 50 = .ok (.aload_n 0, 1) := by decide +kernel
theorem dX6_back_51 : decode cX6_back 51 = .ok (.getfield 19, 3) := by decide +kernel
theorem dX6_back_54 : decode cX6_back 54 = .ok (.iload_n 3, 1) := by decide +kernel
theorem dX6_back_55 : decode cX6_back 55 = .ok (.aload_n 0, 1) := by decide +kernel
theorem dX6_back_56 : decode cX6_back 56 = .ok (.getfield 34, 3) := by decide +kernel
theorem dX6_back_59 : decode cX6_back 59 = .ok (.iload_n 2, 1) := by decide +kernel
theorem dX6_back_60 : decode cX6_back 60 = .ok (.iconst 2, 1) := by decide +kernel
theorem dX6_back_61 : decode cX6_back 61 = .ok (.iadd, 1) := by decide +kernel
theorem dX6_back_62 : decode cX6_back 62 = .ok (.iload_n 3, 1) := by decide +kernel
theorem dX6_back_63 : decode cX6_back 63 = .ok (.iadd, 1) := by decide +kernel
theorem dX6_back_64 : decode cX6_back 64 = .ok (.iaload, 1) := by decide +kernel
theorem dX6_back_65 : decode cX6_back 65 = .ok (.iastore, 1) := by decide +kernel
theorem dX6_back_66 : decode cX6_back 66 = .ok (.iinc 3 1, 3) := by decide +kernel
theorem dX6_back_69 : decode cX6_back 69 = .ok (.goto (-25), 3) := by decide +kernel
theorem dX6_back_72 : decode cX6_back 72 = .ok (.iconst 0, 1) := by decide +kernel
theorem dX6_back_73 : decode cX6_back 73 = .ok (.istore_n 3, 1) := by decide +kernel
theorem dX6_back_74 : decode cX6_back 74 = .ok (.iload_n 3, 1) := by decide +kernel
theorem dX6_back_75 : decode cX6_back 75 = .ok (.sipush 150, 3) := by decide +kernel
theorem dX6_back_78 : decode cX6_back 78 = .ok (.if_icmp .ge 26, 3) := by decide +kernel
theorem dX6_back_81 : decode cX6_back 81 = .ok (.aload_n 0, 1) := by decide +kernel
theorem dX6_back_82 : decode cX6_back 82 = .ok (.getfield 22, 3) := by decide +kernel
theorem dX6_back_85 : decode cX6_back 85 = .ok (.iload_n 3, 1) := by decide +kernel
theorem dX6_back_86 : decode cX6_back 86 = .ok (.aload_n 0, 1) := by decide +kernel
theorem dX6_back_87 : decode cX6_back 87 = .ok (.getfield 34, 3) := by decide +kernel
theorem dX6_back_90 : decode cX6_back 90 = .ok (.iload_n 2, 1) := by decide +kernel
theorem dX6_back_91 : decode cX6_back 91 = .ok (.bipush 17, 2) := by decide +kernel
theorem dX6_back_93 : decode cX6_back 93 = .ok (.iadd, 1) := by decide +kernel
theorem dX6_back_94 : decode cX6_back 94 = .ok (.iload_n 3, 1) := by decide +kernel
theorem dX6_back_95 : decode cX6_back 95 = .ok (.iadd, 1) := by decide +kernel
theorem dX6_back_96 : decode cX6_back 96 = .ok (.iaload, 1) := by decide +kernel
theorem dX6_back_97 : decode cX6_back 97 = .ok (.iastore, 1) := by decide +kernel
theorem dX6_back_98 : decode cX6_back 98 = .ok (.iinc 3 1, 3) := by decide +kernel
theorem dX6_back_101 : decode cX6_back 101 = .ok (.goto (-27), 3) := by decide +kernel
theorem dX6_back_104 : decode cX6_back 104 = .ok (.aload_n 0, 1) := by decide +kernel
theorem dX6_back_105 : decode cX6_back 105 = .ok (.getfield 19, 3) := by decide +kernel
theorem dX6_back_108 : decode cX6_back 108 = .ok (.iconst 0, 1) := by decide +kernel
theorem dX6_back_109 : decode cX6_back 109 = .ok (.iaload, 1) := by decide +kernel
theorem dX6_back_110 : decode cX6_back 110 = .ok (.ireturn, 1) := by decide +kernel
theorem dX6_count_0 : decode cX6_count 0 = .ok (.iload_n 1, 1) := by decide +kernel
theorem dX6_count_1 : decode cX6_count 1 = .ok (.tableswitch 73 0 8 #[51, 51, 51, 51, 51, 51, 58, 63, 68], 51) := by decide +kernel
theorem dX6_count_52 : decode cX6_count 52 = .ok (.aload_n 0, 1) := by decide +kernel
theorem dX6_count_53 : decode cX6_count 53 = .ok (.getfield 16, 3) := by decide +kernel
theorem dX6_count_56 : decode cX6_count 56 = .ok (.iload_n 1, 1) := by decide +kernel
theorem dX6_count_57 : decode cX6_count 57 = .ok (.iaload, 1) := by decide +kernel
theorem dX6_count_58 : decode cX6_count 58 = .ok (.ireturn, 1) := by decide +kernel
theorem dX6_count_59 : decode cX6_count 59 = .ok (.aload_n 0, 1) := by decide +kernel
theorem dX6_count_60 : decode cX6_count 60 = .ok (.getfield 110, 3) := by decide +kernel
theorem dX6_count_63 : decode cX6_count 63 = .ok (.ireturn, 1) := by decide +kernel
theorem dX6_count_64 : decode cX6_count 64 = .ok (.aload_n 0, 1) := by decide +kernel
theorem dX6_count_65 : decode cX6_count 65 = .ok (.getfield 113, 3) := by decide +kernel
theorem dX6_count_68 : decode cX6_count 68 = .ok (.ireturn, 1) := by decide +kernel
theorem dX6_count_69 : decode cX6_count 69 = .ok (.aload_n 0, 1) := by decide +kernel
theorem dX6_count_70 : decode cX6_count 70 = .ok (.getfield 49, 3) := by decide +kernel
theorem dX6_count_73 : decode cX6_count 73 = .ok (.ireturn, 1) := by decide +kernel
theorem dX6_count_74 : decode cX6_count 74 = .ok (.iconst (-1), 1) := by decide +kernel
theorem dX6_count_75 : decode cX6_count 75 = .ok (.ireturn, 1) := by decide +kernel
