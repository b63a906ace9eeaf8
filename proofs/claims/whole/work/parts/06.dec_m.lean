theorem dX4_init_0 : decode cX4_init 0 = .ok (.aload_n 0, 1) := by decide +kernel
theorem dX4_init_1 : decode cX4_init 1 = .ok (.invokespecial 1, 3) := by decide +kernel
theorem dX4_init_4 : decode cX4_init 4 = .ok (.aload_n 0, 1) := by decide +kernel
theorem dX4_init_5 : decode cX4_init 5 = .ok (.iconst 4, 1) := by decide +kernel
theorem dX4_init_6 : decode cX4_init 6 = .ok (.newarray .int, 2) := by decide +kernel
theorem dX4_init_8 : decode cX4_init 8 = .ok (.dup, 1) := by decide +kernel
theorem dX4_init_9 : decode cX4_init 9 = .ok (.iconst 0, 1) := by decide +kernel
theorem dX4_init_10 : decode cX4_init 10 = .ok (.bipush (-9), 2) := by decide +kernel
theorem dX4_init_12 : decode cX4_init 12 = .ok (.iastore, 1) := by decide +kernel
theorem dX4_init_13 : decode cX4_init 13 = .ok (.dup, 1) := by decide +kernel
theorem dX4_init_14 : decode cX4_init 14 = .ok (.iconst 1, 1) := by decide +kernel
theorem dX4_init_15 : decode cX4_init 15 = .ok (.bipush (-9), 2) := by decide +kernel
theorem dX4_init_17 : decode cX4_init 17 = .ok (.iastore, 1) := by decide +kernel
theorem dX4_init_18 : decode cX4_init 18 = .ok (.dup, 1) := by decide +kernel
theorem dX4_init_19 : decode cX4_init 19 = .ok (.iconst 2, 1) := by decide +kernel
theorem dX4_init_20 : decode cX4_init 20 = .ok (.bipush (-9), 2) := by decide +kernel
theorem dX4_init_22 : decode cX4_init 22 = .ok (.iastore, 1) := by decide +kernel
theorem dX4_init_23 : decode cX4_init 23 = .ok (.dup, 1) := by decide +kernel
theorem dX4_init_24 : decode cX4_init 24 = .ok (.iconst 3, 1) := by decide +kernel
theorem dX4_init_25 : decode cX4_init 25 = .ok (.bipush (-9), 2) := by decide +kernel
theorem dX4_init_27 : decode cX4_init 27 = .ok (.iastore, 1) := by decide +kernel
theorem dX4_init_28 : decode cX4_init 28 = .ok (.putfield 9, 3) := by decide +kernel
theorem dX4_init_31 : decode cX4_init 31 = .ok (.aload_n 0, 1) := by decide +kernel
theorem dX4_init_32 : decode cX4_init 32 = .ok (.iconst 4, 1) := by decide +kernel
theorem dX4_init_33 : decode cX4_init 33 = .ok (.newarray .int, 2) := by decide +kernel
theorem dX4_init_35 : decode cX4_init 35 = .ok (.putfield 13, 3) := by decide +kernel
theorem dX4_init_38 : decode cX4_init 38 = .ok (.aload_n 0, 1) := by decide +kernel
theorem dX4_init_39 : decode cX4_init 39 = .ok (.sipush 240, 3) := by decide +kernel
theorem dX4_init_42 : decode cX4_init 42 = .ok (.newarray .int, 2) := by decide +kernel
theorem dX4_init_44 : decode cX4_init 44 = .ok (.putfield 16, 3) := by decide +kernel
theorem dX4_init_47 : decode cX4_init 47 = .ok (.aload_n 0, 1) := by decide +kernel
theorem dX4_init_48 : decode cX4_init 48 = .ok (.bipush 10, 2) := by decide +kernel
theorem dX4_init_50 : decode cX4_init 50 = .ok (.newarray .int, 2) := by decide +kernel
theorem dX4_init_52 : decode cX4_init 52 = .ok (.putfield 19, 3) := by decide +kernel
theorem dX4_init_55 : decode cX4_init 55 = .ok (.aload_n 0, 1) := by decide +kernel
theorem dX4_init_56 : decode cX4_init 56 = .ok (.iconst 5, 1) := by decide +kernel
theorem dX4_init_57 : decode cX4_init 57 = .ok (.newarray .int, 2) := by decide +kernel
theorem dX4_init_59 : decode cX4_init 59 = .ok (.putfield 22, 3) := by decide +kernel
theorem dX4_init_62 : decode cX4_init 62 = .ok (.aload_n 0, 1) := by decide +kernel
theorem dX4_init_63 : decode cX4_init 63 = .ok (.iconst 5, 1) := by decide +kernel
theorem dX4_init_64 : decode cX4_init 64 = .ok (.newarray .int, 2) := by decide +kernel
theorem dX4_init_66 : decode cX4_init 66 = .ok (.putfield 25, 3) := by decide +kernel
theorem dX4_init_69 : decode cX4_init 69 = .ok (.aload_n 0, 1) := by decide +kernel
theorem dX4_init_70 : decode cX4_init 70 = .ok (.iconst 5, 1) := by decide +kernel
theorem dX4_init_71 : decode cX4_init 71 = .ok (.newarray .int, 2) := by decide +kernel
theorem dX4_init_73 : decode cX4_init 73 = .ok (.putfield 28, 3) := by decide +kernel
theorem dX4_init_76 : decode cX4_init 76 = .ok (.aload_n 0, 1) := by decide +kernel
theorem dX4_init_77 : decode cX4_init 77 = .ok (.bipush 10, 2) := by decide +kernel
theorem dX4_init_79 : decode cX4_init 79 = .ok (.newarray .int, 2) := by decide +kernel
theorem dX4_init_81 : decode cX4_init 81 = .ok (.putfield 31, 3) := by decide +kernel
theorem dX4_init_84 : decode cX4_init 84 = .ok (.aload_n 0, 1) := by decide +kernel
theorem dX4_init_85 : decode cX4_init 85 = .ok (.bipush 15, 2) := by decide +kernel
theorem dX4_init_87 : decode cX4_init 87 = .ok (.newarray .int, 2) := by decide +kernel
theorem dX4_init_89 : decode cX4_init 89 = .ok (.putfield 34, 3) := by decide +kernel
theorem dX4_init_92 : decode cX4_init 92 = .ok (.aload_n 0, 1) := by decide +kernel
theorem dX4_init_93 : decode cX4_init 93 = .ok (.bipush 10, 2) := by decide +kernel
theorem dX4_init_95 : decode cX4_init 95 = .ok (.newarray .int, 2) := by decide +kernel
theorem dX4_init_97 : decode cX4_init 97 = .ok (.putfield 37, 3) := by decide +kernel
theorem dX4_init_100 : decode cX4_init 100 = .ok (.aload_n 0, 1) := by decide +kernel
theorem dX4_init_101 : decode cX4_init 101 = .ok (.iconst 5, 1) := by decide +kernel
theorem dX4_init_102 : decode cX4_init 102 = .ok (.newarray .int, 2) := by decide +kernel
theorem dX4_init_104 : decode cX4_init 104 = .ok (.putfield 40, 3) := by decide +kernel
theorem dX4_init_107 : decode cX4_init 107 = .ok (.aload_n 0, 1) := by decide +kernel
theorem dX4_init_108 : decode cX4_init 108 = .ok (.iconst 5, 1) := by decide +kernel
theorem dX4_init_109 : decode cX4_init 109 = .ok (.newarray .int, 2) := by decide +kernel
theorem dX4_init_111 : decode cX4_init 111 = .ok (.putfield 43, 3) := by decide +kernel
theorem dX4_init_114 : decode cX4_init 114 = .ok (.aload_n 0, 1) := by decide +kernel
theorem dX4_init_115 : decode cX4_init 115 = .ok (.iconst 5, 1) := by decide +kernel
theorem dX4_init_116 : decode cX4_init 116 = .ok (.newarray .int, 2) := by decide +kernel
theorem dX4_init_118 : decode cX4_init 118 = .ok (.putfield 46, 3) := by decide +kernel
theorem dX4_init_121 : decode cX4_init 121 = .ok (.aload_n 0, 1) := by decide +kernel
theorem dX4_init_122 : decode cX4_init 122 = .ok (.bipush 8, 2) := by decide +kernel
theorem dX4_init_124 : decode cX4_init 124 = .ok (.newarray .int, 2) := by decide +kernel
theorem dX4_init_126 : decode cX4_init 126 = .ok (.putfield 49, 3) := by decide +kernel
theorem dX4_init_129 : decode cX4_init 129 = .ok (.aload_n 0, 1) := by decide +kernel
theorem dX4_init_130 : decode cX4_init 130 = .ok (.bipush 8, 2) := by decide +kernel
theorem dX4_init_132 : decode cX4_init 132 = .ok (.newarray .int, 2) := by decide +kernel
theorem dX4_init_134 : decode cX4_init 134 = .ok (.putfield 52, 3) := by decide +kernel
theorem dX4_init_137 : decode cX4_init 137 = .ok (.aload_n 0, 1) := by decide +kernel
theorem dX4_init_138 : decode cX4_init 138 = .ok (.bipush 8, 2) := by decide +kernel
theorem dX4_init_140 : decode cX4_init 140 = .ok (.newarray .int, 2) := by decide +kernel
theorem dX4_init_142 : decode cX4_init 142 = .ok (.putfield 55, 3) := by decide +kernel
theorem dX4_init_145 : decode cX4_init 145 = .ok (.return_, 1) := by decide +kernel
theorem dX4_fails_0 : decode cX4_fails 0 = .ok (.aload_n 0, 1) := by decide +kernel
theorem dX4_fails_1 : decode cX4_fails 1 = .ok (.iload_n 1, 1) := by decide +kernel
theorem dX4_fails_2 : decode cX4_fails 2 = .ok (.putfield 58, 3) := by decide +kernel
theorem dX4_fails_5 : decode cX4_fails 5 = .ok (.bipush (-10), 2) := by decide +kernel
theorem dX4_fails_7 : decode cX4_fails 7 = .ok (.iload_n 1, 1) := by decide +kernel
theorem dX4_fails_8 : decode cX4_fails 8 = .ok (.isub, 1) := by decide +kernel
theorem dX4_fails_9 : decode cX4_fails 9 = .ok (.ireturn, 1) := by decide +kernel
theorem dX4_lost_0 : decode cX4_lost 0 = .ok (.aload_n 0, 1) := by decide +kernel
theorem dX4_lost_1 : decode cX4_lost 1 = .ok (.iload_n 1, 1) := by decide +kernel
theorem dX4_lost_2 : decode cX4_lost 2 = .ok (.putfield 58, 3) := by decide +kernel
theorem dX4_lost_5 : decode cX4_lost 5 = .ok (.ldc2_w 62, 3) := by decide +kernel
theorem dX4_lost_8 : decode cX4_lost 8 = .ok (.lreturn, 1) := by decide +kernel
theorem dX4_within_0 : decode cX4_within 0 = .ok (.iload_n 0, 1) := by decide +kernel
theorem dX4_within_1 : decode cX4_within 1 = .ok (.iload_n 1, 1) := by decide +kernel
theorem dX4_within_2 : decode cX4_within 2 = .ok (.if_icmp .lt 12, 3) := by decide +kernel
theorem dX4_within_5 : decode cX4_within 5 = .ok (.iload_n 0, 1) := by decide +kernel
theorem dX4_within_6 : decode cX4_within 6 = .ok (.iload_n 2, 1) := by decide +kernel
theorem dX4_within_7 : decode cX4_within 7 = .ok (.if_icmp .gt 7, 3) := by decide +kernel
theorem dX4_within_10 : decode cX4_within 10 = .ok (.iconst 1, 1) := by decide +kernel
theorem dX4_within_11 : decode cX4_within 11 = .ok (.goto 4, 3) := by decide +kernel
theorem dX4_within_14 : decode cX4_within 14 = .ok (.iconst 0, 1) := by decide +kernel
theorem dX4_within_15 : decode cX4_within 15 = .ok (.ireturn, 1) := by decide +kernel
theorem dX4_isSheet_0 : decode cX4_isSheet 0 = .ok (.iload_n 0, 1) := by decide +kernel
theorem dX4_isSheet_1 : decode cX4_isSheet 1 = .ok (.iconst 0, 1) := by decide +kernel
theorem dX4_isSheet_2 : decode cX4_isSheet 2 = .ok (.iconst 3, 1) := by decide +kernel
theorem dX4_isSheet_3 : decode cX4_isSheet 3 = .ok (.invokestatic 64, 3) := by decide +kernel
theorem dX4_isSheet_6 : decode cX4_isSheet 6 = .ok (.ireturn, 1) := by decide +kernel
theorem dX4_isSort_0 : decode cX4_isSort 0 = .ok (.iload_n 0, 1) := by decide +kernel
theorem dX4_isSort_1 : decode cX4_isSort 1 = .ok (.iconst 0, 1) := by decide +kernel
theorem dX4_isSort_2 : decode cX4_isSort 2 = .ok (.iconst 2, 1) := by decide +kernel
theorem dX4_isSort_3 : decode cX4_isSort 3 = .ok (.invokestatic 64, 3) := by decide +kernel
theorem dX4_isSort_6 : decode cX4_isSort 6 = .ok (.ireturn, 1) := by decide +kernel
theorem dX4_against_0 : decode cX4_against 0 = .ok (.aload_n 0, 1) := by decide +kernel
theorem dX4_against_1 : decode cX4_against 1 = .ok (.getfield 9, 3) := by decide +kernel
theorem dX4_against_4 : decode cX4_against 4 = .ok (.iload_n 1, 1) := by decide +kernel
theorem dX4_against_5 : decode cX4_against 5 = .ok (.iaload, 1) := by decide +kernel
theorem dX4_against_6 : decode cX4_against 6 = .ok (.bipush (-9), 2) := by decide +kernel
theorem dX4_against_8 : decode cX4_against 8 = .ok (.if_icmp .eq 15, 3) := by decide +kernel
theorem dX4_against_11 : decode cX4_against 11 = .ok (.aload_n 0, 1) := by decide +kernel
theorem dX4_against_12 : decode cX4_against 12 = .ok (.getfield 9, 3) := by decide +kernel
theorem dX4_against_15 : decode cX4_against 15 = .ok (.iload_n 1, 1) := by decide +kernel
theorem dX4_against_16 : decode cX4_against 16 = .ok (.iaload, 1) := by decide +kernel
theorem dX4_against_17 : decode cX4_against 17 = .ok (.iload_n 2, 1) := by decide +kernel
theorem dX4_against_18 : decode cX4_against 18 = .ok (.if_icmp .eq 5, 3) := by decide +kernel
theorem dX4_against_21 : decode cX4_against 21 = .ok (.iconst 2, 1) := by decide +kernel
theorem dX4_against_22 : decode cX4_against 22 = .ok (.ireturn, 1) := by decide +kernel
theorem dX4_against_23 : decode cX4_against 23 = .ok (.aload_n 0, 1) := by decide +kernel
theorem dX4_against_24 : decode cX4_against 24 = .ok (.getfield 9, 3) := by decide +kernel
theorem dX4_against_27 : decode cX4_against 27 = .ok (.iload_n 1, 1) := by decide +kernel
theorem dX4_against_28 : decode cX4_against 28 = .ok (.iaload, 1) := by decide +kernel
theorem dX4_against_29 : decode cX4_against 29 = .ok (.bipush (-9), 2) := by decide +kernel
theorem dX4_against_31 : decode cX4_against 31 = .ok (.if_icmp .ne 5, 3) := by decide +kernel
theorem dX4_against_34 : decode cX4_against 34 = .ok (.iconst 1, 1) := by decide +kernel
theorem dX4_against_35 : decode cX4_against 35 = .ok (.ireturn, 1) := by decide +kernel
theorem dX4_against_36 : decode cX4_against 36 = .ok (.iload 4, 2) := by decide +kernel
theorem dX4_against_38 : decode cX4_against 38 = .ok (.ifCond .ge 5, 3) := by decide +kernel
theorem dX4_against_41 : decode cX4_against 41 = .ok (.iconst 4, 1) := by decide +kernel
theorem dX4_against_42 : decode cX4_against 42 = .ok (.ireturn, 1) := by decide +kernel
theorem dX4_against_43 : decode cX4_against 43 = .ok (.iload_n 3, 1) := by decide +kernel
theorem dX4_against_44 : decode cX4_against 44 = .ok (.ifCond .lt 26, 3) := by decide +kernel
theorem dX4_against_47 : decode cX4_against 47 = .ok (.iload_n 3, 1) := by decide +kernel
theorem dX4_against_48 : decode cX4_against 48 = .ok (.aload_n 0, 1) := by decide +kernel
theorem dX4_against_49 : decode cX4_against 49 = .ok (.getfield 13, 3) := by decide +kernel
theorem dX4_against_52 : decode cX4_against 52 = .ok (.iload_n 1, 1) := by decide +kernel
theorem dX4_against_53 : decode cX4_against 53 = .ok (.iaload, 1) := by decide +kernel
theorem dX4_against_54 : decode cX4_against 54 = .ok (.if_icmp .gt 16, 3) := by decide +kernel
theorem dX4_against_57 : decode cX4_against 57 = .ok (.iload 4, 2) := by decide +kernel
theorem dX4_against_59 : decode cX4_against 59 = .ok (.aload_n 0, 1) := by decide +kernel
theorem dX4_against_60 : decode cX4_against 60 = .ok (.getfield 13, 3) := by decide +kernel
theorem dX4_against_63 : decode cX4_against 63 = .ok (.iload_n 1, 1) := by decide +kernel
theorem dX4_against_64 : decode cX4_against 64 = .ok (.iaload, 1) := by decide +kernel
theorem dX4_against_65 : decode cX4_against 65 = .ok (.iload_n 3, 1) := by decide +kernel
theorem dX4_against_66 : decode cX4_against 66 = .ok (.isub, 1) := by decide +kernel
theorem dX4_against_67 : decode cX4_against 67 = .ok (.if_icmp .le 7, 3) := by decide +kernel
theorem dX4_against_70 : decode cX4_against 70 = .ok (.iconst 3, 1) := by decide +kernel
theorem dX4_against_71 : decode cX4_against 71 = .ok (.goto 4, 3) := by decide +kernel
theorem dX4_against_74 : decode cX4_against 74 = .ok (.iconst 0, 1) := by decide +kernel
theorem dX4_against_75 : decode cX4_against 75 = .ok (.ireturn, 1) := by decide +kernel
theorem dX4_isField_0 : decode cX4_isField 0 = .ok (.iload_n 1, 1) := by decide +kernel
theorem dX4_isField_1 : decode cX4_isField 1 = .ok (.ifCond .lt 15, 3) := by decide +kernel
theorem dX4_isField_4 : decode cX4_isField 4 = .ok (.iload_n 1, 1) := by decide +kernel
theorem dX4_isField_5 : decode cX4_isField 5 = .ok (.aload_n 0, 1) := by decide +kernel
theorem dX4_isField_6 : decode cX4_isField 6 = .ok (.getfield 68, 3) := by decide +kernel
theorem dX4_isField_9 : decode cX4_isField 9 = .ok (.if_icmp .ge 7, 3) := by decide +kernel
theorem dX4_isField_12 : decode cX4_isField 12 = .ok (.iconst 1, 1) := by decide +kernel
theorem dX4_isField_13 : decode cX4_isField 13 = .ok (.goto 4, 3) := by decide +kernel
theorem dX4_isField_16 : decode cX4_isField 16 = .ok (.iconst 0, 1) := by decide +kernel
theorem dX4_isField_17 : decode cX4_isField 17 = .ok (.ireturn, 1) := by decide +kernel
theorem dX4_areTwo_0 : decode cX4_areTwo 0 = .ok (.aload_n 0, 1) := by decide +kernel
theorem dX4_areTwo_1 : decode cX4_areTwo 1 = .ok (.iload_n 1, 1) := by decide +kernel
theorem dX4_areTwo_2 : decode cX4_areTwo 2 = .ok (.invokevirtual 71, 3) := by decide +kernel
theorem dX4_areTwo_5 : decode cX4_areTwo 5 = .ok (.ifCond .eq 20, 3) := by decide +kernel
theorem dX4_areTwo_8 : decode cX4_areTwo 8 = .ok (.aload_n 0, 1) := by decide +kernel
theorem dX4_areTwo_9 : decode cX4_areTwo 9 = .ok (.iload_n 2, 1) := by decide +kernel
theorem dX4_areTwo_10 : decode cX4_areTwo 10 = .ok (.invokevirtual 71, 3) := by decide +kernel
theorem dX4_areTwo_13 : decode cX4_areTwo 13 = .ok (.ifCond .eq 12, 3) := by decide +kernel
theorem dX4_areTwo_16 : decode cX4_areTwo 16 = .ok (.iload_n 1, 1) := by decide +kernel
theorem dX4_areTwo_17 : decode cX4_areTwo 17 = .ok (.iload_n 2, 1) := by decide +kernel
theorem dX4_areTwo_18 : decode cX4_areTwo 18 = .ok (.if_icmp .eq 7, 3) := by decide +kernel
theorem dX4_areTwo_21 : decode cX4_areTwo 21 = .ok (.iconst 1, 1) := by decide +kernel
theorem dX4_areTwo_22 : decode cX4_areTwo 22 = .ok (.goto 4, 3) := by decide +kernel
theorem dX4_areTwo_25 : decode cX4_areTwo 25 = .ok (.iconst 0, 1) := by decide +kernel
theorem dX4_areTwo_26 : decode cX4_areTwo 26 = .ok (.ireturn, 1) := by decide +kernel
theorem dX4_isGoer_0 : decode cX4_isGoer 0 = .ok (.iload_n 1, 1) := by decide +kernel
theorem dX4_isGoer_1 : decode cX4_isGoer 1 = .ok (.ifCond .lt 15, 3) := by decide +kernel
theorem dX4_isGoer_4 : decode cX4_isGoer 4 = .ok (.iload_n 1, 1) := by decide +kernel
theorem dX4_isGoer_5 : decode cX4_isGoer 5 = .ok (.aload_n 0, 1) := by decide +kernel
theorem dX4_isGoer_6 : decode cX4_isGoer 6 = .ok (.getfield 75, 3) := by decide +kernel
theorem dX4_isGoer_9 : decode cX4_isGoer 9 = .ok (.if_icmp .ge 7, 3) := by decide +kernel
theorem dX4_isGoer_12 : decode cX4_isGoer 12 = .ok (.iconst 1, 1) := by decide +kernel
theorem dX4_isGoer_13 : decode cX4_isGoer 13 = .ok (.goto 4, 3) := by decide +kernel
theorem dX4_isGoer_16 : decode cX4_isGoer 16 = .ok (.iconst 0, 1) := by decide +kernel
theorem dX4_isGoer_17 : decode cX4_isGoer 17 = .ok (.ireturn, 1) := by decide +kernel
theorem dX4_isOf_0 : decode cX4_isOf 0 = .ok (.iload_n 0, 1) := by decide +kernel
theorem dX4_isOf_1 : decode cX4_isOf 1 = .ok (.iload_n 1, 1) := by decide +kernel
theorem dX4_isOf_2 : decode cX4_isOf 2 = .ok (.ishr, 1) := by decide +kernel
theorem dX4_isOf_3 : decode cX4_isOf 3 = .ok (.iconst 1, 1) := by decide +kernel
theorem dX4_isOf_4 : decode cX4_isOf 4 = .ok (.iand, 1) := by decide +kernel
theorem dX4_isOf_5 : decode cX4_isOf 5 = .ok (.iconst 1, 1) := by decide +kernel
theorem dX4_isOf_6 : decode cX4_isOf 6 = .ok (.if_icmp .ne 7, 3) := by decide +kernel
theorem dX4_isOf_9 : decode cX4_isOf 9 = .ok (.iconst 1, 1) := by decide +kernel
theorem dX4_isOf_10 : decode cX4_isOf 10 = .ok (.goto 4, 3) := by decide +kernel
theorem dX4_isOf_13 : decode cX4_isOf 13 = .ok (.iconst 0, 1) := by decide +kernel
theorem dX4_isOf_14 : decode cX4_isOf 14 = .ok (.ireturn, 1) := by decide +kernel
theorem dX4_size_0 : decode cX4_size 0 = .ok (.iconst 0, 1) := by decide +kernel
theorem dX4_size_1 : decode cX4_size 1 = .ok (.istore_n 1, 1) := by decide +kernel
theorem dX4_size_2 : decode cX4_size 2 = .ok (.iload_n 0, 1) := by decide +kernel
theorem dX4_size_3 : decode cX4_size 3 = .ok (.istore_n 2, 1) := by decide +kernel
theorem dX4_size_4 : decode cX4_size 4 = .ok (.iload_n 2, 1) := by decide +kernel
theorem dX4_size_5 : decode cX4_size 5 = .ok (.ifCond .le 16, 3) := by decide +kernel
theorem dX4_size_8 : decode cX4_size 8 = .ok (.iload_n 1, 1) := by decide +kernel
theorem dX4_size_9 : decode cX4_size 9 = .ok (.iload_n 2, 1) := by decide +kernel
theorem dX4_size_10 : decode cX4_size 10 = .ok (.iconst 1, 1) := by decide +kernel
theorem dX4_size_11 : decode cX4_size 11 = .ok (.iand, 1) := by decide +kernel
theorem dX4_size_12 : decode cX4_size 12 = .ok (.iadd, 1) := by decide +kernel
theorem dX4_size_13 : decode cX4_size 13 = .ok (.istore_n 1, 1) := by decide +kernel
theorem dX4_size_14 : decode cX4_size 14 = .ok (.iload_n 2, 1) := by decide +kernel
theorem dX4_size_15 : decode cX4_size 15 = .ok (.iconst 1, 1) := by decide +kernel
theorem dX4_size_16 : decode cX4_size 16 = .ok (.ishr, 1) := by decide +kernel
theorem dX4_size_17 : decode cX4_size 17 = .ok (.istore_n 2, 1) := by decide +kernel
theorem dX4_size_18 : decode cX4_size 18 = .ok (.goto (-14), 3) := by decide +kernel
theorem dX4_size_21 : decode cX4_size 21 = .ok (.iload_n 1, 1) := by decide +kernel
theorem dX4_size_22 : decode cX4_size 22 = .ok (.ireturn, 1) := by decide +kernel
theorem dX4_hedgesOf_0 : decode cX4_hedgesOf 0 = .ok (.iload_n 0, 1) := by decide +kernel
theorem dX4_hedgesOf_1 : decode cX4_hedgesOf 1 = .ok (.iload_n 0, 1) := by decide +kernel
theorem dX4_hedgesOf_2 : decode cX4_hedgesOf 2 = .ok (.iconst 1, 1) := by decide +kernel
theorem dX4_hedgesOf_3 : decode cX4_hedgesOf 3 = .ok (.isub, 1) := by decide +kernel
theorem dX4_hedgesOf_4 : decode cX4_hedgesOf 4 = .ok (.imul, 1) := by decide +kernel
theorem dX4_hedgesOf_5 : decode cX4_hedgesOf 5 = .ok (.iconst 2, 1) := by decide +kernel
theorem dX4_hedgesOf_6 : decode cX4_hedgesOf 6 = .ok (.idiv, 1) := by decide +kernel
theorem dX4_hedgesOf_7 : decode cX4_hedgesOf 7 = .ok (.ireturn, 1) := by decide +kernel
theorem dX4_hedges_0 : decode cX4_hedges 0 = .ok (.aload_n 0, 1) := by decide +kernel
theorem dX4_hedges_1 : decode cX4_hedges 1 = .ok (.getfield 68, 3) := by decide +kernel
theorem dX4_hedges_4 : decode cX4_hedges 4 = .ok (.invokestatic 78, 3) := by decide +kernel
theorem dX4_hedges_7 : decode cX4_hedges 7 = .ok (.ireturn, 1) := by decide +kernel
theorem dX4_hedge_0 : decode cX4_hedge 0 = .ok (.iload_n 1, 1) := by decide +kernel
theorem dX4_hedge_1 : decode cX4_hedge 1 = .ok (.iload_n 2, 1) := by decide +kernel
theorem dX4_hedge_2 : decode cX4_hedge 2 = .ok (.if_icmp .ge 7, 3) := by decide +kernel
theorem dX4_hedge_5 : decode cX4_hedge 5 = .ok (.iload_n 1, 1) := by decide +kernel
theorem dX4_hedge_6 : decode cX4_hedge 6 = .ok (.goto 4, 3) := by decide +kernel
theorem dX4_hedge_9 : decode cX4_hedge 9 = .ok (.iload_n 2, 1) := by decide +kernel
theorem dX4_hedge_10 : decode cX4_hedge 10 = .ok (.istore_n 3, 1) := by decide +kernel
theorem dX4_hedge_11 : decode cX4_hedge 11 = .ok (.iload_n 1, 1) := by decide +kernel
theorem dX4_hedge_12 : decode cX4_hedge 12 = .ok (.iload_n 2, 1) := by decide +kernel
theorem dX4_hedge_13 : decode cX4_hedge 13 = .ok (.if_icmp .ge 7, 3) := by decide +kernel
theorem dX4_hedge_16 : decode cX4_hedge 16 = .ok (.iload_n 2, 1) := by decide +kernel
theorem dX4_hedge_17 : decode cX4_hedge 17 = .ok (.goto 4, 3) := by decide +kernel
theorem dX4_hedge_20 : decode cX4_hedge 20 = .ok (.iload_n 1, 1) := by decide +kernel
theorem dX4_hedge_21 : decode cX4_hedge 21 = .ok (.istore 4, 2) := by decide +kernel
theorem dX4_hedge_23 : decode cX4_hedge 23 = .ok (.iconst 0, 1) := by decide +kernel
theorem dX4_hedge_24 : decode cX4_hedge 24 = .ok (.istore 5, 2) := by decide +kernel
theorem dX4_hedge_26 : decode cX4_hedge 26 = .ok (.iconst 0, 1) := by decide +kernel
theorem dX4_hedge_27 : decode cX4_hedge 27 = .ok (.istore 6, 2) := by decide +kernel
theorem dX4_hedge_29 : decode cX4_hedge 29 = .ok (.iload 6, 2) := by decide +kernel
theorem dX4_hedge_31 : decode cX4_hedge 31 = .ok (.iload_n 3, 1) := by decide +kernel
theorem dX4_hedge_32 : decode cX4_hedge 32 = .ok (.if_icmp .ge 23, 3) := by decide +kernel
theorem dX4_hedge_35 : decode cX4_hedge 35 = .ok (.iload 5, 2) := by decide +kernel
theorem dX4_hedge_37 : decode cX4_hedge 37 = .ok (.aload_n 0, 1) := by decide +kernel
theorem dX4_hedge_38 : decode cX4_hedge 38 = .ok (.getfield 68, 3) := by decide +kernel
theorem dX4_hedge_41 : decode cX4_hedge 41 = .ok (.iconst 1, 1) := by decide +kernel
theorem dX4_hedge_42 : decode cX4_hedge 42 = .ok (.isub, 1) := by decide +kernel
theorem dX4_hedge_43 : decode cX4_hedge 43 = .ok (.iload 6, 2) := by decide +kernel
theorem dX4_hedge_45 : decode cX4_hedge 45 = .ok (.isub, 1) := by decide +kernel
theorem dX4_hedge_46 : decode cX4_hedge 46 = .ok (.iadd, 1) := by decide +kernel
theorem dX4_hedge_47 : decode cX4_hedge 47 = .ok (.istore 5, 2) := by decide +kernel
theorem dX4_hedge_49 : decode cX4_hedge 49 = .ok (.iinc 6 1, 3) := by decide +kernel
theorem dX4_hedge_52 : decode cX4_hedge 52 = .ok (.goto (-23), 3) := by decide +kernel
theorem dX4_hedge_55 : decode cX4_hedge 55 = .ok (.iload 5, 2) := by decide +kernel
theorem dX4_hedge_57 : decode cX4_hedge 57 = .ok (.iload 4, 2) := by decide +kernel
theorem dX4_hedge_59 : decode cX4_hedge 59 = .ok (.iadd, 1) := by decide +kernel
theorem dX4_hedge_60 : decode cX4_hedge 60 = .ok (.iload_n 3, 1) := by decide +kernel
theorem dX4_hedge_61 : decode cX4_hedge 61 = .ok (.isub, 1) := by decide +kernel
theorem dX4_hedge_62 : decode cX4_hedge 62 = .ok (.iconst 1, 1) := by decide +kernel
theorem dX4_hedge_63 : decode cX4_hedge 63 = .ok (.isub, 1) := by decide +kernel
theorem dX4_hedge_64 : decode cX4_hedge 64 = .ok (.ireturn, 1) := by decide +kernel
theorem dX4_digit_0 : decode cX4_digit 0 = .ok (.aload_n 0, 1) := by decide +kernel
theorem dX4_digit_1 : decode cX4_digit 1 = .ok (.getfield 82, 3) := by decide +kernel
theorem dX4_digit_4 : decode cX4_digit 4 = .ok (.iload_n 1, 1) := by decide +kernel
theorem dX4_digit_5 : decode cX4_digit 5 = .ok (.if_icmp .ge 26, 3) := by decide +kernel
theorem dX4_digit_8 : decode cX4_digit 8 = .ok (.aload_n 0, 1) := by decide +kernel
theorem dX4_digit_9 : decode cX4_digit 9 = .ok (.getfield 16, 3) := by decide +kernel
theorem dX4_digit_12 : decode cX4_digit 12 = .ok (.aload_n 0, 1) := by decide +kernel
theorem dX4_digit_13 : decode cX4_digit 13 = .ok (.getfield 82, 3) := by decide +kernel
theorem dX4_digit_16 : decode cX4_digit 16 = .ok (.iaload, 1) := by decide +kernel
theorem dX4_digit_17 : decode cX4_digit 17 = .ok (.bipush 48, 2) := by decide +kernel
theorem dX4_digit_19 : decode cX4_digit 19 = .ok (.iload_n 2, 1) := by decide +kernel
theorem dX4_digit_20 : decode cX4_digit 20 = .ok (.iadd, 1) := by decide +kernel
theorem dX4_digit_21 : decode cX4_digit 21 = .ok (.bipush 48, 2) := by decide +kernel
theorem dX4_digit_23 : decode cX4_digit 23 = .ok (.iload_n 3, 1) := by decide +kernel
theorem dX4_digit_24 : decode cX4_digit 24 = .ok (.iadd, 1) := by decide +kernel
theorem dX4_digit_25 : decode cX4_digit 25 = .ok (.invokestatic 64, 3) := by decide +kernel
theorem dX4_digit_28 : decode cX4_digit 28 = .ok (.ifCond .ne 6, 3) := by decide +kernel
theorem dX4_digit_31 : decode cX4_digit 31 = .ok (.bipush (-9), 2) := by decide +kernel
theorem dX4_digit_33 : decode cX4_digit 33 = .ok (.ireturn, 1) := by decide +kernel
theorem dX4_digit_34 : decode cX4_digit 34 = .ok (.aload_n 0, 1) := by decide +kernel
theorem dX4_digit_35 : decode cX4_digit 35 = .ok (.dup, 1) := by decide +kernel
theorem dX4_digit_36 : decode cX4_digit 36 = .ok (.getfield 82, 3) := by decide +kernel
theorem dX4_digit_39 : decode cX4_digit 39 = .ok (.iconst 1, 1) := by decide +kernel
theorem dX4_digit_40 : decode cX4_digit 40 = .ok (.iadd, 1) := by decide +kernel
theorem dX4_digit_41 : decode cX4_digit 41 = .ok (.putfield 82, 3) := by decide +kernel
theorem dX4_digit_44 : decode cX4_digit 44 = .ok (.aload_n 0, 1) := by decide +kernel
theorem dX4_digit_45 : decode cX4_digit 45 = .ok (.getfield 16, 3) := by decide +kernel
theorem dX4_digit_48 : decode cX4_digit 48 = .ok (.aload_n 0, 1) := by decide +kernel
theorem dX4_digit_49 : decode cX4_digit 49 = .ok (.getfield 82, 3) := by decide +kernel
theorem dX4_digit_52 : decode cX4_digit 52 = .ok (.iconst 1, 1) := by decide +kernel
theorem dX4_digit_53 : decode cX4_digit 53 = .ok (.isub, 1) := by decide +kernel
theorem dX4_digit_54 : decode cX4_digit 54 = .ok (.iaload, 1) := by decide +kernel
theorem dX4_digit_55 : decode cX4_digit 55 = .ok (.bipush 48, 2) := by decide +kernel
theorem dX4_digit_57 : decode cX4_digit 57 = .ok (.isub, 1) := by decide +kernel
theorem dX4_digit_58 : decode cX4_digit 58 = .ok (.ireturn, 1) := by decide +kernel
theorem dX4_isSign_0 : decode cX4_isSign 0 = .ok (.aload_n 0, 1) := by decide +kernel
theorem dX4_isSign_1 : decode cX4_isSign 1 = .ok (.getfield 82, 3) := by decide +kernel
theorem dX4_isSign_4 : decode cX4_isSign 4 = .ok (.iload_n 1, 1) := by decide +kernel
theorem dX4_isSign_5 : decode cX4_isSign 5 = .ok (.if_icmp .ge 16, 3) := by decide +kernel
theorem dX4_isSign_8 : decode cX4_isSign 8 = .ok (.aload_n 0, 1) := by decide +kernel
theorem dX4_isSign_9 : decode cX4_isSign 9 = .ok (.getfield 16, 3) := by decide +kernel
theorem dX4_isSign_12 : decode cX4_isSign 12 = .ok (.aload_n 0, 1) := by decide +kernel
theorem dX4_isSign_13 : decode cX4_isSign 13 = .ok (.getfield 82, 3) := by decide +kernel
theorem dX4_isSign_16 : decode cX4_isSign 16 = .ok (.iaload, 1) := by decide +kernel
theorem dX4_isSign_17 : decode cX4_isSign 17 = .ok (.iload_n 2, 1) := by decide +kernel
theorem dX4_isSign_18 : decode cX4_isSign 18 = .ok (.if_icmp .eq 5, 3) := by decide +kernel
theorem dX4_isSign_21 : decode cX4_isSign 21 = .ok (.iconst 0, 1) := by decide +kernel
theorem dX4_isSign_22 : decode cX4_isSign 22 = .ok (.ireturn, 1) := by decide +kernel
theorem dX4_isSign_23 : decode cX4_isSign 23 = .ok (.aload_n 0, 1) := by decide +kernel
theorem dX4_isSign_24 : decode cX4_isSign 24 = .ok (.dup, 1) := by decide +kernel
theorem dX4_isSign_25 : decode cX4_isSign 25 = .ok (.getfield 82, 3) := by decide +kernel
theorem dX4_isSign_28 : decode cX4_isSign 28 = .ok (.iconst 1, 1) := by decide +kernel
theorem dX4_isSign_29 : decode cX4_isSign 29 = .ok (.iadd, 1) := by decide +kernel
theorem dX4_isSign_30 : decode cX4_isSign 30 = .ok (.putfield 82, 3) := by decide +kernel
theorem dX4_isSign_33 : decode cX4_isSign 33 = .ok (.iconst 1, 1) := by decide +kernel
theorem dX4_isSign_34 : decode cX4_isSign 34 = .ok (.ireturn, 1) := by decide +kernel
theorem dX4_county_0 : decode cX4_county 0 = .ok (.aload_n 0, 1) := by decide +kernel
theorem dX4_county_1 : decode cX4_county 1 = .ok (.iconst 0, 1) := by decide +kernel
theorem dX4_county_2 : decode cX4_county 2 = .ok (.putfield 58, 3) := by decide +kernel
theorem dX4_county_5 : decode cX4_county 5 = .ok (.iload_n 1, 1) := by decide +kernel
theorem dX4_county_6 : decode cX4_county 6 = .ok (.invokestatic 85, 3) := by decide +kernel
theorem dX4_county_9 : decode cX4_county 9 = .ok (.ifCond .ne 5, 3) := by decide +kernel
theorem dX4_county_12 : decode cX4_county 12 = .ok (.iconst (-1), 1) := by decide +kernel
theorem dX4_county_13 : decode cX4_county 13 = .ok (.ireturn, 1) := by decide +kernel
theorem dX4_county_14 : decode cX4_county 14 = .ok (.iload_n 2, 1) := by decide +kernel
theorem dX4_county_15 : decode cX4_county 15 = .ok (.invokestatic 88, 3) := by decide +kernel
theorem dX4_county_18 : decode cX4_county 18 = .ok (.ifCond .ne 6, 3) := by decide +kernel
theorem dX4_county_21 : decode cX4_county 21 = .ok (.bipush (-2), 2) := by decide +kernel
theorem dX4_county_23 : decode cX4_county 23 = .ok (.ireturn, 1) := by decide +kernel
theorem dX4_county_24 : decode cX4_county 24 = .ok (.aload_n 0, 1) := by decide +kernel
theorem dX4_county_25 : decode cX4_county 25 = .ok (.iload_n 1, 1) := by decide +kernel
theorem dX4_county_26 : decode cX4_county 26 = .ok (.iload_n 2, 1) := by decide +kernel
theorem dX4_county_27 : decode cX4_county 27 = .ok (.iload_n 3, 1) := by decide +kernel
theorem dX4_county_28 : decode cX4_county 28 = .ok (.iload 4, 2) := by decide +kernel
theorem dX4_county_30 : decode cX4_county 30 = .ok (.invokevirtual 91, 3) := by decide +kernel
theorem dX4_county_33 : decode cX4_county 33 = .ok (.istore 5, 2) := by decide +kernel
theorem dX4_county_35 : decode cX4_county 35 = .ok (.iload 5, 2) := by decide +kernel
theorem dX4_county_37 : decode cX4_county 37 = .ok (.ifCond .eq 10, 3) := by decide +kernel
theorem dX4_county_40 : decode cX4_county 40 = .ok (.aload_n 0, 1) := by decide +kernel
theorem dX4_county_41 : decode cX4_county 41 = .ok (.iload 5, 2) := by decide +kernel
theorem dX4_county_43 : decode cX4_county 43 = .ok (.invokevirtual 95, 3) := by decide +kernel
theorem dX4_county_46 : decode cX4_county 46 = .ok (.ireturn, 1) := by decide +kernel
theorem dX4_county_47 : decode cX4_county 47 = .ok (.bipush 60, 2) := by decide +kernel
theorem dX4_county_49 : decode cX4_county 49 = .ok (.iload_n 1, 1) := by decide +kernel
theorem dX4_county_50 : decode cX4_county 50 = .ok (.imul, 1) := by decide +kernel
theorem dX4_county_51 : decode cX4_county 51 = .ok (.iload_n 3, 1) := by decide +kernel
theorem dX4_county_52 : decode cX4_county 52 = .ok (.iadd, 1) := by decide +kernel
theorem dX4_county_53 : decode cX4_county 53 = .ok (.istore 6, 2) := by decide +kernel
theorem dX4_county_55 : decode cX4_county 55 = .ok (.aload_n 0, 1) := by decide +kernel
theorem dX4_county_56 : decode cX4_county 56 = .ok (.iload 6, 2) := by decide +kernel
theorem dX4_county_58 : decode cX4_county 58 = .ok (.putfield 82, 3) := by decide +kernel
theorem dX4_county_61 : decode cX4_county 61 = .ok (.aload_n 0, 1) := by decide +kernel
theorem dX4_county_62 : decode cX4_county 62 = .ok (.iload 6, 2) := by decide +kernel
theorem dX4_county_64 : decode cX4_county 64 = .ok (.iload 4, 2) := by decide +kernel
theorem dX4_county_66 : decode cX4_county 66 = .ok (.iadd, 1) := by decide +kernel
theorem dX4_county_67 : decode cX4_county 67 = .ok (.invokevirtual 98, 3) := by decide +kernel
theorem dX4_county_70 : decode cX4_county 70 = .ok (.ifCond .ne 14, 3) := by decide +kernel
theorem dX4_county_73 : decode cX4_county 73 = .ok (.bipush (-100), 2) := by decide +kernel
theorem dX4_county_75 : decode cX4_county 75 = .ok (.aload_n 0, 1) := by decide +kernel
theorem dX4_county_76 : decode cX4_county 76 = .ok (.getfield 82, 3) := by decide +kernel
theorem dX4_county_79 : decode cX4_county 79 = .ok (.iload 6, 2) := by decide +kernel
theorem dX4_county_81 : decode cX4_county 81 = .ok (.isub, 1) := by decide +kernel
theorem dX4_county_82 : decode cX4_county 82 = .ok (.isub, 1) := by decide +kernel
theorem dX4_county_83 : decode cX4_county 83 = .ok (.ireturn, 1) := by decide +kernel
theorem dX4_county_84 : decode cX4_county 84 = .ok (.aload_n 0, 1) := by decide +kernel
theorem dX4_county_85 : decode cX4_county 85 = .ok (.invokevirtual 101, 3) := by decide +kernel
theorem dX4_county_88 : decode cX4_county 88 = .ok (.aload_n 0, 1) := by decide +kernel
theorem dX4_county_89 : decode cX4_county 89 = .ok (.getfield 75, 3) := by decide +kernel
theorem dX4_county_92 : decode cX4_county 92 = .ok (.ireturn, 1) := by decide +kernel
theorem dX4_takeCounty_0 : decode cX4_takeCounty 0 = .ok (.aload_n 0, 1) := by decide +kernel
theorem dX4_takeCounty_1 : decode cX4_takeCounty 1 = .ok (.aload_n 0, 1) := by decide +kernel
theorem dX4_takeCounty_2 : decode cX4_takeCounty 2 = .ok (.getfield 104, 3) := by decide +kernel
theorem dX4_takeCounty_5 : decode cX4_takeCounty 5 = .ok (.putfield 68, 3) := by decide +kernel
theorem dX4_takeCounty_8 : decode cX4_takeCounty 8 = .ok (.iconst 0, 1) := by decide +kernel
theorem dX4_takeCounty_9 : decode cX4_takeCounty 9 = .ok (.istore_n 1, 1) := by decide +kernel
theorem dX4_takeCounty_10 : decode cX4_takeCounty 10 = .ok (.iload_n 1, 1) := by decide +kernel
theorem dX4_takeCounty_11 : decode cX4_takeCounty 11 = .ok (.aload_n 0, 1) := by decide +kernel
theorem dX4_takeCounty_12 : decode cX4_takeCounty 12 = .ok (.invokevirtual 107, 3) := by decide +kernel
theorem dX4_takeCounty_15 : decode cX4_takeCounty 15 = .ok (.if_icmp .ge 21, 3) := by decide +kernel
theorem dX4_takeCounty_18 : decode cX4_takeCounty 18 = .ok (.aload_n 0, 1) := by decide +kernel
theorem dX4_takeCounty_19 : decode cX4_takeCounty 19 = .ok (.getfield 19, 3) := by decide +kernel
theorem dX4_takeCounty_22 : decode cX4_takeCounty 22 = .ok (.iload_n 1, 1) := by decide +kernel
theorem dX4_takeCounty_23 : decode cX4_takeCounty 23 = .ok (.aload_n 0, 1) := by decide +kernel
theorem dX4_takeCounty_24 : decode cX4_takeCounty 24 = .ok (.getfield 31, 3) := by decide +kernel
theorem dX4_takeCounty_27 : decode cX4_takeCounty 27 = .ok (.iload_n 1, 1) := by decide +kernel
theorem dX4_takeCounty_28 : decode cX4_takeCounty 28 = .ok (.iaload, 1) := by decide +kernel
theorem dX4_takeCounty_29 : decode cX4_takeCounty 29 = .ok (.iastore, 1) := by decide +kernel
theorem dX4_takeCounty_30 : decode cX4_takeCounty 30 = .ok (.iinc 1 1, 3) := by decide +kernel
theorem dX4_takeCounty_33 : decode cX4_takeCounty 33 = .ok (.goto (-23), 3) := by decide +kernel
theorem dX4_takeCounty_36 : decode cX4_takeCounty 36 = .ok (.aload_n 0, 1) := by decide +kernel
theorem dX4_takeCounty_37 : decode cX4_takeCounty 37 = .ok (.aload_n 0, 1) := by decide +kernel
theorem dX4_takeCounty_38 : decode cX4_takeCounty 38 = .ok (.getfield 111, 3) := by decide +kernel
theorem dX4_takeCounty_41 : decode cX4_takeCounty 41 = .ok (.putfield 75, 3) := by decide +kernel
theorem dX4_takeCounty_44 : decode cX4_takeCounty 44 = .ok (.iconst 0, 1) := by decide +kernel
theorem dX4_takeCounty_45 : decode cX4_takeCounty 45 = .ok (.istore_n 1, 1) := by decide +kernel
theorem dX4_takeCounty_46 : decode cX4_takeCounty 46 = .ok (.iload_n 1, 1) := by decide +kernel
theorem dX4_takeCounty_47 : decode cX4_takeCounty 47 = .ok (.aload_n 0, 1) := by decide +kernel
theorem dX4_takeCounty_48 : decode cX4_takeCounty 48 = .ok (.getfield 75, 3) := by decide +kernel
theorem dX4_takeCounty_51 : decode cX4_takeCounty 51 = .ok (.if_icmp .ge 55, 3) := by decide +kernel
theorem dX4_takeCounty_54 : decode cX4_takeCounty 54 = .ok (.aload_n 0, 1) := by decide +kernel
theorem dX4_takeCounty_55 : decode cX4_takeCounty 55 = .ok (.getfield 22, 3) := by decide +kernel
theorem dX4_takeCounty_58 : decode cX4_takeCounty 58 = .ok (.iload_n 1, 1) := by decide +kernel
theorem dX4_takeCounty_59 : decode cX4_takeCounty 59 = .ok (.aload_n 0, 1) := by decide +kernel
theorem dX4_takeCounty_60 : decode cX4_takeCounty 60 = .ok (.getfield 34, 3) := by decide +kernel
theorem dX4_takeCounty_63 : decode cX4_takeCounty 63 = .ok (.iconst 3, 1) := by decide +kernel
theorem dX4_takeCounty_64 : decode cX4_takeCounty 64 = .ok (.iload_n 1, 1) := by decide +kernel
theorem dX4_takeCounty_65 : decode cX4_takeCounty 65 = .ok (.imul, 1) := by decide +kernel
theorem dX4_takeCounty_66 : decode cX4_takeCounty 66 = .ok (.iaload, 1) := by decide +kernel
theorem dX4_takeCounty_67 : decode cX4_takeCounty 67 = .ok (.iastore, 1) := by decide +kernel
theorem dX4_takeCounty_68 : decode cX4_takeCounty 68 = .ok (.aload_n 0, 1) := by decide +kernel
theorem dX4_takeCounty_69 : decode cX4_takeCounty 69 = .ok (.getfield 25, 3) := by decide +kernel
theorem dX4_takeCounty_72 : decode cX4_takeCounty 72 = .ok (.iload_n 1, 1) := by decide +kernel
theorem dX4_takeCounty_73 : decode cX4_takeCounty 73 = .ok (.aload_n 0, 1) := by decide +kernel
theorem dX4_takeCounty_74 : decode cX4_takeCounty 74 = .ok (.getfield 34, 3) := by decide +kernel
theorem dX4_takeCounty_77 : decode cX4_takeCounty 77 = .ok (.iconst 3, 1) := by decide +kernel
theorem dX4_takeCounty_78 : decode cX4_takeCounty 78 = .ok (.iload_n 1, 1) := by decide +kernel
theorem dX4_takeCounty_79 : decode cX4_takeCounty 79 = .ok (.imul, 1) := by decide +kernel
theorem dX4_takeCounty_80 : decode cX4_takeCounty 80 = .ok (.iconst 1, 1) := by decide +kernel
theorem dX4_takeCounty_81 : decode cX4_takeCounty 81 = .ok (.iadd, 1) := by decide +kernel
theorem dX4_takeCounty_82 : decode cX4_takeCounty 82 = .ok (.iaload, 1) := by decide +kernel
theorem dX4_takeCounty_83 : decode cX4_takeCounty 83 = .ok (.iastore, 1) := by decide +kernel
theorem dX4_takeCounty_84 : decode cX4_takeCounty 84 = .ok (.aload_n 0, 1) := by decide +kernel
theorem dX4_takeCounty_85 : decode cX4_takeCounty 85 = .ok (.getfield 28, 3) := by decide +kernel
theorem dX4_takeCounty_88 : decode cX4_takeCounty 88 = .ok (.iload_n 1, 1) := by decide +kernel
theorem dX4_takeCounty_89 : decode cX4_takeCounty 89 = .ok (.aload_n 0, 1) := by decide +kernel
theorem dX4_takeCounty_90 : decode cX4_takeCounty 90 = .ok (.getfield 34, 3) := by decide +kernel
theorem dX4_takeCounty_93 : decode cX4_takeCounty 93 = .ok (.iconst 3, 1) := by decide +kernel
theorem dX4_takeCounty_94 : decode cX4_takeCounty 94 = .ok (.iload_n 1, 1) := by decide +kernel
theorem dX4_takeCounty_95 : decode cX4_takeCounty 95 = .ok (.imul, 1) := by decide +kernel
theorem dX4_takeCounty_96 : decode cX4_takeCounty 96 = .ok (.iconst 2, 1) := by decide +kernel
theorem dX4_takeCounty_97 : decode cX4_takeCounty 97 = .ok (.iadd, 1) := by decide +kernel
theorem dX4_takeCounty_98 : decode cX4_takeCounty 98 = .ok (.iaload, 1) := by decide +kernel
theorem dX4_takeCounty_99 : decode cX4_takeCounty 99 = .ok (.iastore, 1) := by decide +kernel
theorem dX4_takeCounty_100 : decode cX4_takeCounty 100 = .ok (.iinc 1 1, 3) := by decide +kernel
theorem dX4_takeCounty_103 : decode cX4_takeCounty 103 = .ok (.goto (-57), 3) := by decide +kernel
theorem dX4_takeCounty_106 : decode cX4_takeCounty 106 = .ok (.aload_n 0, 1) := by decide +kernel
theorem dX4_takeCounty_107 : decode cX4_takeCounty 107 = .ok (.iconst 0, 1) := by decide +kernel
theorem dX4_takeCounty_108 : decode cX4_takeCounty 108 = .ok (.putfield 114, 3) := by decide +kernel
theorem dX4_takeCounty_111 : decode cX4_takeCounty 111 = .ok (.aload_n 0, 1) := by decide +kernel
theorem dX4_takeCounty_112 : decode cX4_takeCounty 112 = .ok (.iconst 0, 1) := by decide +kernel
theorem dX4_takeCounty_113 : decode cX4_takeCounty 113 = .ok (.putfield 117, 3) := by decide +kernel
theorem dX4_takeCounty_116 : decode cX4_takeCounty 116 = .ok (.aload_n 0, 1) := by decide +kernel
theorem dX4_takeCounty_117 : decode cX4_takeCounty 117 = .ok (.iconst 0, 1) := by decide +kernel
theorem dX4_takeCounty_118 : decode cX4_takeCounty 118 = .ok (.putfield 120, 3) := by decide +kernel
theorem dX4_takeCounty_121 : decode cX4_takeCounty 121 = .ok (.aload_n 0, 1) := by decide +kernel
theorem dX4_takeCounty_122 : decode cX4_takeCounty 122 = .ok (.iconst 0, 1) := by decide +kernel
theorem dX4_takeCounty_123 : decode cX4_takeCounty 123 = .ok (.putfield 123, 3) := by decide +kernel
theorem dX4_takeCounty_126 : decode cX4_takeCounty 126 = .ok (.return_, 1) := by decide +kernel
theorem dX4_readCounty_0 : decode cX4_readCounty 0 = .ok (.aload_n 0, 1) := by decide +kernel
theorem dX4_readCounty_1 : decode cX4_readCounty 1 = .ok (.iconst 0, 1) := by decide +kernel
theorem dX4_readCounty_2 : decode cX4_readCounty 2 = .ok (.putfield 111, 3) := by decide +kernel
theorem dX4_readCounty_5 : decode cX4_readCounty 5 = .ok (.aload_n 0, 1) := by decide +kernel
theorem dX4_readCounty_6 : decode cX4_readCounty 6 = .ok (.iload_n 1, 1) := by decide +kernel
theorem dX4_readCounty_7 : decode cX4_readCounty 7 = .ok (.bipush 104, 2) := by decide +kernel
theorem dX4_readCounty_9 : decode cX4_readCounty 9 = .ok (.invokevirtual 126, 3) := by decide +kernel
theorem dX4_readCounty_12 : decode cX4_readCounty 12 = .ok (.ifCond .ne 5, 3) := by decide +kernel
theorem dX4_readCounty_15 : decode cX4_readCounty 15 = .ok (.iconst 0, 1) := by decide +kernel
theorem dX4_readCounty_16 : decode cX4_readCounty 16 = .ok (.ireturn, 1) := by decide +kernel
theorem dX4_readCounty_17 : decode cX4_readCounty 17 = .ok (.aload_n 0, 1) := by decide +kernel
theorem dX4_readCounty_18 : decode cX4_readCounty 18 = .ok (.aload_n 0, 1) := by decide +kernel
theorem dX4_readCounty_19 : decode cX4_readCounty 19 = .ok (.iload_n 1, 1) := by decide +kernel
theorem dX4_readCounty_20 : decode cX4_readCounty 20 = .ok (.iconst 2, 1) := by decide +kernel
theorem dX4_readCounty_21 : decode cX4_readCounty 21 = .ok (.iconst 5, 1) := by decide +kernel
theorem dX4_readCounty_22 : decode cX4_readCounty 22 = .ok (.invokevirtual 130, 3) := by decide +kernel
theorem dX4_readCounty_25 : decode cX4_readCounty 25 = .ok (.putfield 104, 3) := by decide +kernel
theorem dX4_readCounty_28 : decode cX4_readCounty 28 = .ok (.aload_n 0, 1) := by decide +kernel
theorem dX4_readCounty_29 : decode cX4_readCounty 29 = .ok (.getfield 104, 3) := by decide +kernel
theorem dX4_readCounty_32 : decode cX4_readCounty 32 = .ok (.bipush (-9), 2) := by decide +kernel
theorem dX4_readCounty_34 : decode cX4_readCounty 34 = .ok (.if_icmp .ne 5, 3) := by decide +kernel
theorem dX4_readCounty_37 : decode cX4_readCounty 37 = .ok (.iconst 0, 1) := by decide +kernel
theorem dX4_readCounty_38 : decode cX4_readCounty 38 = .ok (.ireturn, 1) := by decide +kernel
theorem dX4_readCounty_39 : decode cX4_readCounty 39 = .ok (.iconst 0, 1) := by decide +kernel
theorem dX4_readCounty_40 : decode cX4_readCounty 40 = .ok (.istore_n 2, 1) := by decide +kernel
theorem dX4_readCounty_41 : decode cX4_readCounty 41 = .ok (.iload_n 2, 1) := by decide +kernel
theorem dX4_readCounty_42 : decode cX4_readCounty 42 = .ok (.aload_n 0, 1) := by decide +kernel
theorem dX4_readCounty_43 : decode cX4_readCounty 43 = .ok (.getfield 104, 3) := by decide +kernel
theorem dX4_readCounty_46 : decode cX4_readCounty 46 = .ok (.invokestatic 78, 3) := by decide +kernel
theorem dX4_readCounty_49 : decode cX4_readCounty 49 = .ok (.if_icmp .ge 36, 3) := by decide +kernel
theorem dX4_readCounty_52 : decode cX4_readCounty 52 = .ok (.aload_n 0, 1) := by decide +kernel
theorem dX4_readCounty_53 : decode cX4_readCounty 53 = .ok (.getfield 31, 3) := by decide +kernel
theorem dX4_readCounty_56 : decode cX4_readCounty 56 = .ok (.iload_n 2, 1) := by decide +kernel
theorem dX4_readCounty_57 : decode cX4_readCounty 57 = .ok (.aload_n 0, 1) := by decide +kernel
theorem dX4_readCounty_58 : decode cX4_readCounty 58 = .ok (.iload_n 1, 1) := by decide +kernel
theorem dX4_readCounty_59 : decode cX4_readCounty 59 = .ok (.iconst 0, 1) := by decide +kernel
theorem dX4_readCounty_60 : decode cX4_readCounty 60 = .ok (.bipush 9, 2) := by decide +kernel
theorem dX4_readCounty_62 : decode cX4_readCounty 62 = .ok (.invokevirtual 130, 3) := by decide +kernel
theorem dX4_readCounty_65 : decode cX4_readCounty 65 = .ok (.iastore, 1) := by decide +kernel
theorem dX4_readCounty_66 : decode cX4_readCounty 66 = .ok (.aload_n 0, 1) := by decide +kernel
theorem dX4_readCounty_67 : decode cX4_readCounty 67 = .ok (.getfield 31, 3) := by decide +kernel
theorem dX4_readCounty_70 : decode cX4_readCounty 70 = .ok (.iload_n 2, 1) := by decide +kernel
theorem dX4_readCounty_71 : decode cX4_readCounty 71 = .ok (.iaload, 1) := by decide +kernel
theorem dX4_readCounty_72 : decode cX4_readCounty 72 = .ok (.bipush (-9), 2) := by decide +kernel
theorem dX4_readCounty_74 : decode cX4_readCounty 74 = .ok (.if_icmp .ne 5, 3) := by decide +kernel
theorem dX4_readCounty_77 : decode cX4_readCounty 77 = .ok (.iconst 0, 1) := by decide +kernel
theorem dX4_readCounty_78 : decode cX4_readCounty 78 = .ok (.ireturn, 1) := by decide +kernel
theorem dX4_readCounty_79 : decode cX4_readCounty 79 = .ok (.iinc 2 1, 3) := by decide +kernel
theorem dX4_readCounty_82 : decode cX4_readCounty 82 = .ok (.goto (-41), 3) := by decide +kernel
theorem dX4_readCounty_85 : decode cX4_readCounty 85 = .ok (.aload_n 0, 1) := by decide +kernel
theorem dX4_readCounty_86 : decode cX4_readCounty 86 = .ok (.getfield 111, 3) := by decide +kernel
theorem dX4_readCounty_89 : decode cX4_readCounty 89 = .ok (.ifCond .eq 19, 3) := by decide +kernel
theorem dX4_readCounty_92 : decode cX4_readCounty 92 = .ok (.aload_n 0, 1) := by decide +kernel
theorem dX4_readCounty_93 : decode cX4_readCounty 93 = .ok (.getfield 111, 3) := by decide +kernel
theorem dX4_readCounty_96 : decode cX4_readCounty 96 = .ok (.iconst 5, 1) := by decide +kernel
theorem dX4_readCounty_97 : decode cX4_readCounty 97 = .ok (.if_icmp .ge 31, 3) := by decide +kernel
theorem dX4_readCounty_100 : decode cX4_readCounty 100 = .ok (.aload_n 0, 1) := by decide +kernel
theorem dX4_readCounty_101 : decode cX4_readCounty 101 = .ok (.getfield 82, 3) := by decide +kernel
theorem dX4_readCounty_104 : decode cX4_readCounty 104 = .ok (.iload_n 1, 1) := by decide +kernel
theorem dX4_readCounty_105 : decode cX4_readCounty 105 = .ok (.if_icmp .ge 23, 3) := by decide +kernel
theorem dX4_readCounty_108 : decode cX4_readCounty 108 = .ok (.aload_n 0, 1) := by decide +kernel
theorem dX4_readCounty_109 : decode cX4_readCounty 109 = .ok (.iload_n 1, 1) := by decide +kernel
theorem dX4_readCounty_110 : decode cX4_readCounty 110 = .ok (.bipush 59, 2) := by decide +kernel
theorem dX4_readCounty_112 : decode cX4_readCounty 112 = .ok (.invokevirtual 126, 3) := by decide +kernel
theorem dX4_readCounty_115 : decode cX4_readCounty 115 = .ok (.ifCond .eq 11, 3) := by decide +kernel
theorem dX4_readCounty_118 : decode cX4_readCounty 118 = .ok (.aload_n 0, 1) := by decide +kernel
theorem dX4_readCounty_119 : decode cX4_readCounty 119 = .ok (.iload_n 1, 1) := by decide +kernel
theorem dX4_readCounty_120 : decode cX4_readCounty 120 = .ok (.invokevirtual 134, 3) := by decide +kernel
theorem dX4_readCounty_123 : decode cX4_readCounty 123 = .ok (.ifCond .ne (-38), 3) := by decide +kernel
theorem dX4_readCounty_126 : decode cX4_readCounty 126 = .ok (.iconst 0, 1) := by decide +kernel
theorem dX4_readCounty_127 : decode cX4_readCounty 127 = .ok (.ireturn, 1) := by decide +kernel
theorem dX4_readCounty_128 : decode cX4_readCounty 128 = .ok (.aload_n 0, 1) := by decide +kernel
theorem dX4_readCounty_129 : decode cX4_readCounty 129 = .ok (.getfield 82, 3) := by decide +kernel
theorem dX4_readCounty_132 : decode cX4_readCounty 132 = .ok (.iload_n 1, 1) := by decide +kernel
theorem dX4_readCounty_133 : decode cX4_readCounty 133 = .ok (.if_icmp .ne 7, 3) := by decide +kernel
theorem dX4_readCounty_136 : decode cX4_readCounty 136 = .ok (.iconst 1, 1) := by decide +kernel
theorem dX4_readCounty_137 : decode cX4_readCounty 137 = .ok (.goto 4, 3) := by decide +kernel
theorem dX4_readCounty_140 : decode cX4_readCounty 140 = .ok (.iconst 0, 1) := by decide +kernel
theorem dX4_readCounty_141 : decode cX4_readCounty 141 = .ok (.ireturn, 1) := by decide +kernel
theorem dX4_readGoer_0 : decode cX4_readGoer 0 = .ok (.aload_n 0, 1) := by decide +kernel
theorem dX4_readGoer_1 : decode cX4_readGoer 1 = .ok (.getfield 82, 3) := by decide +kernel
theorem dX4_readGoer_4 : decode cX4_readGoer 4 = .ok (.iload_n 1, 1) := by decide +kernel
theorem dX4_readGoer_5 : decode cX4_readGoer 5 = .ok (.if_icmp .ge 15, 3) := by decide +kernel
theorem dX4_readGoer_8 : decode cX4_readGoer 8 = .ok (.aload_n 0, 1) := by decide +kernel
theorem dX4_readGoer_9 : decode cX4_readGoer 9 = .ok (.getfield 16, 3) := by decide +kernel
theorem dX4_readGoer_12 : decode cX4_readGoer 12 = .ok (.aload_n 0, 1) := by decide +kernel
theorem dX4_readGoer_13 : decode cX4_readGoer 13 = .ok (.getfield 82, 3) := by decide +kernel
theorem dX4_readGoer_16 : decode cX4_readGoer 16 = .ok (.iaload, 1) := by decide +kernel
theorem dX4_readGoer_17 : decode cX4_readGoer 17 = .ok (.goto 4, 3) := by decide +kernel
theorem dX4_readGoer_20 : decode cX4_readGoer 20 = .ok (.iconst 0, 1) := by decide +kernel
theorem dX4_readGoer_21 : decode cX4_readGoer 21 = .ok (.istore_n 2, 1) := by decide +kernel
theorem dX4_readGoer_22 : decode cX4_readGoer 22 = .ok (.iconst 3, 1) := by decide +kernel
theorem dX4_readGoer_23 : decode cX4_readGoer 23 = .ok (.aload_n 0, 1) := by decide +kernel
theorem dX4_readGoer_24 : decode cX4_readGoer 24 = .ok (.getfield 111, 3) := by decide +kernel
theorem dX4_readGoer_27 : decode cX4_readGoer 27 = .ok (.imul, 1) := by decide +kernel
theorem dX4_readGoer_28 : decode cX4_readGoer 28 = .ok (.istore_n 3, 1) := by decide +kernel
theorem dX4_readGoer_29 : decode cX4_readGoer 29 = .ok (.aload_n 0, 1) := by decide +kernel
theorem dX4_readGoer_30 : decode cX4_readGoer 30 = .ok (.getfield 34, 3) := by decide +kernel
theorem dX4_readGoer_33 : decode cX4_readGoer 33 = .ok (.iload_n 3, 1) := by decide +kernel
theorem dX4_readGoer_34 : decode cX4_readGoer 34 = .ok (.iload_n 2, 1) := by decide +kernel
theorem dX4_readGoer_35 : decode cX4_readGoer 35 = .ok (.bipush 103, 2) := by decide +kernel
theorem dX4_readGoer_37 : decode cX4_readGoer 37 = .ok (.if_icmp .ne 7, 3) := by decide +kernel
theorem dX4_readGoer_40 : decode cX4_readGoer 40 = .ok (.iconst 0, 1) := by decide +kernel
theorem dX4_readGoer_41 : decode cX4_readGoer 41 = .ok (.goto 25, 3) := by decide +kernel
theorem dX4_readGoer_44 : decode cX4_readGoer 44 = .ok (.iload_n 2, 1) := by decide +kernel
theorem dX4_readGoer_45 : decode cX4_readGoer 45 = .ok (.bipush 116, 2) := by decide +kernel
theorem dX4_readGoer_47 : decode cX4_readGoer 47 = .ok (.if_icmp .ne 7, 3) := by decide +kernel
theorem dX4_readGoer_50 : decode cX4_readGoer 50 = .ok (.iconst 1, 1) := by decide +kernel
theorem dX4_readGoer_51 : decode cX4_readGoer 51 = .ok (.goto 15, 3) := by decide +kernel
theorem dX4_readGoer_54 : decode cX4_readGoer 54 = .ok (.iload_n 2, 1) := by decide +kernel
theorem dX4_readGoer_55 : decode cX4_readGoer 55 = .ok (.bipush 99, 2) := by decide +kernel
theorem dX4_readGoer_57 : decode cX4_readGoer 57 = .ok (.if_icmp .ne 7, 3) := by decide +kernel
theorem dX4_readGoer_60 : decode cX4_readGoer 60 = .ok (.iconst 2, 1) := by decide +kernel
theorem dX4_readGoer_61 : decode cX4_readGoer 61 = .ok (.goto 5, 3) := by decide +kernel
theorem dX4_readGoer_64 : decode cX4_readGoer 64 = .ok (.bipush (-9), 2) := by decide +kernel
theorem dX4_readGoer_66 : decode cX4_readGoer 66 = .ok (.iastore, 1) := by decide +kernel
theorem dX4_readGoer_67 : decode cX4_readGoer 67 = .ok (.aload_n 0, 1) := by decide +kernel
theorem dX4_readGoer_68 : decode cX4_readGoer 68 = .ok (.getfield 34, 3) := by decide +kernel
theorem dX4_readGoer_71 : decode cX4_readGoer 71 = .ok (.iload_n 3, 1) := by decide +kernel
theorem dX4_readGoer_72 : decode cX4_readGoer 72 = .ok (.iaload, 1) := by decide +kernel
theorem dX4_readGoer_73 : decode cX4_readGoer 73 = .ok (.bipush (-9), 2) := by decide +kernel
theorem dX4_readGoer_75 : decode cX4_readGoer 75 = .ok (.if_icmp .ne 5, 3) := by decide +kernel
theorem dX4_readGoer_78 : decode cX4_readGoer 78 = .ok (.iconst 0, 1) := by decide +kernel
theorem dX4_readGoer_79 : decode cX4_readGoer 79 = .ok (.ireturn, 1) := by decide +kernel
theorem dX4_readGoer_80 : decode cX4_readGoer 80 = .ok (.aload_n 0, 1) := by decide +kernel
theorem dX4_readGoer_81 : decode cX4_readGoer 81 = .ok (.dup, 1) := by decide +kernel
theorem dX4_readGoer_82 : decode cX4_readGoer 82 = .ok (.getfield 82, 3) := by decide +kernel
theorem dX4_readGoer_85 : decode cX4_readGoer 85 = .ok (.iconst 1, 1) := by decide +kernel
theorem dX4_readGoer_86 : decode cX4_readGoer 86 = .ok (.iadd, 1) := by decide +kernel
theorem dX4_readGoer_87 : decode cX4_readGoer 87 = .ok (.putfield 82, 3) := by decide +kernel
theorem dX4_readGoer_90 : decode cX4_readGoer 90 = .ok (.aload_n 0, 1) := by decide +kernel
theorem dX4_readGoer_91 : decode cX4_readGoer 91 = .ok (.getfield 34, 3) := by decide +kernel
theorem dX4_readGoer_94 : decode cX4_readGoer 94 = .ok (.iload_n 3, 1) := by decide +kernel
theorem dX4_readGoer_95 : decode cX4_readGoer 95 = .ok (.iconst 1, 1) := by decide +kernel
theorem dX4_readGoer_96 : decode cX4_readGoer 96 = .ok (.iadd, 1) := by decide +kernel
theorem dX4_readGoer_97 : decode cX4_readGoer 97 = .ok (.aload_n 0, 1) := by decide +kernel
theorem dX4_readGoer_98 : decode cX4_readGoer 98 = .ok (.iload_n 1, 1) := by decide +kernel
theorem dX4_readGoer_99 : decode cX4_readGoer 99 = .ok (.iconst 1, 1) := by decide +kernel
theorem dX4_readGoer_100 : decode cX4_readGoer 100 = .ok (.bipush 9, 2) := by decide +kernel
theorem dX4_readGoer_102 : decode cX4_readGoer 102 = .ok (.invokevirtual 130, 3) := by decide +kernel
theorem dX4_readGoer_105 : decode cX4_readGoer 105 = .ok (.iastore, 1) := by decide +kernel
theorem dX4_readGoer_106 : decode cX4_readGoer 106 = .ok (.aload_n 0, 1) := by decide +kernel
theorem dX4_readGoer_107 : decode cX4_readGoer 107 = .ok (.getfield 34, 3) := by decide +kernel
theorem dX4_readGoer_110 : decode cX4_readGoer 110 = .ok (.iload_n 3, 1) := by decide +kernel
theorem dX4_readGoer_111 : decode cX4_readGoer 111 = .ok (.iconst 1, 1) := by decide +kernel
theorem dX4_readGoer_112 : decode cX4_readGoer 112 = .ok (.iadd, 1) := by decide +kernel
theorem dX4_readGoer_113 : decode cX4_readGoer 113 = .ok (.iaload, 1) := by decide +kernel
theorem dX4_readGoer_114 : decode cX4_readGoer 114 = .ok (.bipush (-9), 2) := by decide +kernel
theorem dX4_readGoer_116 : decode cX4_readGoer 116 = .ok (.if_icmp .ne 5, 3) := by decide +kernel
theorem dX4_readGoer_119 : decode cX4_readGoer 119 = .ok (.iconst 0, 1) := by decide +kernel
theorem dX4_readGoer_120 : decode cX4_readGoer 120 = .ok (.ireturn, 1) := by decide +kernel
theorem dX4_readGoer_121 : decode cX4_readGoer 121 = .ok (.aload_n 0, 1) := by decide +kernel
theorem dX4_readGoer_122 : decode cX4_readGoer 122 = .ok (.getfield 34, 3) := by decide +kernel
theorem dX4_readGoer_125 : decode cX4_readGoer 125 = .ok (.iload_n 3, 1) := by decide +kernel
theorem dX4_readGoer_126 : decode cX4_readGoer 126 = .ok (.iconst 2, 1) := by decide +kernel
theorem dX4_readGoer_127 : decode cX4_readGoer 127 = .ok (.iadd, 1) := by decide +kernel
theorem dX4_readGoer_128 : decode cX4_readGoer 128 = .ok (.aload_n 0, 1) := by decide +kernel
theorem dX4_readGoer_129 : decode cX4_readGoer 129 = .ok (.iload_n 1, 1) := by decide +kernel
theorem dX4_readGoer_130 : decode cX4_readGoer 130 = .ok (.iconst 0, 1) := by decide +kernel
theorem dX4_readGoer_131 : decode cX4_readGoer 131 = .ok (.aload_n 0, 1) := by decide +kernel
theorem dX4_readGoer_132 : decode cX4_readGoer 132 = .ok (.getfield 104, 3) := by decide +kernel
theorem dX4_readGoer_135 : decode cX4_readGoer 135 = .ok (.iconst 1, 1) := by decide +kernel
theorem dX4_readGoer_136 : decode cX4_readGoer 136 = .ok (.isub, 1) := by decide +kernel
theorem dX4_readGoer_137 : decode cX4_readGoer 137 = .ok (.invokevirtual 130, 3) := by decide +kernel
theorem dX4_readGoer_140 : decode cX4_readGoer 140 = .ok (.iastore, 1) := by decide +kernel
theorem dX4_readGoer_141 : decode cX4_readGoer 141 = .ok (.aload_n 0, 1) := by decide +kernel
theorem dX4_readGoer_142 : decode cX4_readGoer 142 = .ok (.dup, 1) := by decide +kernel
theorem dX4_readGoer_143 : decode cX4_readGoer 143 = .ok (.getfield 111, 3) := by decide +kernel
theorem dX4_readGoer_146 : decode cX4_readGoer 146 = .ok (.iconst 1, 1) := by decide +kernel
theorem dX4_readGoer_147 : decode cX4_readGoer 147 = .ok (.iadd, 1) := by decide +kernel
theorem dX4_readGoer_148 : decode cX4_readGoer 148 = .ok (.putfield 111, 3) := by decide +kernel
theorem dX4_readGoer_151 : decode cX4_readGoer 151 = .ok (.aload_n 0, 1) := by decide +kernel
theorem dX4_readGoer_152 : decode cX4_readGoer 152 = .ok (.getfield 34, 3) := by decide +kernel
theorem dX4_readGoer_155 : decode cX4_readGoer 155 = .ok (.iload_n 3, 1) := by decide +kernel
theorem dX4_readGoer_156 : decode cX4_readGoer 156 = .ok (.iconst 2, 1) := by decide +kernel
theorem dX4_readGoer_157 : decode cX4_readGoer 157 = .ok (.iadd, 1) := by decide +kernel
theorem dX4_readGoer_158 : decode cX4_readGoer 158 = .ok (.iaload, 1) := by decide +kernel
theorem dX4_readGoer_159 : decode cX4_readGoer 159 = .ok (.bipush (-9), 2) := by decide +kernel
theorem dX4_readGoer_161 : decode cX4_readGoer 161 = .ok (.if_icmp .eq 7, 3) := by decide +kernel
theorem dX4_readGoer_164 : decode cX4_readGoer 164 = .ok (.iconst 1, 1) := by decide +kernel
theorem dX4_readGoer_165 : decode cX4_readGoer 165 = .ok (.goto 4, 3) := by decide +kernel
theorem dX4_readGoer_168 : decode cX4_readGoer 168 = .ok (.iconst 0, 1) := by decide +kernel
theorem dX4_readGoer_169 : decode cX4_readGoer 169 = .ok (.ireturn, 1) := by decide +kernel
theorem dX4_thickOf_0 : decode cX4_thickOf 0 = .ok (.aload_n 0, 1) := by decide +kernel
theorem dX4_thickOf_1 : decode cX4_thickOf 1 = .ok (.getfield 22, 3) := by decide +kernel
theorem dX4_thickOf_4 : decode cX4_thickOf 4 = .ok (.iload_n 1, 1) := by decide +kernel
theorem dX4_thickOf_5 : decode cX4_thickOf 5 = .ok (.iaload, 1) := by decide +kernel
theorem dX4_thickOf_6 : decode cX4_thickOf 6 = .ok (.ifCond .ne 12, 3) := by decide +kernel
theorem dX4_thickOf_9 : decode cX4_thickOf 9 = .ok (.aload_n 0, 1) := by decide +kernel
theorem dX4_thickOf_10 : decode cX4_thickOf 10 = .ok (.getfield 25, 3) := by decide +kernel
theorem dX4_thickOf_13 : decode cX4_thickOf 13 = .ok (.iload_n 1, 1) := by decide +kernel
theorem dX4_thickOf_14 : decode cX4_thickOf 14 = .ok (.iaload, 1) := by decide +kernel
theorem dX4_thickOf_15 : decode cX4_thickOf 15 = .ok (.goto 32, 3) := by decide +kernel
theorem dX4_thickOf_18 : decode cX4_thickOf 18 = .ok (.aload_n 0, 1) := by decide +kernel
theorem dX4_thickOf_19 : decode cX4_thickOf 19 = .ok (.getfield 22, 3) := by decide +kernel
theorem dX4_thickOf_22 : decode cX4_thickOf 22 = .ok (.iload_n 1, 1) := by decide +kernel
theorem dX4_thickOf_23 : decode cX4_thickOf 23 = .ok (.iaload, 1) := by decide +kernel
theorem dX4_thickOf_24 : decode cX4_thickOf 24 = .ok (.iconst 1, 1) := by decide +kernel
theorem dX4_thickOf_25 : decode cX4_thickOf 25 = .ok (.if_icmp .ne 14, 3) := by decide +kernel
theorem dX4_thickOf_28 : decode cX4_thickOf 28 = .ok (.aload_n 0, 1) := by decide +kernel
theorem dX4_thickOf_29 : decode cX4_thickOf 29 = .ok (.getfield 25, 3) := by decide +kernel
theorem dX4_thickOf_32 : decode cX4_thickOf 32 = .ok (.iload_n 1, 1) := by decide +kernel
theorem dX4_thickOf_33 : decode cX4_thickOf 33 = .ok (.iaload, 1) := by decide +kernel
theorem dX4_thickOf_34 : decode cX4_thickOf 34 = .ok (.iconst 1, 1) := by decide +kernel
theorem dX4_thickOf_35 : decode cX4_thickOf 35 = .ok (.isub, 1) := by decide +kernel
theorem dX4_thickOf_36 : decode cX4_thickOf 36 = .ok (.goto 11, 3) := by decide +kernel
theorem dX4_thickOf_39 : decode cX4_thickOf 39 = .ok (.aload_n 0, 1) := by decide +kernel
theorem dX4_thickOf_40 : decode cX4_thickOf 40 = .ok (.getfield 25, 3) := by decide +kernel
theorem dX4_thickOf_43 : decode cX4_thickOf 43 = .ok (.iload_n 1, 1) := by decide +kernel
theorem dX4_thickOf_44 : decode cX4_thickOf 44 = .ok (.iaload, 1) := by decide +kernel
theorem dX4_thickOf_45 : decode cX4_thickOf 45 = .ok (.iconst 2, 1) := by decide +kernel
theorem dX4_thickOf_46 : decode cX4_thickOf 46 = .ok (.idiv, 1) := by decide +kernel
theorem dX4_thickOf_47 : decode cX4_thickOf 47 = .ok (.ireturn, 1) := by decide +kernel
theorem dX4_fitsHole_0 : decode cX4_fitsHole 0 = .ok (.aload_n 0, 1) := by decide +kernel
theorem dX4_fitsHole_1 : decode cX4_fitsHole 1 = .ok (.getfield 19, 3) := by decide +kernel
theorem dX4_fitsHole_4 : decode cX4_fitsHole 4 = .ok (.iload_n 2, 1) := by decide +kernel
theorem dX4_fitsHole_5 : decode cX4_fitsHole 5 = .ok (.iaload, 1) := by decide +kernel
theorem dX4_fitsHole_6 : decode cX4_fitsHole 6 = .ok (.ifCond .le 21, 3) := by decide +kernel
theorem dX4_fitsHole_9 : decode cX4_fitsHole 9 = .ok (.aload_n 0, 1) := by decide +kernel
theorem dX4_fitsHole_10 : decode cX4_fitsHole 10 = .ok (.getfield 19, 3) := by decide +kernel
theorem dX4_fitsHole_13 : decode cX4_fitsHole 13 = .ok (.iload_n 2, 1) := by decide +kernel
theorem dX4_fitsHole_14 : decode cX4_fitsHole 14 = .ok (.iaload, 1) := by decide +kernel
theorem dX4_fitsHole_15 : decode cX4_fitsHole 15 = .ok (.aload_n 0, 1) := by decide +kernel
theorem dX4_fitsHole_16 : decode cX4_fitsHole 16 = .ok (.iload_n 1, 1) := by decide +kernel
theorem dX4_fitsHole_17 : decode cX4_fitsHole 17 = .ok (.invokevirtual 137, 3) := by decide +kernel
theorem dX4_fitsHole_20 : decode cX4_fitsHole 20 = .ok (.if_icmp .lt 7, 3) := by decide +kernel
theorem dX4_fitsHole_23 : decode cX4_fitsHole 23 = .ok (.iconst 1, 1) := by decide +kernel
theorem dX4_fitsHole_24 : decode cX4_fitsHole 24 = .ok (.goto 4, 3) := by decide +kernel
theorem dX4_fitsHole_27 : decode cX4_fitsHole 27 = .ok (.iconst 0, 1) := by decide +kernel
theorem dX4_fitsHole_28 : decode cX4_fitsHole 28 = .ok (.ireturn, 1) := by decide +kernel
theorem dX4_ofGoer_0 : decode cX4_ofGoer 0 = .ok (.aload_n 0, 1) := by decide +kernel
theorem dX4_ofGoer_1 : decode cX4_ofGoer 1 = .ok (.iload_n 1, 1) := by decide +kernel
theorem dX4_ofGoer_2 : decode cX4_ofGoer 2 = .ok (.invokevirtual 140, 3) := by decide +kernel
theorem dX4_ofGoer_5 : decode cX4_ofGoer 5 = .ok (.ifCond .ne 5, 3) := by decide +kernel
theorem dX4_ofGoer_8 : decode cX4_ofGoer 8 = .ok (.iconst (-1), 1) := by decide +kernel
theorem dX4_ofGoer_9 : decode cX4_ofGoer 9 = .ok (.ireturn, 1) := by decide +kernel
theorem dX4_ofGoer_10 : decode cX4_ofGoer 10 = .ok (.iload_n 2, 1) := by decide +kernel
theorem dX4_ofGoer_11 : decode cX4_ofGoer 11 = .ok (.tableswitch 56 0 3 #[29, 36, 43, 49], 29) := by decide +kernel
theorem dX4_ofGoer_40 : decode cX4_ofGoer 40 = .ok (.aload_n 0, 1) := by decide +kernel
theorem dX4_ofGoer_41 : decode cX4_ofGoer 41 = .ok (.getfield 22, 3) := by decide +kernel
theorem dX4_ofGoer_44 : decode cX4_ofGoer 44 = .ok (.iload_n 1, 1) := by decide +kernel
theorem dX4_ofGoer_45 : decode cX4_ofGoer 45 = .ok (.iaload, 1) := by decide +kernel
theorem dX4_ofGoer_46 : decode cX4_ofGoer 46 = .ok (.ireturn, 1) := by decide +kernel
theorem dX4_ofGoer_47 : decode cX4_ofGoer 47 = .ok (.aload_n 0, 1) := by decide +kernel
theorem dX4_ofGoer_48 : decode cX4_ofGoer 48 = .ok (.getfield 25, 3) := by decide +kernel
theorem dX4_ofGoer_51 : decode cX4_ofGoer 51 = .ok (.iload_n 1, 1) := by decide +kernel
theorem dX4_ofGoer_52 : decode cX4_ofGoer 52 = .ok (.iaload, 1) := by decide +kernel
theorem dX4_ofGoer_53 : decode cX4_ofGoer 53 = .ok (.ireturn, 1) := by decide +kernel
theorem dX4_ofGoer_54 : decode cX4_ofGoer 54 = .ok (.aload_n 0, 1) := by decide +kernel
theorem dX4_ofGoer_55 : decode cX4_ofGoer 55 = .ok (.iload_n 1, 1) := by decide +kernel
theorem dX4_ofGoer_56 : decode cX4_ofGoer 56 = .ok (.invokevirtual 137, 3) := by decide +kernel
theorem dX4_ofGoer_59 : decode cX4_ofGoer 59 = .ok (.ireturn, 1) := by decide +kernel
theorem dX4_ofGoer_60 : decode cX4_ofGoer 60 = .ok (.aload_n 0, 1) := by decide +kernel
theorem dX4_ofGoer_61 : decode cX4_ofGoer 61 = .ok (.getfield 28, 3) := by decide +kernel
theorem dX4_ofGoer_64 : decode cX4_ofGoer 64 = .ok (.iload_n 1, 1) := by decide +kernel
theorem dX4_ofGoer_65 : decode cX4_ofGoer 65 = .ok (.iaload, 1) := by decide +kernel
theorem dX4_ofGoer_66 : decode cX4_ofGoer 66 = .ok (.ireturn, 1) := by decide +kernel
theorem dX4_ofGoer_67 : decode cX4_ofGoer 67 = .ok (.bipush (-2), 2) := by decide +kernel
theorem dX4_ofGoer_69 : decode cX4_ofGoer 69 = .ok (.ireturn, 1) := by decide +kernel
theorem dX4_hole_0 : decode cX4_hole 0 = .ok (.aload_n 0, 1) := by decide +kernel
theorem dX4_hole_1 : decode cX4_hole 1 = .ok (.iload_n 1, 1) := by decide +kernel
theorem dX4_hole_2 : decode cX4_hole 2 = .ok (.iload_n 2, 1) := by decide +kernel
theorem dX4_hole_3 : decode cX4_hole 3 = .ok (.invokevirtual 143, 3) := by decide +kernel
theorem dX4_hole_6 : decode cX4_hole 6 = .ok (.ifCond .ne 5, 3) := by decide +kernel
theorem dX4_hole_9 : decode cX4_hole 9 = .ok (.iconst (-1), 1) := by decide +kernel
theorem dX4_hole_10 : decode cX4_hole 10 = .ok (.ireturn, 1) := by decide +kernel
theorem dX4_hole_11 : decode cX4_hole 11 = .ok (.aload_n 0, 1) := by decide +kernel
theorem dX4_hole_12 : decode cX4_hole 12 = .ok (.iload_n 1, 1) := by decide +kernel
theorem dX4_hole_13 : decode cX4_hole 13 = .ok (.iload_n 2, 1) := by decide +kernel
theorem dX4_hole_14 : decode cX4_hole 14 = .ok (.invokevirtual 146, 3) := by decide +kernel
theorem dX4_hole_17 : decode cX4_hole 17 = .ok (.istore 4, 2) := by decide +kernel
theorem dX4_hole_19 : decode cX4_hole 19 = .ok (.iload_n 3, 1) := by decide +kernel
theorem dX4_hole_20 : decode cX4_hole 20 = .ok (.ifCond .ne 13, 3) := by decide +kernel
theorem dX4_hole_23 : decode cX4_hole 23 = .ok (.aload_n 0, 1) := by decide +kernel
theorem dX4_hole_24 : decode cX4_hole 24 = .ok (.getfield 19, 3) := by decide +kernel
theorem dX4_hole_27 : decode cX4_hole 27 = .ok (.iload 4, 2) := by decide +kernel
theorem dX4_hole_29 : decode cX4_hole 29 = .ok (.iaload, 1) := by decide +kernel
theorem dX4_hole_30 : decode cX4_hole 30 = .ok (.goto 32, 3) := by decide +kernel
theorem dX4_hole_33 : decode cX4_hole 33 = .ok (.iload_n 3, 1) := by decide +kernel
theorem dX4_hole_34 : decode cX4_hole 34 = .ok (.iconst 1, 1) := by decide +kernel
theorem dX4_hole_35 : decode cX4_hole 35 = .ok (.if_icmp .ne 15, 3) := by decide +kernel
theorem dX4_hole_38 : decode cX4_hole 38 = .ok (.aload_n 0, 1) := by decide +kernel
theorem dX4_hole_39 : decode cX4_hole 39 = .ok (.getfield 114, 3) := by decide +kernel
theorem dX4_hole_42 : decode cX4_hole 42 = .ok (.iload 4, 2) := by decide +kernel
theorem dX4_hole_44 : decode cX4_hole 44 = .ok (.ishr, 1) := by decide +kernel
theorem dX4_hole_45 : decode cX4_hole 45 = .ok (.iconst 1, 1) := by decide +kernel
theorem dX4_hole_46 : decode cX4_hole 46 = .ok (.iand, 1) := by decide +kernel
theorem dX4_hole_47 : decode cX4_hole 47 = .ok (.goto 15, 3) := by decide +kernel
theorem dX4_hole_50 : decode cX4_hole 50 = .ok (.iload_n 3, 1) := by decide +kernel
theorem dX4_hole_51 : decode cX4_hole 51 = .ok (.iconst 2, 1) := by decide +kernel
theorem dX4_hole_52 : decode cX4_hole 52 = .ok (.if_icmp .ne 8, 3) := by decide +kernel
theorem dX4_hole_55 : decode cX4_hole 55 = .ok (.iload 4, 2) := by decide +kernel
theorem dX4_hole_57 : decode cX4_hole 57 = .ok (.goto 5, 3) := by decide +kernel
theorem dX4_hole_60 : decode cX4_hole 60 = .ok (.bipush (-2), 2) := by decide +kernel
theorem dX4_hole_62 : decode cX4_hole 62 = .ok (.ireturn, 1) := by decide +kernel
theorem dX4_hoop_0 : decode cX4_hoop 0 = .ok (.aload_n 0, 1) := by decide +kernel
theorem dX4_hoop_1 : decode cX4_hoop 1 = .ok (.iload_n 1, 1) := by decide +kernel
theorem dX4_hoop_2 : decode cX4_hoop 2 = .ok (.iload_n 2, 1) := by decide +kernel
theorem dX4_hoop_3 : decode cX4_hoop 3 = .ok (.invokevirtual 143, 3) := by decide +kernel
theorem dX4_hoop_6 : decode cX4_hoop 6 = .ok (.ifCond .ne 5, 3) := by decide +kernel
theorem dX4_hoop_9 : decode cX4_hoop 9 = .ok (.iconst (-1), 1) := by decide +kernel
theorem dX4_hoop_10 : decode cX4_hoop 10 = .ok (.ireturn, 1) := by decide +kernel
theorem dX4_hoop_11 : decode cX4_hoop 11 = .ok (.iload_n 3, 1) := by decide +kernel
theorem dX4_hoop_12 : decode cX4_hoop 12 = .ok (.iconst 0, 1) := by decide +kernel
theorem dX4_hoop_13 : decode cX4_hoop 13 = .ok (.bipush 9, 2) := by decide +kernel
theorem dX4_hoop_15 : decode cX4_hoop 15 = .ok (.invokestatic 64, 3) := by decide +kernel
theorem dX4_hoop_18 : decode cX4_hoop 18 = .ok (.ifCond .ne 6, 3) := by decide +kernel
theorem dX4_hoop_21 : decode cX4_hoop 21 = .ok (.bipush (-2), 2) := by decide +kernel
theorem dX4_hoop_23 : decode cX4_hoop 23 = .ok (.ireturn, 1) := by decide +kernel
theorem dX4_hoop_24 : decode cX4_hoop 24 = .ok (.aload_n 0, 1) := by decide +kernel
theorem dX4_hoop_25 : decode cX4_hoop 25 = .ok (.iload_n 1, 1) := by decide +kernel
theorem dX4_hoop_26 : decode cX4_hoop 26 = .ok (.iload_n 2, 1) := by decide +kernel
theorem dX4_hoop_27 : decode cX4_hoop 27 = .ok (.invokevirtual 146, 3) := by decide +kernel
theorem dX4_hoop_30 : decode cX4_hoop 30 = .ok (.istore 4, 2) := by decide +kernel
theorem dX4_hoop_32 : decode cX4_hoop 32 = .ok (.aload_n 0, 1) := by decide +kernel
theorem dX4_hoop_33 : decode cX4_hoop 33 = .ok (.getfield 19, 3) := by decide +kernel
theorem dX4_hoop_36 : decode cX4_hoop 36 = .ok (.iload 4, 2) := by decide +kernel
theorem dX4_hoop_38 : decode cX4_hoop 38 = .ok (.iaload, 1) := by decide +kernel
theorem dX4_hoop_39 : decode cX4_hoop 39 = .ok (.istore 5, 2) := by decide +kernel
theorem dX4_hoop_41 : decode cX4_hoop 41 = .ok (.aload_n 0, 1) := by decide +kernel
theorem dX4_hoop_42 : decode cX4_hoop 42 = .ok (.getfield 19, 3) := by decide +kernel
theorem dX4_hoop_45 : decode cX4_hoop 45 = .ok (.iload 4, 2) := by decide +kernel
theorem dX4_hoop_47 : decode cX4_hoop 47 = .ok (.iload_n 3, 1) := by decide +kernel
theorem dX4_hoop_48 : decode cX4_hoop 48 = .ok (.iastore, 1) := by decide +kernel
theorem dX4_hoop_49 : decode cX4_hoop 49 = .ok (.aload_n 0, 1) := by decide +kernel
theorem dX4_hoop_50 : decode cX4_hoop 50 = .ok (.dup, 1) := by decide +kernel
theorem dX4_hoop_51 : decode cX4_hoop 51 = .ok (.getfield 114, 3) := by decide +kernel
theorem dX4_hoop_54 : decode cX4_hoop 54 = .ok (.iconst 1, 1) := by decide +kernel
theorem dX4_hoop_55 : decode cX4_hoop 55 = .ok (.iload 4, 2) := by decide +kernel
theorem dX4_hoop_57 : decode cX4_hoop 57 = .ok (.ishl, 1) := by decide +kernel
theorem dX4_hoop_58 : decode cX4_hoop 58 = .ok (.iconst (-1), 1) := by decide +kernel
theorem dX4_hoop_59 : decode cX4_hoop 59 = .ok (.ixor, 1) := by decide +kernel
theorem dX4_hoop_60 : decode cX4_hoop 60 = .ok (.iand, 1) := by decide +kernel
theorem dX4_hoop_61 : decode cX4_hoop 61 = .ok (.putfield 114, 3) := by decide +kernel
theorem dX4_hoop_64 : decode cX4_hoop 64 = .ok (.iload 5, 2) := by decide +kernel
theorem dX4_hoop_66 : decode cX4_hoop 66 = .ok (.ireturn, 1) := by decide +kernel
theorem dX4_fatten_0 : decode cX4_fatten 0 = .ok (.aload_n 0, 1) := by decide +kernel
theorem dX4_fatten_1 : decode cX4_fatten 1 = .ok (.iload_n 1, 1) := by decide +kernel
theorem dX4_fatten_2 : decode cX4_fatten 2 = .ok (.invokevirtual 140, 3) := by decide +kernel
theorem dX4_fatten_5 : decode cX4_fatten 5 = .ok (.ifCond .ne 5, 3) := by decide +kernel
theorem dX4_fatten_8 : decode cX4_fatten 8 = .ok (.iconst (-1), 1) := by decide +kernel
theorem dX4_fatten_9 : decode cX4_fatten 9 = .ok (.ireturn, 1) := by decide +kernel
theorem dX4_fatten_10 : decode cX4_fatten 10 = .ok (.iload_n 2, 1) := by decide +kernel
theorem dX4_fatten_11 : decode cX4_fatten 11 = .ok (.iconst 1, 1) := by decide +kernel
theorem dX4_fatten_12 : decode cX4_fatten 12 = .ok (.bipush 9, 2) := by decide +kernel
theorem dX4_fatten_14 : decode cX4_fatten 14 = .ok (.invokestatic 64, 3) := by decide +kernel
theorem dX4_fatten_17 : decode cX4_fatten 17 = .ok (.ifCond .ne 6, 3) := by decide +kernel
theorem dX4_fatten_20 : decode cX4_fatten 20 = .ok (.bipush (-2), 2) := by decide +kernel
theorem dX4_fatten_22 : decode cX4_fatten 22 = .ok (.ireturn, 1) := by decide +kernel
theorem dX4_fatten_23 : decode cX4_fatten 23 = .ok (.aload_n 0, 1) := by decide +kernel
theorem dX4_fatten_24 : decode cX4_fatten 24 = .ok (.getfield 25, 3) := by decide +kernel
theorem dX4_fatten_27 : decode cX4_fatten 27 = .ok (.iload_n 1, 1) := by decide +kernel
theorem dX4_fatten_28 : decode cX4_fatten 28 = .ok (.iaload, 1) := by decide +kernel
theorem dX4_fatten_29 : decode cX4_fatten 29 = .ok (.istore_n 3, 1) := by decide +kernel
theorem dX4_fatten_30 : decode cX4_fatten 30 = .ok (.aload_n 0, 1) := by decide +kernel
theorem dX4_fatten_31 : decode cX4_fatten 31 = .ok (.getfield 25, 3) := by decide +kernel
theorem dX4_fatten_34 : decode cX4_fatten 34 = .ok (.iload_n 1, 1) := by decide +kernel
theorem dX4_fatten_35 : decode cX4_fatten 35 = .ok (.iload_n 2, 1) := by decide +kernel
theorem dX4_fatten_36 : decode cX4_fatten 36 = .ok (.iastore, 1) := by decide +kernel
theorem dX4_fatten_37 : decode cX4_fatten 37 = .ok (.iload_n 3, 1) := by decide +kernel
theorem dX4_fatten_38 : decode cX4_fatten 38 = .ok (.ireturn, 1) := by decide +kernel
theorem dX4_goesTo_0 : decode cX4_goesTo 0 = .ok (.aload_n 0, 1) := by decide +kernel
theorem dX4_goesTo_1 : decode cX4_goesTo 1 = .ok (.aload_n 0, 1) := by decide +kernel
theorem dX4_goesTo_2 : decode cX4_goesTo 2 = .ok (.getfield 28, 3) := by decide +kernel
theorem dX4_goesTo_5 : decode cX4_goesTo 5 = .ok (.iload_n 1, 1) := by decide +kernel
theorem dX4_goesTo_6 : decode cX4_goesTo 6 = .ok (.iaload, 1) := by decide +kernel
theorem dX4_goesTo_7 : decode cX4_goesTo 7 = .ok (.iload_n 2, 1) := by decide +kernel
theorem dX4_goesTo_8 : decode cX4_goesTo 8 = .ok (.invokevirtual 143, 3) := by decide +kernel
theorem dX4_goesTo_11 : decode cX4_goesTo 11 = .ok (.ifCond .eq 22, 3) := by decide +kernel
theorem dX4_goesTo_14 : decode cX4_goesTo 14 = .ok (.aload_n 0, 1) := by decide +kernel
theorem dX4_goesTo_15 : decode cX4_goesTo 15 = .ok (.iload_n 1, 1) := by decide +kernel
theorem dX4_goesTo_16 : decode cX4_goesTo 16 = .ok (.aload_n 0, 1) := by decide +kernel
theorem dX4_goesTo_17 : decode cX4_goesTo 17 = .ok (.aload_n 0, 1) := by decide +kernel
theorem dX4_goesTo_18 : decode cX4_goesTo 18 = .ok (.getfield 28, 3) := by decide +kernel
theorem dX4_goesTo_21 : decode cX4_goesTo 21 = .ok (.iload_n 1, 1) := by decide +kernel
theorem dX4_goesTo_22 : decode cX4_goesTo 22 = .ok (.iaload, 1) := by decide +kernel
theorem dX4_goesTo_23 : decode cX4_goesTo 23 = .ok (.iload_n 2, 1) := by decide +kernel
theorem dX4_goesTo_24 : decode cX4_goesTo 24 = .ok (.invokevirtual 146, 3) := by decide +kernel
theorem dX4_goesTo_27 : decode cX4_goesTo 27 = .ok (.invokevirtual 150, 3) := by decide +kernel
theorem dX4_goesTo_30 : decode cX4_goesTo 30 = .ok (.ifCond .ne 5, 3) := by decide +kernel
theorem dX4_goesTo_33 : decode cX4_goesTo 33 = .ok (.iconst 0, 1) := by decide +kernel
theorem dX4_goesTo_34 : decode cX4_goesTo 34 = .ok (.ireturn, 1) := by decide +kernel
theorem dX4_goesTo_35 : decode cX4_goesTo 35 = .ok (.aload_n 0, 1) := by decide +kernel
theorem dX4_goesTo_36 : decode cX4_goesTo 36 = .ok (.dup, 1) := by decide +kernel
theorem dX4_goesTo_37 : decode cX4_goesTo 37 = .ok (.getfield 114, 3) := by decide +kernel
theorem dX4_goesTo_40 : decode cX4_goesTo 40 = .ok (.iconst 1, 1) := by decide +kernel
theorem dX4_goesTo_41 : decode cX4_goesTo 41 = .ok (.aload_n 0, 1) := by decide +kernel
theorem dX4_goesTo_42 : decode cX4_goesTo 42 = .ok (.aload_n 0, 1) := by decide +kernel
theorem dX4_goesTo_43 : decode cX4_goesTo 43 = .ok (.getfield 28, 3) := by decide +kernel
theorem dX4_goesTo_46 : decode cX4_goesTo 46 = .ok (.iload_n 1, 1) := by decide +kernel
theorem dX4_goesTo_47 : decode cX4_goesTo 47 = .ok (.iaload, 1) := by decide +kernel
theorem dX4_goesTo_48 : decode cX4_goesTo 48 = .ok (.iload_n 2, 1) := by decide +kernel
theorem dX4_goesTo_49 : decode cX4_goesTo 49 = .ok (.invokevirtual 146, 3) := by decide +kernel
theorem dX4_goesTo_52 : decode cX4_goesTo 52 = .ok (.ishl, 1) := by decide +kernel
theorem dX4_goesTo_53 : decode cX4_goesTo 53 = .ok (.ior, 1) := by decide +kernel
theorem dX4_goesTo_54 : decode cX4_goesTo 54 = .ok (.putfield 114, 3) := by decide +kernel
theorem dX4_goesTo_57 : decode cX4_goesTo 57 = .ok (.aload_n 0, 1) := by decide +kernel
theorem dX4_goesTo_58 : decode cX4_goesTo 58 = .ok (.getfield 28, 3) := by decide +kernel
theorem dX4_goesTo_61 : decode cX4_goesTo 61 = .ok (.iload_n 1, 1) := by decide +kernel
theorem dX4_goesTo_62 : decode cX4_goesTo 62 = .ok (.iload_n 2, 1) := by decide +kernel
theorem dX4_goesTo_63 : decode cX4_goesTo 63 = .ok (.iastore, 1) := by decide +kernel
theorem dX4_goesTo_64 : decode cX4_goesTo 64 = .ok (.iconst 1, 1) := by decide +kernel
theorem dX4_goesTo_65 : decode cX4_goesTo 65 = .ok (.ireturn, 1) := by decide +kernel
theorem dX4_go_0 : decode cX4_go 0 = .ok (.aload_n 0, 1) := by decide +kernel
theorem dX4_go_1 : decode cX4_go 1 = .ok (.iload_n 1, 1) := by decide +kernel
theorem dX4_go_2 : decode cX4_go 2 = .ok (.invokevirtual 140, 3) := by decide +kernel
theorem dX4_go_5 : decode cX4_go 5 = .ok (.ifCond .eq 11, 3) := by decide +kernel
theorem dX4_go_8 : decode cX4_go 8 = .ok (.aload_n 0, 1) := by decide +kernel
theorem dX4_go_9 : decode cX4_go 9 = .ok (.iload_n 2, 1) := by decide +kernel
theorem dX4_go_10 : decode cX4_go 10 = .ok (.invokevirtual 71, 3) := by decide +kernel
theorem dX4_go_13 : decode cX4_go 13 = .ok (.ifCond .ne 5, 3) := by decide +kernel
theorem dX4_go_16 : decode cX4_go 16 = .ok (.iconst (-1), 1) := by decide +kernel
theorem dX4_go_17 : decode cX4_go 17 = .ok (.ireturn, 1) := by decide +kernel
theorem dX4_go_18 : decode cX4_go 18 = .ok (.aload_n 0, 1) := by decide +kernel
theorem dX4_go_19 : decode cX4_go 19 = .ok (.getfield 28, 3) := by decide +kernel
theorem dX4_go_22 : decode cX4_go 22 = .ok (.iload_n 1, 1) := by decide +kernel
theorem dX4_go_23 : decode cX4_go 23 = .ok (.iaload, 1) := by decide +kernel
theorem dX4_go_24 : decode cX4_go 24 = .ok (.istore_n 3, 1) := by decide +kernel
theorem dX4_go_25 : decode cX4_go 25 = .ok (.aload_n 0, 1) := by decide +kernel
theorem dX4_go_26 : decode cX4_go 26 = .ok (.iload_n 1, 1) := by decide +kernel
theorem dX4_go_27 : decode cX4_go 27 = .ok (.iload_n 2, 1) := by decide +kernel
theorem dX4_go_28 : decode cX4_go 28 = .ok (.invokevirtual 153, 3) := by decide +kernel
theorem dX4_go_31 : decode cX4_go 31 = .ok (.ifCond .ne 6, 3) := by decide +kernel
theorem dX4_go_34 : decode cX4_go 34 = .ok (.bipush (-3), 2) := by decide +kernel
theorem dX4_go_36 : decode cX4_go 36 = .ok (.ireturn, 1) := by decide +kernel
theorem dX4_go_37 : decode cX4_go 37 = .ok (.aload_n 0, 1) := by decide +kernel
theorem dX4_go_38 : decode cX4_go 38 = .ok (.dup, 1) := by decide +kernel
theorem dX4_go_39 : decode cX4_go 39 = .ok (.getfield 120, 3) := by decide +kernel
theorem dX4_go_42 : decode cX4_go 42 = .ok (.iconst 1, 1) := by decide +kernel
theorem dX4_go_43 : decode cX4_go 43 = .ok (.iadd, 1) := by decide +kernel
theorem dX4_go_44 : decode cX4_go 44 = .ok (.putfield 120, 3) := by decide +kernel
theorem dX4_go_47 : decode cX4_go 47 = .ok (.aload_n 0, 1) := by decide +kernel
theorem dX4_go_48 : decode cX4_go 48 = .ok (.getfield 19, 3) := by decide +kernel
theorem dX4_go_51 : decode cX4_go 51 = .ok (.aload_n 0, 1) := by decide +kernel
theorem dX4_go_52 : decode cX4_go 52 = .ok (.iload_n 3, 1) := by decide +kernel
theorem dX4_go_53 : decode cX4_go 53 = .ok (.iload_n 2, 1) := by decide +kernel
theorem dX4_go_54 : decode cX4_go 54 = .ok (.invokevirtual 146, 3) := by decide +kernel
theorem dX4_go_57 : decode cX4_go 57 = .ok (.iaload, 1) := by decide +kernel
theorem dX4_go_58 : decode cX4_go 58 = .ok (.aload_n 0, 1) := by decide +kernel
theorem dX4_go_59 : decode cX4_go 59 = .ok (.iload_n 1, 1) := by decide +kernel
theorem dX4_go_60 : decode cX4_go 60 = .ok (.invokevirtual 137, 3) := by decide +kernel
theorem dX4_go_63 : decode cX4_go 63 = .ok (.isub, 1) := by decide +kernel
theorem dX4_go_64 : decode cX4_go 64 = .ok (.ireturn, 1) := by decide +kernel
theorem dX4_oneYear_0 : decode cX4_oneYear 0 = .ok (.iconst 0, 1) := by decide +kernel
theorem dX4_oneYear_1 : decode cX4_oneYear 1 = .ok (.istore_n 1, 1) := by decide +kernel
theorem dX4_oneYear_2 : decode cX4_oneYear 2 = .ok (.iload_n 1, 1) := by decide +kernel
theorem dX4_oneYear_3 : decode cX4_oneYear 3 = .ok (.aload_n 0, 1) := by decide +kernel
theorem dX4_oneYear_4 : decode cX4_oneYear 4 = .ok (.invokevirtual 107, 3) := by decide +kernel
theorem dX4_oneYear_7 : decode cX4_oneYear 7 = .ok (.if_icmp .ge 66, 3) := by decide +kernel
theorem dX4_oneYear_10 : decode cX4_oneYear 10 = .ok (.aload_n 0, 1) := by decide +kernel
theorem dX4_oneYear_11 : decode cX4_oneYear 11 = .ok (.getfield 114, 3) := by decide +kernel
theorem dX4_oneYear_14 : decode cX4_oneYear 14 = .ok (.iload_n 1, 1) := by decide +kernel
theorem dX4_oneYear_15 : decode cX4_oneYear 15 = .ok (.invokestatic 156, 3) := by decide +kernel
theorem dX4_oneYear_18 : decode cX4_oneYear 18 = .ok (.ifCond .eq 14, 3) := by decide +kernel
theorem dX4_oneYear_21 : decode cX4_oneYear 21 = .ok (.aload_n 0, 1) := by decide +kernel
theorem dX4_oneYear_22 : decode cX4_oneYear 22 = .ok (.getfield 19, 3) := by decide +kernel
theorem dX4_oneYear_25 : decode cX4_oneYear 25 = .ok (.iload_n 1, 1) := by decide +kernel
theorem dX4_oneYear_26 : decode cX4_oneYear 26 = .ok (.iaload, 1) := by decide +kernel
theorem dX4_oneYear_27 : decode cX4_oneYear 27 = .ok (.iconst 1, 1) := by decide +kernel
theorem dX4_oneYear_28 : decode cX4_oneYear 28 = .ok (.iadd, 1) := by decide +kernel
theorem dX4_oneYear_29 : decode cX4_oneYear 29 = .ok (.goto 11, 3) := by decide +kernel
theorem dX4_oneYear_32 : decode cX4_oneYear 32 = .ok (.aload_n 0, 1) := by decide +kernel
theorem dX4_oneYear_33 : decode cX4_oneYear 33 = .ok (.getfield 19, 3) := by decide +kernel
theorem dX4_oneYear_36 : decode cX4_oneYear 36 = .ok (.iload_n 1, 1) := by decide +kernel
theorem dX4_oneYear_37 : decode cX4_oneYear 37 = .ok (.iaload, 1) := by decide +kernel
theorem dX4_oneYear_38 : decode cX4_oneYear 38 = .ok (.iconst 1, 1) := by decide +kernel
theorem dX4_oneYear_39 : decode cX4_oneYear 39 = .ok (.isub, 1) := by decide +kernel
theorem dX4_oneYear_40 : decode cX4_oneYear 40 = .ok (.istore_n 2, 1) := by decide +kernel
theorem dX4_oneYear_41 : decode cX4_oneYear 41 = .ok (.aload_n 0, 1) := by decide +kernel
theorem dX4_oneYear_42 : decode cX4_oneYear 42 = .ok (.getfield 19, 3) := by decide +kernel
theorem dX4_oneYear_45 : decode cX4_oneYear 45 = .ok (.iload_n 1, 1) := by decide +kernel
theorem dX4_oneYear_46 : decode cX4_oneYear 46 = .ok (.iload_n 2, 1) := by decide +kernel
theorem dX4_oneYear_47 : decode cX4_oneYear 47 = .ok (.bipush 9, 2) := by decide +kernel
theorem dX4_oneYear_49 : decode cX4_oneYear 49 = .ok (.if_icmp .le 8, 3) := by decide +kernel
theorem dX4_oneYear_52 : decode cX4_oneYear 52 = .ok (.bipush 9, 2) := by decide +kernel
theorem dX4_oneYear_54 : decode cX4_oneYear 54 = .ok (.goto 12, 3) := by decide +kernel
theorem dX4_oneYear_57 : decode cX4_oneYear 57 = .ok (.iload_n 2, 1) := by decide +kernel
theorem dX4_oneYear_58 : decode cX4_oneYear 58 = .ok (.ifCond .ge 7, 3) := by decide +kernel
theorem dX4_oneYear_61 : decode cX4_oneYear 61 = .ok (.iconst 0, 1) := by decide +kernel
theorem dX4_oneYear_62 : decode cX4_oneYear 62 = .ok (.goto 4, 3) := by decide +kernel
theorem dX4_oneYear_65 : decode cX4_oneYear 65 = .ok (.iload_n 2, 1) := by decide +kernel
theorem dX4_oneYear_66 : decode cX4_oneYear 66 = .ok (.iastore, 1) := by decide +kernel
theorem dX4_oneYear_67 : decode cX4_oneYear 67 = .ok (.iinc 1 1, 3) := by decide +kernel
theorem dX4_oneYear_70 : decode cX4_oneYear 70 = .ok (.goto (-68), 3) := by decide +kernel
theorem dX4_oneYear_73 : decode cX4_oneYear 73 = .ok (.aload_n 0, 1) := by decide +kernel
theorem dX4_oneYear_74 : decode cX4_oneYear 74 = .ok (.iconst 0, 1) := by decide +kernel
theorem dX4_oneYear_75 : decode cX4_oneYear 75 = .ok (.putfield 114, 3) := by decide +kernel
theorem dX4_oneYear_78 : decode cX4_oneYear 78 = .ok (.return_, 1) := by decide +kernel
theorem dX4_holesNow_0 : decode cX4_holesNow 0 = .ok (.iconst 0, 1) := by decide +kernel
theorem dX4_holesNow_1 : decode cX4_holesNow 1 = .ok (.istore_n 1, 1) := by decide +kernel
theorem dX4_holesNow_2 : decode cX4_holesNow 2 = .ok (.iconst 0, 1) := by decide +kernel
theorem dX4_holesNow_3 : decode cX4_holesNow 3 = .ok (.istore_n 2, 1) := by decide +kernel
theorem dX4_holesNow_4 : decode cX4_holesNow 4 = .ok (.iload_n 2, 1) := by decide +kernel
theorem dX4_holesNow_5 : decode cX4_holesNow 5 = .ok (.aload_n 0, 1) := by decide +kernel
theorem dX4_holesNow_6 : decode cX4_holesNow 6 = .ok (.invokevirtual 107, 3) := by decide +kernel
theorem dX4_holesNow_9 : decode cX4_holesNow 9 = .ok (.if_icmp .ge 26, 3) := by decide +kernel
theorem dX4_holesNow_12 : decode cX4_holesNow 12 = .ok (.iload_n 1, 1) := by decide +kernel
theorem dX4_holesNow_13 : decode cX4_holesNow 13 = .ok (.aload_n 0, 1) := by decide +kernel
theorem dX4_holesNow_14 : decode cX4_holesNow 14 = .ok (.getfield 19, 3) := by decide +kernel
theorem dX4_holesNow_17 : decode cX4_holesNow 17 = .ok (.iload_n 2, 1) := by decide +kernel
theorem dX4_holesNow_18 : decode cX4_holesNow 18 = .ok (.iaload, 1) := by decide +kernel
theorem dX4_holesNow_19 : decode cX4_holesNow 19 = .ok (.ifCond .le 7, 3) := by decide +kernel
theorem dX4_holesNow_22 : decode cX4_holesNow 22 = .ok (.iconst 1, 1) := by decide +kernel
theorem dX4_holesNow_23 : decode cX4_holesNow 23 = .ok (.goto 4, 3) := by decide +kernel
theorem dX4_holesNow_26 : decode cX4_holesNow 26 = .ok (.iconst 0, 1) := by decide +kernel
theorem dX4_holesNow_27 : decode cX4_holesNow 27 = .ok (.iadd, 1) := by decide +kernel
theorem dX4_holesNow_28 : decode cX4_holesNow 28 = .ok (.istore_n 1, 1) := by decide +kernel
theorem dX4_holesNow_29 : decode cX4_holesNow 29 = .ok (.iinc 2 1, 3) := by decide +kernel
theorem dX4_holesNow_32 : decode cX4_holesNow 32 = .ok (.goto (-28), 3) := by decide +kernel
theorem dX4_holesNow_35 : decode cX4_holesNow 35 = .ok (.iload_n 1, 1) := by decide +kernel
theorem dX4_holesNow_36 : decode cX4_holesNow 36 = .ok (.ireturn, 1) := by decide +kernel
theorem dX4_years_0 : decode cX4_years 0 = .ok (.iload_n 1, 1) := by decide +kernel
theorem dX4_years_1 : decode cX4_years 1 = .ok (.iconst 1, 1) := by decide +kernel
theorem dX4_years_2 : decode cX4_years 2 = .ok (.bipush 60, 2) := by decide +kernel
theorem dX4_years_4 : decode cX4_years 4 = .ok (.invokestatic 64, 3) := by decide +kernel
theorem dX4_years_7 : decode cX4_years 7 = .ok (.ifCond .ne 6, 3) := by decide +kernel
theorem dX4_years_10 : decode cX4_years 10 = .ok (.bipush (-2), 2) := by decide +kernel
theorem dX4_years_12 : decode cX4_years 12 = .ok (.ireturn, 1) := by decide +kernel
theorem dX4_years_13 : decode cX4_years 13 = .ok (.aload_n 0, 1) := by decide +kernel
theorem dX4_years_14 : decode cX4_years 14 = .ok (.getfield 68, 3) := by decide +kernel
theorem dX4_years_17 : decode cX4_years 17 = .ok (.ifCond .ne 6, 3) := by decide +kernel
theorem dX4_years_20 : decode cX4_years 20 = .ok (.bipush (-3), 2) := by decide +kernel
theorem dX4_years_22 : decode cX4_years 22 = .ok (.ireturn, 1) := by decide +kernel
theorem dX4_years_23 : decode cX4_years 23 = .ok (.iconst 0, 1) := by decide +kernel
theorem dX4_years_24 : decode cX4_years 24 = .ok (.istore_n 2, 1) := by decide +kernel
theorem dX4_years_25 : decode cX4_years 25 = .ok (.iload_n 2, 1) := by decide +kernel
theorem dX4_years_26 : decode cX4_years 26 = .ok (.iload_n 1, 1) := by decide +kernel
theorem dX4_years_27 : decode cX4_years 27 = .ok (.if_icmp .ge 13, 3) := by decide +kernel
theorem dX4_years_30 : decode cX4_years 30 = .ok (.aload_n 0, 1) := by decide +kernel
theorem dX4_years_31 : decode cX4_years 31 = .ok (.invokevirtual 159, 3) := by decide +kernel
theorem dX4_years_34 : decode cX4_years 34 = .ok (.iinc 2 1, 3) := by decide +kernel
theorem dX4_years_37 : decode cX4_years 37 = .ok (.goto (-12), 3) := by decide +kernel
theorem dX4_years_40 : decode cX4_years 40 = .ok (.aload_n 0, 1) := by decide +kernel
theorem dX4_years_41 : decode cX4_years 41 = .ok (.dup, 1) := by decide +kernel
theorem dX4_years_42 : decode cX4_years 42 = .ok (.getfield 117, 3) := by decide +kernel
theorem dX4_years_45 : decode cX4_years 45 = .ok (.iload_n 1, 1) := by decide +kernel
theorem dX4_years_46 : decode cX4_years 46 = .ok (.iadd, 1) := by decide +kernel
theorem dX4_years_47 : decode cX4_years 47 = .ok (.putfield 117, 3) := by decide +kernel
theorem dX4_years_50 : decode cX4_years 50 = .ok (.aload_n 0, 1) := by decide +kernel
theorem dX4_years_51 : decode cX4_years 51 = .ok (.invokevirtual 162, 3) := by decide +kernel
theorem dX4_years_54 : decode cX4_years 54 = .ok (.ireturn, 1) := by decide +kernel
theorem dX4_stop_0 : decode cX4_stop 0 = .ok (.aload_n 0, 1) := by decide +kernel
theorem dX4_stop_1 : decode cX4_stop 1 = .ok (.iload_n 1, 1) := by decide +kernel
theorem dX4_stop_2 : decode cX4_stop 2 = .ok (.iload_n 2, 1) := by decide +kernel
theorem dX4_stop_3 : decode cX4_stop 3 = .ok (.invokevirtual 143, 3) := by decide +kernel
theorem dX4_stop_6 : decode cX4_stop 6 = .ok (.ifCond .ne 5, 3) := by decide +kernel
theorem dX4_stop_9 : decode cX4_stop 9 = .ok (.iconst (-1), 1) := by decide +kernel
theorem dX4_stop_10 : decode cX4_stop 10 = .ok (.ireturn, 1) := by decide +kernel
theorem dX4_stop_11 : decode cX4_stop 11 = .ok (.aload_n 0, 1) := by decide +kernel
theorem dX4_stop_12 : decode cX4_stop 12 = .ok (.iload_n 1, 1) := by decide +kernel
theorem dX4_stop_13 : decode cX4_stop 13 = .ok (.iload_n 2, 1) := by decide +kernel
theorem dX4_stop_14 : decode cX4_stop 14 = .ok (.invokevirtual 146, 3) := by decide +kernel
theorem dX4_stop_17 : decode cX4_stop 17 = .ok (.istore_n 3, 1) := by decide +kernel
theorem dX4_stop_18 : decode cX4_stop 18 = .ok (.aload_n 0, 1) := by decide +kernel
theorem dX4_stop_19 : decode cX4_stop 19 = .ok (.getfield 19, 3) := by decide +kernel
theorem dX4_stop_22 : decode cX4_stop 22 = .ok (.iload_n 3, 1) := by decide +kernel
theorem dX4_stop_23 : decode cX4_stop 23 = .ok (.iaload, 1) := by decide +kernel
theorem dX4_stop_24 : decode cX4_stop 24 = .ok (.ifCond .ne 6, 3) := by decide +kernel
theorem dX4_stop_27 : decode cX4_stop 27 = .ok (.bipush (-3), 2) := by decide +kernel
theorem dX4_stop_29 : decode cX4_stop 29 = .ok (.ireturn, 1) := by decide +kernel
theorem dX4_stop_30 : decode cX4_stop 30 = .ok (.aload_n 0, 1) := by decide +kernel
theorem dX4_stop_31 : decode cX4_stop 31 = .ok (.getfield 19, 3) := by decide +kernel
theorem dX4_stop_34 : decode cX4_stop 34 = .ok (.iload_n 3, 1) := by decide +kernel
theorem dX4_stop_35 : decode cX4_stop 35 = .ok (.iaload, 1) := by decide +kernel
theorem dX4_stop_36 : decode cX4_stop 36 = .ok (.istore 4, 2) := by decide +kernel
theorem dX4_stop_38 : decode cX4_stop 38 = .ok (.aload_n 0, 1) := by decide +kernel
theorem dX4_stop_39 : decode cX4_stop 39 = .ok (.getfield 19, 3) := by decide +kernel
theorem dX4_stop_42 : decode cX4_stop 42 = .ok (.iload_n 3, 1) := by decide +kernel
theorem dX4_stop_43 : decode cX4_stop 43 = .ok (.bipush 9, 2) := by decide +kernel
theorem dX4_stop_45 : decode cX4_stop 45 = .ok (.iastore, 1) := by decide +kernel
theorem dX4_stop_46 : decode cX4_stop 46 = .ok (.iload 4, 2) := by decide +kernel
theorem dX4_stop_48 : decode cX4_stop 48 = .ok (.ireturn, 1) := by decide +kernel
theorem dX4_keepAll_0 : decode cX4_keepAll 0 = .ok (.aload_n 0, 1) := by decide +kernel
theorem dX4_keepAll_1 : decode cX4_keepAll 1 = .ok (.aload_n 0, 1) := by decide +kernel
theorem dX4_keepAll_2 : decode cX4_keepAll 2 = .ok (.getfield 114, 3) := by decide +kernel
theorem dX4_keepAll_5 : decode cX4_keepAll 5 = .ok (.putfield 165, 3) := by decide +kernel
theorem dX4_keepAll_8 : decode cX4_keepAll 8 = .ok (.iconst 0, 1) := by decide +kernel
theorem dX4_keepAll_9 : decode cX4_keepAll 9 = .ok (.istore_n 1, 1) := by decide +kernel
theorem dX4_keepAll_10 : decode cX4_keepAll 10 = .ok (.iload_n 1, 1) := by decide +kernel
theorem dX4_keepAll_11 : decode cX4_keepAll 11 = .ok (.aload_n 0, 1) := by decide +kernel
theorem dX4_keepAll_12 : decode cX4_keepAll 12 = .ok (.invokevirtual 107, 3) := by decide +kernel
theorem dX4_keepAll_15 : decode cX4_keepAll 15 = .ok (.if_icmp .ge 21, 3) := by decide +kernel
theorem dX4_keepAll_18 : decode cX4_keepAll 18 = .ok (.aload_n 0, 1) := by decide +kernel
theorem dX4_keepAll_19 : decode cX4_keepAll 19 = .ok (.getfield 37, 3) := by decide +kernel
theorem dX4_keepAll_22 : decode cX4_keepAll 22 = .ok (.iload_n 1, 1) := by decide +kernel
theorem dX4_keepAll_23 : decode cX4_keepAll 23 = .ok (.aload_n 0, 1) := by decide +kernel
theorem dX4_keepAll_24 : decode cX4_keepAll 24 = .ok (.getfield 19, 3) := by decide +kernel
theorem dX4_keepAll_27 : decode cX4_keepAll 27 = .ok (.iload_n 1, 1) := by decide +kernel
theorem dX4_keepAll_28 : decode cX4_keepAll 28 = .ok (.iaload, 1) := by decide +kernel
theorem dX4_keepAll_29 : decode cX4_keepAll 29 = .ok (.iastore, 1) := by decide +kernel
theorem dX4_keepAll_30 : decode cX4_keepAll 30 = .ok (.iinc 1 1, 3) := by decide +kernel
theorem dX4_keepAll_33 : decode cX4_keepAll 33 = .ok (.goto (-23), 3) := by decide +kernel
theorem dX4_keepAll_36 : decode cX4_keepAll 36 = .ok (.iconst 0, 1) := by decide +kernel
theorem dX4_keepAll_37 : decode cX4_keepAll 37 = .ok (.istore_n 1, 1) := by decide +kernel
theorem dX4_keepAll_38 : decode cX4_keepAll 38 = .ok (.iload_n 1, 1) := by decide +kernel
theorem dX4_keepAll_39 : decode cX4_keepAll 39 = .ok (.aload_n 0, 1) := by decide +kernel
theorem dX4_keepAll_40 : decode cX4_keepAll 40 = .ok (.getfield 75, 3) := by decide +kernel
theorem dX4_keepAll_43 : decode cX4_keepAll 43 = .ok (.if_icmp .ge 21, 3) := by decide +kernel
theorem dX4_keepAll_46 : decode cX4_keepAll 46 = .ok (.aload_n 0, 1) := by decide +kernel
theorem dX4_keepAll_47 : decode cX4_keepAll 47 = .ok (.getfield 40, 3) := by decide +kernel
theorem dX4_keepAll_50 : decode cX4_keepAll 50 = .ok (.iload_n 1, 1) := by decide +kernel
theorem dX4_keepAll_51 : decode cX4_keepAll 51 = .ok (.aload_n 0, 1) := by decide +kernel
theorem dX4_keepAll_52 : decode cX4_keepAll 52 = .ok (.getfield 28, 3) := by decide +kernel
theorem dX4_keepAll_55 : decode cX4_keepAll 55 = .ok (.iload_n 1, 1) := by decide +kernel
theorem dX4_keepAll_56 : decode cX4_keepAll 56 = .ok (.iaload, 1) := by decide +kernel
theorem dX4_keepAll_57 : decode cX4_keepAll 57 = .ok (.iastore, 1) := by decide +kernel
theorem dX4_keepAll_58 : decode cX4_keepAll 58 = .ok (.iinc 1 1, 3) := by decide +kernel
theorem dX4_keepAll_61 : decode cX4_keepAll 61 = .ok (.goto (-23), 3) := by decide +kernel
theorem dX4_keepAll_64 : decode cX4_keepAll 64 = .ok (.return_, 1) := by decide +kernel
theorem dX4_putBack_0 : decode cX4_putBack 0 = .ok (.aload_n 0, 1) := by decide +kernel
theorem dX4_putBack_1 : decode cX4_putBack 1 = .ok (.aload_n 0, 1) := by decide +kernel
theorem dX4_putBack_2 : decode cX4_putBack 2 = .ok (.getfield 165, 3) := by decide +kernel
theorem dX4_putBack_5 : decode cX4_putBack 5 = .ok (.putfield 114, 3) := by decide +kernel
theorem dX4_putBack_8 : decode cX4_putBack 8 = .ok (.iconst 0, 1) := by decide +kernel
theorem dX4_putBack_9 : decode cX4_putBack 9 = .ok (.istore_n 1, 1) := by decide +kernel
theorem dX4_putBack_10 : decode cX4_putBack 10 = .ok (.iload_n 1, 1) := by decide +kernel
theorem dX4_putBack_11 : decode cX4_putBack 11 = .ok (.aload_n 0, 1) := by decide +kernel
theorem dX4_putBack_12 : decode cX4_putBack 12 = .ok (.invokevirtual 107, 3) := by decide +kernel
theorem dX4_putBack_15 : decode cX4_putBack 15 = .ok (.if_icmp .ge 21, 3) := by decide +kernel
theorem dX4_putBack_18 : decode cX4_putBack 18 = .ok (.aload_n 0, 1) := by decide +kernel
theorem dX4_putBack_19 : decode cX4_putBack 19 = .ok (.getfield 19, 3) := by decide +kernel
theorem dX4_putBack_22 : decode cX4_putBack 22 = .ok (.iload_n 1, 1) := by decide +kernel
theorem dX4_putBack_23 : decode cX4_putBack 23 = .ok (.aload_n 0, 1) := by decide +kernel
theorem dX4_putBack_24 : decode cX4_putBack 24 = .ok (.getfield 37, 3) := by decide +kernel
theorem dX4_putBack_27 : decode cX4_putBack 27 = .ok (.iload_n 1, 1) := by decide +kernel
theorem dX4_putBack_28 : decode cX4_putBack 28 = .ok (.iaload, 1) := by decide +kernel
theorem dX4_putBack_29 : decode cX4_putBack 29 = .ok (.iastore, 1) := by decide +kernel
theorem dX4_putBack_30 : decode cX4_putBack 30 = .ok (.iinc 1 1, 3) := by decide +kernel
theorem dX4_putBack_33 : decode cX4_putBack 33 = .ok (.goto (-23), 3) := by decide +kernel
theorem dX4_putBack_36 : decode cX4_putBack 36 = .ok (.iconst 0, 1) := by decide +kernel
theorem dX4_putBack_37 : decode cX4_putBack 37 = .ok (.istore_n 1, 1) := by decide +kernel
theorem dX4_putBack_38 : decode cX4_putBack 38 = .ok (.iload_n 1, 1) := by decide +kernel
theorem dX4_putBack_39 : decode cX4_putBack 39 = .ok (.aload_n 0, 1) := by decide +kernel
theorem dX4_putBack_40 : decode cX4_putBack 40 = .ok (.getfield 75, 3) := by decide +kernel
theorem dX4_putBack_43 : decode cX4_putBack 43 = .ok (.if_icmp .ge 21, 3) := by decide +kernel
theorem dX4_putBack_46 : decode cX4_putBack 46 = .ok (.aload_n 0, 1) := by decide +kernel
theorem dX4_putBack_47 : decode cX4_putBack 47 = .ok (.getfield 28, 3) := by decide +kernel
theorem dX4_putBack_50 : decode cX4_putBack 50 = .ok (.iload_n 1, 1) := by decide +kernel
theorem dX4_putBack_51 : decode cX4_putBack 51 = .ok (.aload_n 0, 1) := by decide +kernel
theorem dX4_putBack_52 : decode cX4_putBack 52 = .ok (.getfield 40, 3) := by decide +kernel
theorem dX4_putBack_55 : decode cX4_putBack 55 = .ok (.iload_n 1, 1) := by decide +kernel
theorem dX4_putBack_56 : decode cX4_putBack 56 = .ok (.iaload, 1) := by decide +kernel
theorem dX4_putBack_57 : decode cX4_putBack 57 = .ok (.iastore, 1) := by decide +kernel
theorem dX4_putBack_58 : decode cX4_putBack 58 = .ok (.iinc 1 1, 3) := by decide +kernel
theorem dX4_putBack_61 : decode cX4_putBack 61 = .ok (.goto (-23), 3) := by decide +kernel
theorem dX4_putBack_64 : decode cX4_putBack 64 = .ok (.return_, 1) := by decide +kernel
theorem dX4_does_0 : decode cX4_does 0 = .ok (.iload_n 2, 1) := by decide +kernel
theorem dX4_does_1 : decode cX4_does 1 = .ok (.bipush 10, 2) := by decide +kernel
theorem dX4_does_3 : decode cX4_does 3 = .ok (.if_icmp .ne 22, 3) := by decide +kernel
theorem dX4_does_6 : decode cX4_does 6 = .ok (.iconst 0, 1) := by decide +kernel
theorem dX4_does_7 : decode cX4_does 7 = .ok (.istore_n 3, 1) := by decide +kernel
theorem dX4_does_8 : decode cX4_does 8 = .ok (.iload_n 3, 1) := by decide +kernel
theorem dX4_does_9 : decode cX4_does 9 = .ok (.iload_n 1, 1) := by decide +kernel
theorem dX4_does_10 : decode cX4_does 10 = .ok (.if_icmp .ge 13, 3) := by decide +kernel
theorem dX4_does_13 : decode cX4_does 13 = .ok (.aload_n 0, 1) := by decide +kernel
theorem dX4_does_14 : decode cX4_does 14 = .ok (.invokevirtual 159, 3) := by decide +kernel
theorem dX4_does_17 : decode cX4_does 17 = .ok (.iinc 3 1, 3) := by decide +kernel
theorem dX4_does_20 : decode cX4_does 20 = .ok (.goto (-12), 3) := by decide +kernel
theorem dX4_does_23 : decode cX4_does 23 = .ok (.iconst 1, 1) := by decide +kernel
theorem dX4_does_24 : decode cX4_does 24 = .ok (.ireturn, 1) := by decide +kernel
theorem dX4_does_25 : decode cX4_does 25 = .ok (.iload_n 2, 1) := by decide +kernel
theorem dX4_does_26 : decode cX4_does 26 = .ok (.bipush 20, 2) := by decide +kernel
theorem dX4_does_28 : decode cX4_does 28 = .ok (.if_icmp .ne 32, 3) := by decide +kernel
theorem dX4_does_31 : decode cX4_does 31 = .ok (.iload_n 1, 1) := by decide +kernel
theorem dX4_does_32 : decode cX4_does 32 = .ok (.aload_n 0, 1) := by decide +kernel
theorem dX4_does_33 : decode cX4_does 33 = .ok (.invokevirtual 107, 3) := by decide +kernel
theorem dX4_does_36 : decode cX4_does 36 = .ok (.if_icmp .ge 12, 3) := by decide +kernel
theorem dX4_does_39 : decode cX4_does 39 = .ok (.aload_n 0, 1) := by decide +kernel
theorem dX4_does_40 : decode cX4_does 40 = .ok (.getfield 19, 3) := by decide +kernel
theorem dX4_does_43 : decode cX4_does 43 = .ok (.iload_n 1, 1) := by decide +kernel
theorem dX4_does_44 : decode cX4_does 44 = .ok (.iaload, 1) := by decide +kernel
theorem dX4_does_45 : decode cX4_does 45 = .ok (.ifCond .ne 5, 3) := by decide +kernel
theorem dX4_does_48 : decode cX4_does 48 = .ok (.iconst 0, 1) := by decide +kernel
theorem dX4_does_49 : decode cX4_does 49 = .ok (.ireturn, 1) := by decide +kernel
theorem dX4_does_50 : decode cX4_does 50 = .ok (.aload_n 0, 1) := by decide +kernel
theorem dX4_does_51 : decode cX4_does 51 = .ok (.getfield 19, 3) := by decide +kernel
theorem dX4_does_54 : decode cX4_does 54 = .ok (.iload_n 1, 1) := by decide +kernel
theorem dX4_does_55 : decode cX4_does 55 = .ok (.bipush 9, 2) := by decide +kernel
theorem dX4_does_57 : decode cX4_does 57 = .ok (.iastore, 1) := by decide +kernel
theorem dX4_does_58 : decode cX4_does 58 = .ok (.iconst 1, 1) := by decide +kernel
theorem dX4_does_59 : decode cX4_does 59 = .ok (.ireturn, 1) := by decide +kernel
theorem dX4_does_60 : decode cX4_does 60 = .ok (.aload_n 0, 1) := by decide +kernel
theorem dX4_does_61 : decode cX4_does 61 = .ok (.dup, 1) := by decide +kernel
theorem dX4_does_62 : decode cX4_does 62 = .ok (.getfield 168, 3) := by decide +kernel
theorem dX4_does_65 : decode cX4_does 65 = .ok (.iconst 1, 1) := by decide +kernel
theorem dX4_does_66 : decode cX4_does 66 = .ok (.iadd, 1) := by decide +kernel
theorem dX4_does_67 : decode cX4_does 67 = .ok (.putfield 168, 3) := by decide +kernel
theorem dX4_does_70 : decode cX4_does 70 = .ok (.aload_n 0, 1) := by decide +kernel
theorem dX4_does_71 : decode cX4_does 71 = .ok (.iload_n 1, 1) := by decide +kernel
theorem dX4_does_72 : decode cX4_does 72 = .ok (.iload_n 2, 1) := by decide +kernel
theorem dX4_does_73 : decode cX4_does 73 = .ok (.invokevirtual 153, 3) := by decide +kernel
theorem dX4_does_76 : decode cX4_does 76 = .ok (.ireturn, 1) := by decide +kernel
theorem dX4_goSeason_0 : decode cX4_goSeason 0 = .ok (.aload_n 0, 1) := by decide +kernel
theorem dX4_goSeason_1 : decode cX4_goSeason 1 = .ok (.iconst 0, 1) := by decide +kernel
theorem dX4_goSeason_2 : decode cX4_goSeason 2 = .ok (.putfield 168, 3) := by decide +kernel
theorem dX4_goSeason_5 : decode cX4_goSeason 5 = .ok (.iconst 0, 1) := by decide +kernel
theorem dX4_goSeason_6 : decode cX4_goSeason 6 = .ok (.istore_n 3, 1) := by decide +kernel
theorem dX4_goSeason_7 : decode cX4_goSeason 7 = .ok (.iload_n 3, 1) := by decide +kernel
theorem dX4_goSeason_8 : decode cX4_goSeason 8 = .ok (.iload_n 2, 1) := by decide +kernel
theorem dX4_goSeason_9 : decode cX4_goSeason 9 = .ok (.if_icmp .ge 40, 3) := by decide +kernel
theorem dX4_goSeason_12 : decode cX4_goSeason 12 = .ok (.aload_n 0, 1) := by decide +kernel
theorem dX4_goSeason_13 : decode cX4_goSeason 13 = .ok (.aload_n 0, 1) := by decide +kernel
theorem dX4_goSeason_14 : decode cX4_goSeason 14 = .ok (.getfield 16, 3) := by decide +kernel
theorem dX4_goSeason_17 : decode cX4_goSeason 17 = .ok (.iload_n 1, 1) := by decide +kernel
theorem dX4_goSeason_18 : decode cX4_goSeason 18 = .ok (.iconst 2, 1) := by decide +kernel
theorem dX4_goSeason_19 : decode cX4_goSeason 19 = .ok (.iload_n 3, 1) := by decide +kernel
theorem dX4_goSeason_20 : decode cX4_goSeason 20 = .ok (.imul, 1) := by decide +kernel
theorem dX4_goSeason_21 : decode cX4_goSeason 21 = .ok (.iadd, 1) := by decide +kernel
theorem dX4_goSeason_22 : decode cX4_goSeason 22 = .ok (.iaload, 1) := by decide +kernel
theorem dX4_goSeason_23 : decode cX4_goSeason 23 = .ok (.aload_n 0, 1) := by decide +kernel
theorem dX4_goSeason_24 : decode cX4_goSeason 24 = .ok (.getfield 16, 3) := by decide +kernel
theorem dX4_goSeason_27 : decode cX4_goSeason 27 = .ok (.iload_n 1, 1) := by decide +kernel
theorem dX4_goSeason_28 : decode cX4_goSeason 28 = .ok (.iconst 2, 1) := by decide +kernel
theorem dX4_goSeason_29 : decode cX4_goSeason 29 = .ok (.iload_n 3, 1) := by decide +kernel
theorem dX4_goSeason_30 : decode cX4_goSeason 30 = .ok (.imul, 1) := by decide +kernel
theorem dX4_goSeason_31 : decode cX4_goSeason 31 = .ok (.iadd, 1) := by decide +kernel
theorem dX4_goSeason_32 : decode cX4_goSeason 32 = .ok (.iconst 1, 1) := by decide +kernel
theorem dX4_goSeason_33 : decode cX4_goSeason 33 = .ok (.iadd, 1) := by decide +kernel
theorem dX4_goSeason_34 : decode cX4_goSeason 34 = .ok (.iaload, 1) := by decide +kernel
theorem dX4_goSeason_35 : decode cX4_goSeason 35 = .ok (.invokevirtual 171, 3) := by decide +kernel
theorem dX4_goSeason_38 : decode cX4_goSeason 38 = .ok (.ifCond .ne 5, 3) := by decide +kernel
theorem dX4_goSeason_41 : decode cX4_goSeason 41 = .ok (.iload_n 3, 1) := by decide +kernel
theorem dX4_goSeason_42 : decode cX4_goSeason 42 = .ok (.ireturn, 1) := by decide +kernel
theorem dX4_goSeason_43 : decode cX4_goSeason 43 = .ok (.iinc 3 1, 3) := by decide +kernel
theorem dX4_goSeason_46 : decode cX4_goSeason 46 = .ok (.goto (-39), 3) := by decide +kernel
theorem dX4_goSeason_49 : decode cX4_goSeason 49 = .ok (.bipush (-9), 2) := by decide +kernel
theorem dX4_goSeason_51 : decode cX4_goSeason 51 = .ok (.ireturn, 1) := by decide +kernel
theorem dX4_refusesPair_0 : decode cX4_refusesPair 0 = .ok (.iload_n 2, 1) := by decide +kernel
theorem dX4_refusesPair_1 : decode cX4_refusesPair 1 = .ok (.iconst 0, 1) := by decide +kernel
theorem dX4_refusesPair_2 : decode cX4_refusesPair 2 = .ok (.iconst 4, 1) := by decide +kernel
theorem dX4_refusesPair_3 : decode cX4_refusesPair 3 = .ok (.invokestatic 64, 3) := by decide +kernel
theorem dX4_refusesPair_6 : decode cX4_refusesPair 6 = .ok (.istore_n 3, 1) := by decide +kernel
theorem dX4_refusesPair_7 : decode cX4_refusesPair 7 = .ok (.iload_n 3, 1) := by decide +kernel
theorem dX4_refusesPair_8 : decode cX4_refusesPair 8 = .ok (.ifCond .ne 15, 3) := by decide +kernel
theorem dX4_refusesPair_11 : decode cX4_refusesPair 11 = .ok (.iload_n 2, 1) := by decide +kernel
theorem dX4_refusesPair_12 : decode cX4_refusesPair 12 = .ok (.bipush 10, 2) := by decide +kernel
theorem dX4_refusesPair_14 : decode cX4_refusesPair 14 = .ok (.if_icmp .eq 9, 3) := by decide +kernel
theorem dX4_refusesPair_17 : decode cX4_refusesPair 17 = .ok (.iload_n 2, 1) := by decide +kernel
theorem dX4_refusesPair_18 : decode cX4_refusesPair 18 = .ok (.bipush 20, 2) := by decide +kernel
theorem dX4_refusesPair_20 : decode cX4_refusesPair 20 = .ok (.if_icmp .ne 17, 3) := by decide +kernel
theorem dX4_refusesPair_23 : decode cX4_refusesPair 23 = .ok (.iload_n 3, 1) := by decide +kernel
theorem dX4_refusesPair_24 : decode cX4_refusesPair 24 = .ok (.ifCond .ne 16, 3) := by decide +kernel
theorem dX4_refusesPair_27 : decode cX4_refusesPair 27 = .ok (.iload_n 1, 1) := by decide +kernel
theorem dX4_refusesPair_28 : decode cX4_refusesPair 28 = .ok (.iconst 0, 1) := by decide +kernel
theorem dX4_refusesPair_29 : decode cX4_refusesPair 29 = .ok (.bipush 9, 2) := by decide +kernel
theorem dX4_refusesPair_31 : decode cX4_refusesPair 31 = .ok (.invokestatic 64, 3) := by decide +kernel
theorem dX4_refusesPair_34 : decode cX4_refusesPair 34 = .ok (.ifCond .ne 6, 3) := by decide +kernel
theorem dX4_refusesPair_37 : decode cX4_refusesPair 37 = .ok (.bipush (-2), 2) := by decide +kernel
theorem dX4_refusesPair_39 : decode cX4_refusesPair 39 = .ok (.ireturn, 1) := by decide +kernel
theorem dX4_refusesPair_40 : decode cX4_refusesPair 40 = .ok (.iload_n 3, 1) := by decide +kernel
theorem dX4_refusesPair_41 : decode cX4_refusesPair 41 = .ok (.ifCond .eq 15, 3) := by decide +kernel
theorem dX4_refusesPair_44 : decode cX4_refusesPair 44 = .ok (.aload_n 0, 1) := by decide +kernel
theorem dX4_refusesPair_45 : decode cX4_refusesPair 45 = .ok (.iload_n 1, 1) := by decide +kernel
theorem dX4_refusesPair_46 : decode cX4_refusesPair 46 = .ok (.invokevirtual 140, 3) := by decide +kernel
theorem dX4_refusesPair_49 : decode cX4_refusesPair 49 = .ok (.ifCond .ne 7, 3) := by decide +kernel
theorem dX4_refusesPair_52 : decode cX4_refusesPair 52 = .ok (.iconst (-1), 1) := by decide +kernel
theorem dX4_refusesPair_53 : decode cX4_refusesPair 53 = .ok (.goto 4, 3) := by decide +kernel
theorem dX4_refusesPair_56 : decode cX4_refusesPair 56 = .ok (.iconst 0, 1) := by decide +kernel
theorem dX4_refusesPair_57 : decode cX4_refusesPair 57 = .ok (.ireturn, 1) := by decide +kernel
theorem dX4_season_0 : decode cX4_season 0 = .ok (.aload_n 0, 1) := by decide +kernel
theorem dX4_season_1 : decode cX4_season 1 = .ok (.iconst 0, 1) := by decide +kernel
theorem dX4_season_2 : decode cX4_season 2 = .ok (.putfield 58, 3) := by decide +kernel
theorem dX4_season_5 : decode cX4_season 5 = .ok (.iload_n 1, 1) := by decide +kernel
theorem dX4_season_6 : decode cX4_season 6 = .ok (.invokestatic 85, 3) := by decide +kernel
theorem dX4_season_9 : decode cX4_season 9 = .ok (.ifCond .ne 5, 3) := by decide +kernel
theorem dX4_season_12 : decode cX4_season 12 = .ok (.iconst (-1), 1) := by decide +kernel
theorem dX4_season_13 : decode cX4_season 13 = .ok (.ireturn, 1) := by decide +kernel
theorem dX4_season_14 : decode cX4_season 14 = .ok (.iload_n 2, 1) := by decide +kernel
theorem dX4_season_15 : decode cX4_season 15 = .ok (.invokestatic 88, 3) := by decide +kernel
theorem dX4_season_18 : decode cX4_season 18 = .ok (.ifCond .eq 36, 3) := by decide +kernel
theorem dX4_season_21 : decode cX4_season 21 = .ok (.iload 4, 2) := by decide +kernel
theorem dX4_season_23 : decode cX4_season 23 = .ok (.iconst 0, 1) := by decide +kernel
theorem dX4_season_24 : decode cX4_season 24 = .ok (.bipush 20, 2) := by decide +kernel
theorem dX4_season_26 : decode cX4_season 26 = .ok (.invokestatic 64, 3) := by decide +kernel
theorem dX4_season_29 : decode cX4_season 29 = .ok (.ifCond .eq 25, 3) := by decide +kernel
theorem dX4_season_32 : decode cX4_season 32 = .ok (.iload 5, 2) := by decide +kernel
theorem dX4_season_34 : decode cX4_season 34 = .ok (.iconst 0, 1) := by decide +kernel
theorem dX4_season_35 : decode cX4_season 35 = .ok (.iconst 4, 1) := by decide +kernel
theorem dX4_season_36 : decode cX4_season 36 = .ok (.invokestatic 64, 3) := by decide +kernel
theorem dX4_season_39 : decode cX4_season 39 = .ok (.ifCond .ne 18, 3) := by decide +kernel
theorem dX4_season_42 : decode cX4_season 42 = .ok (.iload 5, 2) := by decide +kernel
theorem dX4_season_44 : decode cX4_season 44 = .ok (.bipush 10, 2) := by decide +kernel
theorem dX4_season_46 : decode cX4_season 46 = .ok (.bipush 14, 2) := by decide +kernel
theorem dX4_season_48 : decode cX4_season 48 = .ok (.invokestatic 64, 3) := by decide +kernel
theorem dX4_season_51 : decode cX4_season 51 = .ok (.ifCond .ne 6, 3) := by decide +kernel
theorem dX4_season_54 : decode cX4_season 54 = .ok (.bipush (-2), 2) := by decide +kernel
theorem dX4_season_56 : decode cX4_season 56 = .ok (.ireturn, 1) := by decide +kernel
theorem dX4_season_57 : decode cX4_season 57 = .ok (.aload_n 0, 1) := by decide +kernel
theorem dX4_season_58 : decode cX4_season 58 = .ok (.iload_n 1, 1) := by decide +kernel
theorem dX4_season_59 : decode cX4_season 59 = .ok (.iload_n 2, 1) := by decide +kernel
theorem dX4_season_60 : decode cX4_season 60 = .ok (.iload_n 3, 1) := by decide +kernel
theorem dX4_season_61 : decode cX4_season 61 = .ok (.iconst 2, 1) := by decide +kernel
theorem dX4_season_62 : decode cX4_season 62 = .ok (.iload 4, 2) := by decide +kernel
theorem dX4_season_64 : decode cX4_season 64 = .ok (.imul, 1) := by decide +kernel
theorem dX4_season_65 : decode cX4_season 65 = .ok (.invokevirtual 91, 3) := by decide +kernel
theorem dX4_season_68 : decode cX4_season 68 = .ok (.istore 6, 2) := by decide +kernel
theorem dX4_season_70 : decode cX4_season 70 = .ok (.iload 6, 2) := by decide +kernel
theorem dX4_season_72 : decode cX4_season 72 = .ok (.ifCond .eq 10, 3) := by decide +kernel
theorem dX4_season_75 : decode cX4_season 75 = .ok (.aload_n 0, 1) := by decide +kernel
theorem dX4_season_76 : decode cX4_season 76 = .ok (.iload 6, 2) := by decide +kernel
theorem dX4_season_78 : decode cX4_season 78 = .ok (.invokevirtual 95, 3) := by decide +kernel
theorem dX4_season_81 : decode cX4_season 81 = .ok (.ireturn, 1) := by decide +kernel
theorem dX4_season_82 : decode cX4_season 82 = .ok (.aload_n 0, 1) := by decide +kernel
theorem dX4_season_83 : decode cX4_season 83 = .ok (.getfield 68, 3) := by decide +kernel
theorem dX4_season_86 : decode cX4_season 86 = .ok (.ifCond .ne 6, 3) := by decide +kernel
theorem dX4_season_89 : decode cX4_season 89 = .ok (.bipush (-3), 2) := by decide +kernel
theorem dX4_season_91 : decode cX4_season 91 = .ok (.ireturn, 1) := by decide +kernel
theorem dX4_season_92 : decode cX4_season 92 = .ok (.bipush 60, 2) := by decide +kernel
theorem dX4_season_94 : decode cX4_season 94 = .ok (.iload_n 1, 1) := by decide +kernel
theorem dX4_season_95 : decode cX4_season 95 = .ok (.imul, 1) := by decide +kernel
theorem dX4_season_96 : decode cX4_season 96 = .ok (.iload_n 3, 1) := by decide +kernel
theorem dX4_season_97 : decode cX4_season 97 = .ok (.iadd, 1) := by decide +kernel
theorem dX4_season_98 : decode cX4_season 98 = .ok (.istore 7, 2) := by decide +kernel
theorem dX4_season_100 : decode cX4_season 100 = .ok (.iconst 0, 1) := by decide +kernel
theorem dX4_season_101 : decode cX4_season 101 = .ok (.istore 8, 2) := by decide +kernel
theorem dX4_season_103 : decode cX4_season 103 = .ok (.iload 8, 2) := by decide +kernel
theorem dX4_season_105 : decode cX4_season 105 = .ok (.iload 4, 2) := by decide +kernel
theorem dX4_season_107 : decode cX4_season 107 = .ok (.if_icmp .ge 49, 3) := by decide +kernel
theorem dX4_season_110 : decode cX4_season 110 = .ok (.aload_n 0, 1) := by decide +kernel
theorem dX4_season_111 : decode cX4_season 111 = .ok (.aload_n 0, 1) := by decide +kernel
theorem dX4_season_112 : decode cX4_season 112 = .ok (.getfield 16, 3) := by decide +kernel
theorem dX4_season_115 : decode cX4_season 115 = .ok (.iload 7, 2) := by decide +kernel
theorem dX4_season_117 : decode cX4_season 117 = .ok (.iconst 2, 1) := by decide +kernel
theorem dX4_season_118 : decode cX4_season 118 = .ok (.iload 8, 2) := by decide +kernel
theorem dX4_season_120 : decode cX4_season 120 = .ok (.imul, 1) := by decide +kernel
theorem dX4_season_121 : decode cX4_season 121 = .ok (.iadd, 1) := by decide +kernel
theorem dX4_season_122 : decode cX4_season 122 = .ok (.iaload, 1) := by decide +kernel
theorem dX4_season_123 : decode cX4_season 123 = .ok (.aload_n 0, 1) := by decide +kernel
theorem dX4_season_124 : decode cX4_season 124 = .ok (.getfield 16, 3) := by decide +kernel
theorem dX4_season_127 : decode cX4_season 127 = .ok (.iload 7, 2) := by decide +kernel
theorem dX4_season_129 : decode cX4_season 129 = .ok (.iconst 2, 1) := by decide +kernel
theorem dX4_season_130 : decode cX4_season 130 = .ok (.iload 8, 2) := by decide +kernel
theorem dX4_season_132 : decode cX4_season 132 = .ok (.imul, 1) := by decide +kernel
theorem dX4_season_133 : decode cX4_season 133 = .ok (.iadd, 1) := by decide +kernel
theorem dX4_season_134 : decode cX4_season 134 = .ok (.iconst 1, 1) := by decide +kernel
theorem dX4_season_135 : decode cX4_season 135 = .ok (.iadd, 1) := by decide +kernel
theorem dX4_season_136 : decode cX4_season 136 = .ok (.iaload, 1) := by decide +kernel
theorem dX4_season_137 : decode cX4_season 137 = .ok (.invokevirtual 174, 3) := by decide +kernel
theorem dX4_season_140 : decode cX4_season 140 = .ok (.istore 9, 2) := by decide +kernel
theorem dX4_season_142 : decode cX4_season 142 = .ok (.iload 9, 2) := by decide +kernel
theorem dX4_season_144 : decode cX4_season 144 = .ok (.ifCond .eq 6, 3) := by decide +kernel
theorem dX4_season_147 : decode cX4_season 147 = .ok (.iload 9, 2) := by decide +kernel
theorem dX4_season_149 : decode cX4_season 149 = .ok (.ireturn, 1) := by decide +kernel
theorem dX4_season_150 : decode cX4_season 150 = .ok (.iinc 8 1, 3) := by decide +kernel
theorem dX4_season_153 : decode cX4_season 153 = .ok (.goto (-50), 3) := by decide +kernel
theorem dX4_season_156 : decode cX4_season 156 = .ok (.aload_n 0, 1) := by decide +kernel
theorem dX4_season_157 : decode cX4_season 157 = .ok (.invokevirtual 177, 3) := by decide +kernel
theorem dX4_season_160 : decode cX4_season 160 = .ok (.aload_n 0, 1) := by decide +kernel
theorem dX4_season_161 : decode cX4_season 161 = .ok (.iload 7, 2) := by decide +kernel
theorem dX4_season_163 : decode cX4_season 163 = .ok (.iload 4, 2) := by decide +kernel
theorem dX4_season_165 : decode cX4_season 165 = .ok (.invokevirtual 180, 3) := by decide +kernel
theorem dX4_season_168 : decode cX4_season 168 = .ok (.istore 8, 2) := by decide +kernel
theorem dX4_season_170 : decode cX4_season 170 = .ok (.aload_n 0, 1) := by decide +kernel
theorem dX4_season_171 : decode cX4_season 171 = .ok (.iload 5, 2) := by decide +kernel
theorem dX4_season_173 : decode cX4_season 173 = .ok (.invokevirtual 183, 3) := by decide +kernel
theorem dX4_season_176 : decode cX4_season 176 = .ok (.istore 9, 2) := by decide +kernel
theorem dX4_season_178 : decode cX4_season 178 = .ok (.aload_n 0, 1) := by decide +kernel
theorem dX4_season_179 : decode cX4_season 179 = .ok (.invokevirtual 186, 3) := by decide +kernel
theorem dX4_season_182 : decode cX4_season 182 = .ok (.iload 5, 2) := by decide +kernel
theorem dX4_season_184 : decode cX4_season 184 = .ok (.iconst 1, 1) := by decide +kernel
theorem dX4_season_185 : decode cX4_season 185 = .ok (.if_icmp .ne 8, 3) := by decide +kernel
theorem dX4_season_188 : decode cX4_season 188 = .ok (.iload 8, 2) := by decide +kernel
theorem dX4_season_190 : decode cX4_season 190 = .ok (.goto 20, 3) := by decide +kernel
theorem dX4_season_193 : decode cX4_season 193 = .ok (.iload 8, 2) := by decide +kernel
theorem dX4_season_195 : decode cX4_season 195 = .ok (.bipush (-9), 2) := by decide +kernel
theorem dX4_season_197 : decode cX4_season 197 = .ok (.if_icmp .ne 8, 3) := by decide +kernel
theorem dX4_season_200 : decode cX4_season 200 = .ok (.iload 9, 2) := by decide +kernel
theorem dX4_season_202 : decode cX4_season 202 = .ok (.goto 8, 3) := by decide +kernel
theorem dX4_season_205 : decode cX4_season 205 = .ok (.bipush (-100), 2) := by decide +kernel
theorem dX4_season_207 : decode cX4_season 207 = .ok (.iload 8, 2) := by decide +kernel
theorem dX4_season_209 : decode cX4_season 209 = .ok (.isub, 1) := by decide +kernel
theorem dX4_season_210 : decode cX4_season 210 = .ok (.ireturn, 1) := by decide +kernel
theorem dX4_tellSeason_0 : decode cX4_tellSeason 0 = .ok (.iload_n 1, 1) := by decide +kernel
theorem dX4_tellSeason_1 : decode cX4_tellSeason 1 = .ok (.bipush 10, 2) := by decide +kernel
theorem dX4_tellSeason_3 : decode cX4_tellSeason 3 = .ok (.if_icmp .lt 29, 3) := by decide +kernel
theorem dX4_tellSeason_6 : decode cX4_tellSeason 6 = .ok (.aload_n 0, 1) := by decide +kernel
theorem dX4_tellSeason_7 : decode cX4_tellSeason 7 = .ok (.iload_n 1, 1) := by decide +kernel
theorem dX4_tellSeason_8 : decode cX4_tellSeason 8 = .ok (.bipush 10, 2) := by decide +kernel
theorem dX4_tellSeason_10 : decode cX4_tellSeason 10 = .ok (.isub, 1) := by decide +kernel
theorem dX4_tellSeason_11 : decode cX4_tellSeason 11 = .ok (.invokevirtual 140, 3) := by decide +kernel
theorem dX4_tellSeason_14 : decode cX4_tellSeason 14 = .ok (.ifCond .eq 15, 3) := by decide +kernel
theorem dX4_tellSeason_17 : decode cX4_tellSeason 17 = .ok (.aload_n 0, 1) := by decide +kernel
theorem dX4_tellSeason_18 : decode cX4_tellSeason 18 = .ok (.getfield 28, 3) := by decide +kernel
theorem dX4_tellSeason_21 : decode cX4_tellSeason 21 = .ok (.iload_n 1, 1) := by decide +kernel
theorem dX4_tellSeason_22 : decode cX4_tellSeason 22 = .ok (.bipush 10, 2) := by decide +kernel
theorem dX4_tellSeason_24 : decode cX4_tellSeason 24 = .ok (.isub, 1) := by decide +kernel
theorem dX4_tellSeason_25 : decode cX4_tellSeason 25 = .ok (.iaload, 1) := by decide +kernel
theorem dX4_tellSeason_26 : decode cX4_tellSeason 26 = .ok (.goto 5, 3) := by decide +kernel
theorem dX4_tellSeason_29 : decode cX4_tellSeason 29 = .ok (.bipush (-9), 2) := by decide +kernel
theorem dX4_tellSeason_31 : decode cX4_tellSeason 31 = .ok (.ireturn, 1) := by decide +kernel
theorem dX4_tellSeason_32 : decode cX4_tellSeason 32 = .ok (.iload_n 1, 1) := by decide +kernel
theorem dX4_tellSeason_33 : decode cX4_tellSeason 33 = .ok (.iconst 4, 1) := by decide +kernel
theorem dX4_tellSeason_34 : decode cX4_tellSeason 34 = .ok (.if_icmp .ge 31, 3) := by decide +kernel
theorem dX4_tellSeason_37 : decode cX4_tellSeason 37 = .ok (.iload_n 1, 1) := by decide +kernel
theorem dX4_tellSeason_38 : decode cX4_tellSeason 38 = .ok (.ifCond .ne 10, 3) := by decide +kernel
theorem dX4_tellSeason_41 : decode cX4_tellSeason 41 = .ok (.aload_n 0, 1) := by decide +kernel
theorem dX4_tellSeason_42 : decode cX4_tellSeason 42 = .ok (.invokevirtual 162, 3) := by decide +kernel
theorem dX4_tellSeason_45 : decode cX4_tellSeason 45 = .ok (.goto 19, 3) := by decide +kernel
theorem dX4_tellSeason_48 : decode cX4_tellSeason 48 = .ok (.iload_n 1, 1) := by decide +kernel
theorem dX4_tellSeason_49 : decode cX4_tellSeason 49 = .ok (.iconst 2, 1) := by decide +kernel
theorem dX4_tellSeason_50 : decode cX4_tellSeason 50 = .ok (.if_icmp .ne 10, 3) := by decide +kernel
theorem dX4_tellSeason_53 : decode cX4_tellSeason 53 = .ok (.aload_n 0, 1) := by decide +kernel
theorem dX4_tellSeason_54 : decode cX4_tellSeason 54 = .ok (.getfield 114, 3) := by decide +kernel
theorem dX4_tellSeason_57 : decode cX4_tellSeason 57 = .ok (.goto 7, 3) := by decide +kernel
theorem dX4_tellSeason_60 : decode cX4_tellSeason 60 = .ok (.aload_n 0, 1) := by decide +kernel
theorem dX4_tellSeason_61 : decode cX4_tellSeason 61 = .ok (.getfield 168, 3) := by decide +kernel
theorem dX4_tellSeason_64 : decode cX4_tellSeason 64 = .ok (.ireturn, 1) := by decide +kernel
theorem dX4_tellSeason_65 : decode cX4_tellSeason 65 = .ok (.iconst 0, 1) := by decide +kernel
theorem dX4_tellSeason_66 : decode cX4_tellSeason 66 = .ok (.istore_n 2, 1) := by decide +kernel
theorem dX4_tellSeason_67 : decode cX4_tellSeason 67 = .ok (.iconst 0, 1) := by decide +kernel
theorem dX4_tellSeason_68 : decode cX4_tellSeason 68 = .ok (.istore_n 3, 1) := by decide +kernel
theorem dX4_tellSeason_69 : decode cX4_tellSeason 69 = .ok (.iload_n 3, 1) := by decide +kernel
theorem dX4_tellSeason_70 : decode cX4_tellSeason 70 = .ok (.aload_n 0, 1) := by decide +kernel
theorem dX4_tellSeason_71 : decode cX4_tellSeason 71 = .ok (.getfield 75, 3) := by decide +kernel
theorem dX4_tellSeason_74 : decode cX4_tellSeason 74 = .ok (.if_icmp .ge 20, 3) := by decide +kernel
theorem dX4_tellSeason_77 : decode cX4_tellSeason 77 = .ok (.iload_n 2, 1) := by decide +kernel
theorem dX4_tellSeason_78 : decode cX4_tellSeason 78 = .ok (.iconst 1, 1) := by decide +kernel
theorem dX4_tellSeason_79 : decode cX4_tellSeason 79 = .ok (.aload_n 0, 1) := by decide +kernel
theorem dX4_tellSeason_80 : decode cX4_tellSeason 80 = .ok (.getfield 28, 3) := by decide +kernel
theorem dX4_tellSeason_83 : decode cX4_tellSeason 83 = .ok (.iload_n 3, 1) := by decide +kernel
theorem dX4_tellSeason_84 : decode cX4_tellSeason 84 = .ok (.iaload, 1) := by decide +kernel
theorem dX4_tellSeason_85 : decode cX4_tellSeason 85 = .ok (.ishl, 1) := by decide +kernel
theorem dX4_tellSeason_86 : decode cX4_tellSeason 86 = .ok (.ior, 1) := by decide +kernel
theorem dX4_tellSeason_87 : decode cX4_tellSeason 87 = .ok (.istore_n 2, 1) := by decide +kernel
theorem dX4_tellSeason_88 : decode cX4_tellSeason 88 = .ok (.iinc 3 1, 3) := by decide +kernel
theorem dX4_tellSeason_91 : decode cX4_tellSeason 91 = .ok (.goto (-22), 3) := by decide +kernel
theorem dX4_tellSeason_94 : decode cX4_tellSeason 94 = .ok (.iload_n 2, 1) := by decide +kernel
theorem dX4_tellSeason_95 : decode cX4_tellSeason 95 = .ok (.ireturn, 1) := by decide +kernel
theorem dX4_reached_0 : decode cX4_reached 0 = .ok (.iconst 1, 1) := by decide +kernel
theorem dX4_reached_1 : decode cX4_reached 1 = .ok (.iload_n 1, 1) := by decide +kernel
theorem dX4_reached_2 : decode cX4_reached 2 = .ok (.ishl, 1) := by decide +kernel
theorem dX4_reached_3 : decode cX4_reached 3 = .ok (.istore 4, 2) := by decide +kernel
theorem dX4_reached_5 : decode cX4_reached 5 = .ok (.iconst 0, 1) := by decide +kernel
theorem dX4_reached_6 : decode cX4_reached 6 = .ok (.istore 5, 2) := by decide +kernel
theorem dX4_reached_8 : decode cX4_reached 8 = .ok (.iload 4, 2) := by decide +kernel
theorem dX4_reached_10 : decode cX4_reached 10 = .ok (.iload 5, 2) := by decide +kernel
theorem dX4_reached_12 : decode cX4_reached 12 = .ok (.if_icmp .eq 120, 3) := by decide +kernel
theorem dX4_reached_15 : decode cX4_reached 15 = .ok (.iload 4, 2) := by decide +kernel
theorem dX4_reached_17 : decode cX4_reached 17 = .ok (.istore 5, 2) := by decide +kernel
theorem dX4_reached_19 : decode cX4_reached 19 = .ok (.iconst 0, 1) := by decide +kernel
theorem dX4_reached_20 : decode cX4_reached 20 = .ok (.istore 6, 2) := by decide +kernel
theorem dX4_reached_22 : decode cX4_reached 22 = .ok (.iload 6, 2) := by decide +kernel
theorem dX4_reached_24 : decode cX4_reached 24 = .ok (.aload_n 0, 1) := by decide +kernel
theorem dX4_reached_25 : decode cX4_reached 25 = .ok (.getfield 68, 3) := by decide +kernel
theorem dX4_reached_28 : decode cX4_reached 28 = .ok (.if_icmp .ge 101, 3) := by decide +kernel
theorem dX4_reached_31 : decode cX4_reached 31 = .ok (.iconst 0, 1) := by decide +kernel
theorem dX4_reached_32 : decode cX4_reached 32 = .ok (.istore 7, 2) := by decide +kernel
theorem dX4_reached_34 : decode cX4_reached 34 = .ok (.iload 7, 2) := by decide +kernel
theorem dX4_reached_36 : decode cX4_reached 36 = .ok (.aload_n 0, 1) := by decide +kernel
theorem dX4_reached_37 : decode cX4_reached 37 = .ok (.getfield 68, 3) := by decide +kernel
theorem dX4_reached_40 : decode cX4_reached 40 = .ok (.if_icmp .ge 83, 3) := by decide +kernel
theorem dX4_reached_43 : decode cX4_reached 43 = .ok (.iload 6, 2) := by decide +kernel
theorem dX4_reached_45 : decode cX4_reached 45 = .ok (.iload 7, 2) := by decide +kernel
theorem dX4_reached_47 : decode cX4_reached 47 = .ok (.if_icmp .eq 49, 3) := by decide +kernel
theorem dX4_reached_50 : decode cX4_reached 50 = .ok (.iload 4, 2) := by decide +kernel
theorem dX4_reached_52 : decode cX4_reached 52 = .ok (.iload 6, 2) := by decide +kernel
theorem dX4_reached_54 : decode cX4_reached 54 = .ok (.invokestatic 156, 3) := by decide +kernel
theorem dX4_reached_57 : decode cX4_reached 57 = .ok (.ifCond .eq 39, 3) := by decide +kernel
theorem dX4_reached_60 : decode cX4_reached 60 = .ok (.iload_n 3, 1) := by decide +kernel
theorem dX4_reached_61 : decode cX4_reached 61 = .ok (.aload_n 0, 1) := by decide +kernel
theorem dX4_reached_62 : decode cX4_reached 62 = .ok (.iload 6, 2) := by decide +kernel
theorem dX4_reached_64 : decode cX4_reached 64 = .ok (.iload 7, 2) := by decide +kernel
theorem dX4_reached_66 : decode cX4_reached 66 = .ok (.invokevirtual 146, 3) := by decide +kernel
theorem dX4_reached_69 : decode cX4_reached 69 = .ok (.invokestatic 156, 3) := by decide +kernel
theorem dX4_reached_72 : decode cX4_reached 72 = .ok (.ifCond .ne 24, 3) := by decide +kernel
theorem dX4_reached_75 : decode cX4_reached 75 = .ok (.aload_n 0, 1) := by decide +kernel
theorem dX4_reached_76 : decode cX4_reached 76 = .ok (.getfield 19, 3) := by decide +kernel
theorem dX4_reached_79 : decode cX4_reached 79 = .ok (.aload_n 0, 1) := by decide +kernel
theorem dX4_reached_80 : decode cX4_reached 80 = .ok (.iload 6, 2) := by decide +kernel
theorem dX4_reached_82 : decode cX4_reached 82 = .ok (.iload 7, 2) := by decide +kernel
theorem dX4_reached_84 : decode cX4_reached 84 = .ok (.invokevirtual 146, 3) := by decide +kernel
theorem dX4_reached_87 : decode cX4_reached 87 = .ok (.iaload, 1) := by decide +kernel
theorem dX4_reached_88 : decode cX4_reached 88 = .ok (.iload_n 2, 1) := by decide +kernel
theorem dX4_reached_89 : decode cX4_reached 89 = .ok (.if_icmp .lt 7, 3) := by decide +kernel
theorem dX4_reached_92 : decode cX4_reached 92 = .ok (.iconst 1, 1) := by decide +kernel
theorem dX4_reached_93 : decode cX4_reached 93 = .ok (.goto 4, 3) := by decide +kernel
theorem dX4_reached_96 : decode cX4_reached 96 = .ok (.iconst 0, 1) := by decide +kernel
theorem dX4_reached_97 : decode cX4_reached 97 = .ok (.istore 8, 2) := by decide +kernel
theorem dX4_reached_99 : decode cX4_reached 99 = .ok (.iload 4, 2) := by decide +kernel
theorem dX4_reached_101 : decode cX4_reached 101 = .ok (.iload 8, 2) := by decide +kernel
theorem dX4_reached_103 : decode cX4_reached 103 = .ok (.ifCond .eq 10, 3) := by decide +kernel
theorem dX4_reached_106 : decode cX4_reached 106 = .ok (.iconst 1, 1) := by decide +kernel
theorem dX4_reached_107 : decode cX4_reached 107 = .ok (.iload 7, 2) := by decide +kernel
theorem dX4_reached_109 : decode cX4_reached 109 = .ok (.ishl, 1) := by decide +kernel
theorem dX4_reached_110 : decode cX4_reached 110 = .ok (.goto 4, 3) := by decide +kernel
theorem dX4_reached_113 : decode cX4_reached 113 = .ok (.iconst 0, 1) := by decide +kernel
theorem dX4_reached_114 : decode cX4_reached 114 = .ok (.ior, 1) := by decide +kernel
theorem dX4_reached_115 : decode cX4_reached 115 = .ok (.istore 4, 2) := by decide +kernel
theorem dX4_reached_117 : decode cX4_reached 117 = .ok (.iinc 7 1, 3) := by decide +kernel
theorem dX4_reached_120 : decode cX4_reached 120 = .ok (.goto (-86), 3) := by decide +kernel
theorem dX4_reached_123 : decode cX4_reached 123 = .ok (.iinc 6 1, 3) := by decide +kernel
theorem dX4_reached_126 : decode cX4_reached 126 = .ok (.goto (-104), 3) := by decide +kernel
theorem dX4_reached_129 : decode cX4_reached 129 = .ok (.goto (-121), 3) := by decide +kernel
theorem dX4_reached_132 : decode cX4_reached 132 = .ok (.iload 4, 2) := by decide +kernel
theorem dX4_reached_134 : decode cX4_reached 134 = .ok (.ireturn, 1) := by decide +kernel
theorem dX4_wantsOf_0 : decode cX4_wantsOf 0 = .ok (.aload_n 0, 1) := by decide +kernel
theorem dX4_wantsOf_1 : decode cX4_wantsOf 1 = .ok (.iload_n 1, 1) := by decide +kernel
theorem dX4_wantsOf_2 : decode cX4_wantsOf 2 = .ok (.invokevirtual 137, 3) := by decide +kernel
theorem dX4_wantsOf_5 : decode cX4_wantsOf 5 = .ok (.iconst 1, 1) := by decide +kernel
theorem dX4_wantsOf_6 : decode cX4_wantsOf 6 = .ok (.if_icmp .ge 7, 3) := by decide +kernel
theorem dX4_wantsOf_9 : decode cX4_wantsOf 9 = .ok (.iconst 1, 1) := by decide +kernel
theorem dX4_wantsOf_10 : decode cX4_wantsOf 10 = .ok (.goto 8, 3) := by decide +kernel
theorem dX4_wantsOf_13 : decode cX4_wantsOf 13 = .ok (.aload_n 0, 1) := by decide +kernel
theorem dX4_wantsOf_14 : decode cX4_wantsOf 14 = .ok (.iload_n 1, 1) := by decide +kernel
theorem dX4_wantsOf_15 : decode cX4_wantsOf 15 = .ok (.invokevirtual 137, 3) := by decide +kernel
theorem dX4_wantsOf_18 : decode cX4_wantsOf 18 = .ok (.ireturn, 1) := by decide +kernel
theorem dX4_reachedBy_0 : decode cX4_reachedBy 0 = .ok (.aload_n 0, 1) := by decide +kernel
theorem dX4_reachedBy_1 : decode cX4_reachedBy 1 = .ok (.aload_n 0, 1) := by decide +kernel
theorem dX4_reachedBy_2 : decode cX4_reachedBy 2 = .ok (.getfield 28, 3) := by decide +kernel
theorem dX4_reachedBy_5 : decode cX4_reachedBy 5 = .ok (.iload_n 1, 1) := by decide +kernel
theorem dX4_reachedBy_6 : decode cX4_reachedBy 6 = .ok (.iaload, 1) := by decide +kernel
theorem dX4_reachedBy_7 : decode cX4_reachedBy 7 = .ok (.aload_n 0, 1) := by decide +kernel
theorem dX4_reachedBy_8 : decode cX4_reachedBy 8 = .ok (.iload_n 1, 1) := by decide +kernel
theorem dX4_reachedBy_9 : decode cX4_reachedBy 9 = .ok (.invokevirtual 189, 3) := by decide +kernel
theorem dX4_reachedBy_12 : decode cX4_reachedBy 12 = .ok (.iconst 0, 1) := by decide +kernel
theorem dX4_reachedBy_13 : decode cX4_reachedBy 13 = .ok (.invokevirtual 192, 3) := by decide +kernel
theorem dX4_reachedBy_16 : decode cX4_reachedBy 16 = .ok (.ireturn, 1) := by decide +kernel
theorem dX4_widest_0 : decode cX4_widest 0 = .ok (.aload_n 0, 1) := by decide +kernel
theorem dX4_widest_1 : decode cX4_widest 1 = .ok (.iload_n 1, 1) := by decide +kernel
theorem dX4_widest_2 : decode cX4_widest 2 = .ok (.iload_n 2, 1) := by decide +kernel
theorem dX4_widest_3 : decode cX4_widest 3 = .ok (.invokevirtual 143, 3) := by decide +kernel
theorem dX4_widest_6 : decode cX4_widest 6 = .ok (.ifCond .ne 5, 3) := by decide +kernel
theorem dX4_widest_9 : decode cX4_widest 9 = .ok (.iconst (-1), 1) := by decide +kernel
theorem dX4_widest_10 : decode cX4_widest 10 = .ok (.ireturn, 1) := by decide +kernel
theorem dX4_widest_11 : decode cX4_widest 11 = .ok (.bipush 9, 2) := by decide +kernel
theorem dX4_widest_13 : decode cX4_widest 13 = .ok (.istore_n 3, 1) := by decide +kernel
theorem dX4_widest_14 : decode cX4_widest 14 = .ok (.iload_n 3, 1) := by decide +kernel
theorem dX4_widest_15 : decode cX4_widest 15 = .ok (.ifCond .le 23, 3) := by decide +kernel
theorem dX4_widest_18 : decode cX4_widest 18 = .ok (.aload_n 0, 1) := by decide +kernel
theorem dX4_widest_19 : decode cX4_widest 19 = .ok (.iload_n 1, 1) := by decide +kernel
theorem dX4_widest_20 : decode cX4_widest 20 = .ok (.iload_n 3, 1) := by decide +kernel
theorem dX4_widest_21 : decode cX4_widest 21 = .ok (.iconst 0, 1) := by decide +kernel
theorem dX4_widest_22 : decode cX4_widest 22 = .ok (.invokevirtual 192, 3) := by decide +kernel
theorem dX4_widest_25 : decode cX4_widest 25 = .ok (.iload_n 2, 1) := by decide +kernel
theorem dX4_widest_26 : decode cX4_widest 26 = .ok (.invokestatic 156, 3) := by decide +kernel
theorem dX4_widest_29 : decode cX4_widest 29 = .ok (.ifCond .ne 9, 3) := by decide +kernel
theorem dX4_widest_32 : decode cX4_widest 32 = .ok (.iinc 3 (-1), 3) := by decide +kernel
theorem dX4_widest_35 : decode cX4_widest 35 = .ok (.goto (-21), 3) := by decide +kernel
theorem dX4_widest_38 : decode cX4_widest 38 = .ok (.iload_n 3, 1) := by decide +kernel
theorem dX4_widest_39 : decode cX4_widest 39 = .ok (.ireturn, 1) := by decide +kernel
theorem dX4_findFar_0 : decode cX4_findFar 0 = .ok (.iconst 0, 1) := by decide +kernel
theorem dX4_findFar_1 : decode cX4_findFar 1 = .ok (.istore_n 3, 1) := by decide +kernel
theorem dX4_findFar_2 : decode cX4_findFar 2 = .ok (.iload_n 3, 1) := by decide +kernel
theorem dX4_findFar_3 : decode cX4_findFar 3 = .ok (.aload_n 0, 1) := by decide +kernel
theorem dX4_findFar_4 : decode cX4_findFar 4 = .ok (.getfield 68, 3) := by decide +kernel
theorem dX4_findFar_7 : decode cX4_findFar 7 = .ok (.if_icmp .ge 26, 3) := by decide +kernel
theorem dX4_findFar_10 : decode cX4_findFar 10 = .ok (.aload_n 0, 1) := by decide +kernel
theorem dX4_findFar_11 : decode cX4_findFar 11 = .ok (.getfield 43, 3) := by decide +kernel
theorem dX4_findFar_14 : decode cX4_findFar 14 = .ok (.iload_n 3, 1) := by decide +kernel
theorem dX4_findFar_15 : decode cX4_findFar 15 = .ok (.iload_n 3, 1) := by decide +kernel
theorem dX4_findFar_16 : decode cX4_findFar 16 = .ok (.iload_n 2, 1) := by decide +kernel
theorem dX4_findFar_17 : decode cX4_findFar 17 = .ok (.if_icmp .ne 7, 3) := by decide +kernel
theorem dX4_findFar_20 : decode cX4_findFar 20 = .ok (.iconst 0, 1) := by decide +kernel
theorem dX4_findFar_21 : decode cX4_findFar 21 = .ok (.goto 5, 3) := by decide +kernel
theorem dX4_findFar_24 : decode cX4_findFar 24 = .ok (.bipush (-9), 2) := by decide +kernel
theorem dX4_findFar_26 : decode cX4_findFar 26 = .ok (.iastore, 1) := by decide +kernel
theorem dX4_findFar_27 : decode cX4_findFar 27 = .ok (.iinc 3 1, 3) := by decide +kernel
theorem dX4_findFar_30 : decode cX4_findFar 30 = .ok (.goto (-28), 3) := by decide +kernel
theorem dX4_findFar_33 : decode cX4_findFar 33 = .ok (.iconst 0, 1) := by decide +kernel
theorem dX4_findFar_34 : decode cX4_findFar 34 = .ok (.istore_n 3, 1) := by decide +kernel
theorem dX4_findFar_35 : decode cX4_findFar 35 = .ok (.iload_n 3, 1) := by decide +kernel
theorem dX4_findFar_36 : decode cX4_findFar 36 = .ok (.aload_n 0, 1) := by decide +kernel
theorem dX4_findFar_37 : decode cX4_findFar 37 = .ok (.getfield 68, 3) := by decide +kernel
theorem dX4_findFar_40 : decode cX4_findFar 40 = .ok (.if_icmp .ge 123, 3) := by decide +kernel
theorem dX4_findFar_43 : decode cX4_findFar 43 = .ok (.iconst 0, 1) := by decide +kernel
theorem dX4_findFar_44 : decode cX4_findFar 44 = .ok (.istore 4, 2) := by decide +kernel
theorem dX4_findFar_46 : decode cX4_findFar 46 = .ok (.iload 4, 2) := by decide +kernel
theorem dX4_findFar_48 : decode cX4_findFar 48 = .ok (.aload_n 0, 1) := by decide +kernel
theorem dX4_findFar_49 : decode cX4_findFar 49 = .ok (.getfield 68, 3) := by decide +kernel
theorem dX4_findFar_52 : decode cX4_findFar 52 = .ok (.if_icmp .ge 105, 3) := by decide +kernel
theorem dX4_findFar_55 : decode cX4_findFar 55 = .ok (.iconst 0, 1) := by decide +kernel
theorem dX4_findFar_56 : decode cX4_findFar 56 = .ok (.istore 5, 2) := by decide +kernel
theorem dX4_findFar_58 : decode cX4_findFar 58 = .ok (.iload 5, 2) := by decide +kernel
theorem dX4_findFar_60 : decode cX4_findFar 60 = .ok (.aload_n 0, 1) := by decide +kernel
theorem dX4_findFar_61 : decode cX4_findFar 61 = .ok (.getfield 68, 3) := by decide +kernel
theorem dX4_findFar_64 : decode cX4_findFar 64 = .ok (.if_icmp .ge 87, 3) := by decide +kernel
theorem dX4_findFar_67 : decode cX4_findFar 67 = .ok (.iload 4, 2) := by decide +kernel
theorem dX4_findFar_69 : decode cX4_findFar 69 = .ok (.iload 5, 2) := by decide +kernel
theorem dX4_findFar_71 : decode cX4_findFar 71 = .ok (.if_icmp .eq 46, 3) := by decide +kernel
theorem dX4_findFar_74 : decode cX4_findFar 74 = .ok (.aload_n 0, 1) := by decide +kernel
theorem dX4_findFar_75 : decode cX4_findFar 75 = .ok (.getfield 43, 3) := by decide +kernel
theorem dX4_findFar_78 : decode cX4_findFar 78 = .ok (.iload 4, 2) := by decide +kernel
theorem dX4_findFar_80 : decode cX4_findFar 80 = .ok (.iaload, 1) := by decide +kernel
theorem dX4_findFar_81 : decode cX4_findFar 81 = .ok (.iload_n 3, 1) := by decide +kernel
theorem dX4_findFar_82 : decode cX4_findFar 82 = .ok (.if_icmp .ne 35, 3) := by decide +kernel
theorem dX4_findFar_85 : decode cX4_findFar 85 = .ok (.aload_n 0, 1) := by decide +kernel
theorem dX4_findFar_86 : decode cX4_findFar 86 = .ok (.getfield 43, 3) := by decide +kernel
theorem dX4_findFar_89 : decode cX4_findFar 89 = .ok (.iload 5, 2) := by decide +kernel
theorem dX4_findFar_91 : decode cX4_findFar 91 = .ok (.iaload, 1) := by decide +kernel
theorem dX4_findFar_92 : decode cX4_findFar 92 = .ok (.bipush (-9), 2) := by decide +kernel
theorem dX4_findFar_94 : decode cX4_findFar 94 = .ok (.if_icmp .ne 23, 3) := by decide +kernel
theorem dX4_findFar_97 : decode cX4_findFar 97 = .ok (.aload_n 0, 1) := by decide +kernel
theorem dX4_findFar_98 : decode cX4_findFar 98 = .ok (.iload_n 1, 1) := by decide +kernel
theorem dX4_findFar_99 : decode cX4_findFar 99 = .ok (.aload_n 0, 1) := by decide +kernel
theorem dX4_findFar_100 : decode cX4_findFar 100 = .ok (.iload 4, 2) := by decide +kernel
theorem dX4_findFar_102 : decode cX4_findFar 102 = .ok (.iload 5, 2) := by decide +kernel
theorem dX4_findFar_104 : decode cX4_findFar 104 = .ok (.invokevirtual 146, 3) := by decide +kernel
theorem dX4_findFar_107 : decode cX4_findFar 107 = .ok (.invokevirtual 150, 3) := by decide +kernel
theorem dX4_findFar_110 : decode cX4_findFar 110 = .ok (.ifCond .eq 7, 3) := by decide +kernel
theorem dX4_findFar_113 : decode cX4_findFar 113 = .ok (.iconst 1, 1) := by decide +kernel
theorem dX4_findFar_114 : decode cX4_findFar 114 = .ok (.goto 4, 3) := by decide +kernel
theorem dX4_findFar_117 : decode cX4_findFar 117 = .ok (.iconst 0, 1) := by decide +kernel
theorem dX4_findFar_118 : decode cX4_findFar 118 = .ok (.istore 6, 2) := by decide +kernel
theorem dX4_findFar_120 : decode cX4_findFar 120 = .ok (.aload_n 0, 1) := by decide +kernel
theorem dX4_findFar_121 : decode cX4_findFar 121 = .ok (.getfield 43, 3) := by decide +kernel
theorem dX4_findFar_124 : decode cX4_findFar 124 = .ok (.iload 5, 2) := by decide +kernel
theorem dX4_findFar_126 : decode cX4_findFar 126 = .ok (.iload 6, 2) := by decide +kernel
theorem dX4_findFar_128 : decode cX4_findFar 128 = .ok (.ifCond .eq 9, 3) := by decide +kernel
theorem dX4_findFar_131 : decode cX4_findFar 131 = .ok (.iload_n 3, 1) := by decide +kernel
theorem dX4_findFar_132 : decode cX4_findFar 132 = .ok (.iconst 1, 1) := by decide +kernel
theorem dX4_findFar_133 : decode cX4_findFar 133 = .ok (.iadd, 1) := by decide +kernel
theorem dX4_findFar_134 : decode cX4_findFar 134 = .ok (.goto 10, 3) := by decide +kernel
theorem dX4_findFar_137 : decode cX4_findFar 137 = .ok (.aload_n 0, 1) := by decide +kernel
theorem dX4_findFar_138 : decode cX4_findFar 138 = .ok (.getfield 43, 3) := by decide +kernel
theorem dX4_findFar_141 : decode cX4_findFar 141 = .ok (.iload 5, 2) := by decide +kernel
theorem dX4_findFar_143 : decode cX4_findFar 143 = .ok (.iaload, 1) := by decide +kernel
theorem dX4_findFar_144 : decode cX4_findFar 144 = .ok (.iastore, 1) := by decide +kernel
theorem dX4_findFar_145 : decode cX4_findFar 145 = .ok (.iinc 5 1, 3) := by decide +kernel
theorem dX4_findFar_148 : decode cX4_findFar 148 = .ok (.goto (-90), 3) := by decide +kernel
theorem dX4_findFar_151 : decode cX4_findFar 151 = .ok (.iinc 4 1, 3) := by decide +kernel
theorem dX4_findFar_154 : decode cX4_findFar 154 = .ok (.goto (-108), 3) := by decide +kernel
theorem dX4_findFar_157 : decode cX4_findFar 157 = .ok (.iinc 3 1, 3) := by decide +kernel
theorem dX4_findFar_160 : decode cX4_findFar 160 = .ok (.goto (-125), 3) := by decide +kernel
theorem dX4_findFar_163 : decode cX4_findFar 163 = .ok (.return_, 1) := by decide +kernel
theorem dX4_way_0 : decode cX4_way 0 = .ok (.aload_n 0, 1) := by decide +kernel
theorem dX4_way_1 : decode cX4_way 1 = .ok (.iload_n 1, 1) := by decide +kernel
theorem dX4_way_2 : decode cX4_way 2 = .ok (.invokevirtual 140, 3) := by decide +kernel
theorem dX4_way_5 : decode cX4_way 5 = .ok (.ifCond .eq 11, 3) := by decide +kernel
theorem dX4_way_8 : decode cX4_way 8 = .ok (.aload_n 0, 1) := by decide +kernel
theorem dX4_way_9 : decode cX4_way 9 = .ok (.iload_n 2, 1) := by decide +kernel
theorem dX4_way_10 : decode cX4_way 10 = .ok (.invokevirtual 71, 3) := by decide +kernel
theorem dX4_way_13 : decode cX4_way 13 = .ok (.ifCond .ne 5, 3) := by decide +kernel
theorem dX4_way_16 : decode cX4_way 16 = .ok (.iconst (-1), 1) := by decide +kernel
theorem dX4_way_17 : decode cX4_way 17 = .ok (.ireturn, 1) := by decide +kernel
theorem dX4_way_18 : decode cX4_way 18 = .ok (.iload_n 3, 1) := by decide +kernel
theorem dX4_way_19 : decode cX4_way 19 = .ok (.iconst (-1), 1) := by decide +kernel
theorem dX4_way_20 : decode cX4_way 20 = .ok (.iconst 4, 1) := by decide +kernel
theorem dX4_way_21 : decode cX4_way 21 = .ok (.invokestatic 64, 3) := by decide +kernel
theorem dX4_way_24 : decode cX4_way 24 = .ok (.ifCond .ne 6, 3) := by decide +kernel
theorem dX4_way_27 : decode cX4_way 27 = .ok (.bipush (-2), 2) := by decide +kernel
theorem dX4_way_29 : decode cX4_way 29 = .ok (.ireturn, 1) := by decide +kernel
theorem dX4_way_30 : decode cX4_way 30 = .ok (.aload_n 0, 1) := by decide +kernel
theorem dX4_way_31 : decode cX4_way 31 = .ok (.iload_n 1, 1) := by decide +kernel
theorem dX4_way_32 : decode cX4_way 32 = .ok (.iload_n 2, 1) := by decide +kernel
theorem dX4_way_33 : decode cX4_way 33 = .ok (.invokevirtual 195, 3) := by decide +kernel
theorem dX4_way_36 : decode cX4_way 36 = .ok (.aload_n 0, 1) := by decide +kernel
theorem dX4_way_37 : decode cX4_way 37 = .ok (.getfield 28, 3) := by decide +kernel
theorem dX4_way_40 : decode cX4_way 40 = .ok (.iload_n 1, 1) := by decide +kernel
theorem dX4_way_41 : decode cX4_way 41 = .ok (.iaload, 1) := by decide +kernel
theorem dX4_way_42 : decode cX4_way 42 = .ok (.istore 4, 2) := by decide +kernel
theorem dX4_way_44 : decode cX4_way 44 = .ok (.aload_n 0, 1) := by decide +kernel
theorem dX4_way_45 : decode cX4_way 45 = .ok (.getfield 43, 3) := by decide +kernel
theorem dX4_way_48 : decode cX4_way 48 = .ok (.iload 4, 2) := by decide +kernel
theorem dX4_way_50 : decode cX4_way 50 = .ok (.iaload, 1) := by decide +kernel
theorem dX4_way_51 : decode cX4_way 51 = .ok (.bipush (-9), 2) := by decide +kernel
theorem dX4_way_53 : decode cX4_way 53 = .ok (.if_icmp .eq 14, 3) := by decide +kernel
theorem dX4_way_56 : decode cX4_way 56 = .ok (.iload_n 3, 1) := by decide +kernel
theorem dX4_way_57 : decode cX4_way 57 = .ok (.aload_n 0, 1) := by decide +kernel
theorem dX4_way_58 : decode cX4_way 58 = .ok (.getfield 43, 3) := by decide +kernel
theorem dX4_way_61 : decode cX4_way 61 = .ok (.iload 4, 2) := by decide +kernel
theorem dX4_way_63 : decode cX4_way 63 = .ok (.iaload, 1) := by decide +kernel
theorem dX4_way_64 : decode cX4_way 64 = .ok (.if_icmp .le 6, 3) := by decide +kernel
theorem dX4_way_67 : decode cX4_way 67 = .ok (.bipush (-9), 2) := by decide +kernel
theorem dX4_way_69 : decode cX4_way 69 = .ok (.ireturn, 1) := by decide +kernel
theorem dX4_way_70 : decode cX4_way 70 = .ok (.iload_n 3, 1) := by decide +kernel
theorem dX4_way_71 : decode cX4_way 71 = .ok (.iconst (-1), 1) := by decide +kernel
theorem dX4_way_72 : decode cX4_way 72 = .ok (.if_icmp .ne 13, 3) := by decide +kernel
theorem dX4_way_75 : decode cX4_way 75 = .ok (.aload_n 0, 1) := by decide +kernel
theorem dX4_way_76 : decode cX4_way 76 = .ok (.getfield 43, 3) := by decide +kernel
theorem dX4_way_79 : decode cX4_way 79 = .ok (.iload 4, 2) := by decide +kernel
theorem dX4_way_81 : decode cX4_way 81 = .ok (.iaload, 1) := by decide +kernel
theorem dX4_way_82 : decode cX4_way 82 = .ok (.iconst 1, 1) := by decide +kernel
theorem dX4_way_83 : decode cX4_way 83 = .ok (.iadd, 1) := by decide +kernel
theorem dX4_way_84 : decode cX4_way 84 = .ok (.ireturn, 1) := by decide +kernel
theorem dX4_way_85 : decode cX4_way 85 = .ok (.iconst 0, 1) := by decide +kernel
theorem dX4_way_86 : decode cX4_way 86 = .ok (.istore 5, 2) := by decide +kernel
theorem dX4_way_88 : decode cX4_way 88 = .ok (.iload 5, 2) := by decide +kernel
theorem dX4_way_90 : decode cX4_way 90 = .ok (.iload_n 3, 1) := by decide +kernel
theorem dX4_way_91 : decode cX4_way 91 = .ok (.if_icmp .ge 64, 3) := by decide +kernel
theorem dX4_way_94 : decode cX4_way 94 = .ok (.iconst 0, 1) := by decide +kernel
theorem dX4_way_95 : decode cX4_way 95 = .ok (.istore 6, 2) := by decide +kernel
theorem dX4_way_97 : decode cX4_way 97 = .ok (.iload 6, 2) := by decide +kernel
theorem dX4_way_99 : decode cX4_way 99 = .ok (.iload 4, 2) := by decide +kernel
theorem dX4_way_101 : decode cX4_way 101 = .ok (.if_icmp .eq 38, 3) := by decide +kernel
theorem dX4_way_104 : decode cX4_way 104 = .ok (.aload_n 0, 1) := by decide +kernel
theorem dX4_way_105 : decode cX4_way 105 = .ok (.getfield 43, 3) := by decide +kernel
theorem dX4_way_108 : decode cX4_way 108 = .ok (.iload 6, 2) := by decide +kernel
theorem dX4_way_110 : decode cX4_way 110 = .ok (.iaload, 1) := by decide +kernel
theorem dX4_way_111 : decode cX4_way 111 = .ok (.aload_n 0, 1) := by decide +kernel
theorem dX4_way_112 : decode cX4_way 112 = .ok (.getfield 43, 3) := by decide +kernel
theorem dX4_way_115 : decode cX4_way 115 = .ok (.iload 4, 2) := by decide +kernel
theorem dX4_way_117 : decode cX4_way 117 = .ok (.iaload, 1) := by decide +kernel
theorem dX4_way_118 : decode cX4_way 118 = .ok (.iconst 1, 1) := by decide +kernel
theorem dX4_way_119 : decode cX4_way 119 = .ok (.isub, 1) := by decide +kernel
theorem dX4_way_120 : decode cX4_way 120 = .ok (.if_icmp .ne 19, 3) := by decide +kernel
theorem dX4_way_123 : decode cX4_way 123 = .ok (.aload_n 0, 1) := by decide +kernel
theorem dX4_way_124 : decode cX4_way 124 = .ok (.iload_n 1, 1) := by decide +kernel
theorem dX4_way_125 : decode cX4_way 125 = .ok (.aload_n 0, 1) := by decide +kernel
theorem dX4_way_126 : decode cX4_way 126 = .ok (.iload 4, 2) := by decide +kernel
theorem dX4_way_128 : decode cX4_way 128 = .ok (.iload 6, 2) := by decide +kernel
theorem dX4_way_130 : decode cX4_way 130 = .ok (.invokevirtual 146, 3) := by decide +kernel
theorem dX4_way_133 : decode cX4_way 133 = .ok (.invokevirtual 150, 3) := by decide +kernel
theorem dX4_way_136 : decode cX4_way 136 = .ok (.ifCond .ne 9, 3) := by decide +kernel
theorem dX4_way_139 : decode cX4_way 139 = .ok (.iinc 6 1, 3) := by decide +kernel
theorem dX4_way_142 : decode cX4_way 142 = .ok (.goto (-45), 3) := by decide +kernel
theorem dX4_way_145 : decode cX4_way 145 = .ok (.iload 6, 2) := by decide +kernel
theorem dX4_way_147 : decode cX4_way 147 = .ok (.istore 4, 2) := by decide +kernel
theorem dX4_way_149 : decode cX4_way 149 = .ok (.iinc 5 1, 3) := by decide +kernel
theorem dX4_way_152 : decode cX4_way 152 = .ok (.goto (-64), 3) := by decide +kernel
theorem dX4_way_155 : decode cX4_way 155 = .ok (.iload 4, 2) := by decide +kernel
theorem dX4_way_157 : decode cX4_way 157 = .ok (.ireturn, 1) := by decide +kernel
theorem dX4_market_0 : decode cX4_market 0 = .ok (.iload_n 1, 1) := by decide +kernel
theorem dX4_market_1 : decode cX4_market 1 = .ok (.iconst 0, 1) := by decide +kernel
theorem dX4_market_2 : decode cX4_market 2 = .ok (.iconst 1, 1) := by decide +kernel
theorem dX4_market_3 : decode cX4_market 3 = .ok (.invokestatic 64, 3) := by decide +kernel
theorem dX4_market_6 : decode cX4_market 6 = .ok (.ifCond .ne 6, 3) := by decide +kernel
theorem dX4_market_9 : decode cX4_market 9 = .ok (.bipush (-2), 2) := by decide +kernel
theorem dX4_market_11 : decode cX4_market 11 = .ok (.ireturn, 1) := by decide +kernel
theorem dX4_market_12 : decode cX4_market 12 = .ok (.aload_n 0, 1) := by decide +kernel
theorem dX4_market_13 : decode cX4_market 13 = .ok (.getfield 68, 3) := by decide +kernel
theorem dX4_market_16 : decode cX4_market 16 = .ok (.ifCond .ne 6, 3) := by decide +kernel
theorem dX4_market_19 : decode cX4_market 19 = .ok (.bipush (-3), 2) := by decide +kernel
theorem dX4_market_21 : decode cX4_market 21 = .ok (.ireturn, 1) := by decide +kernel
theorem dX4_market_22 : decode cX4_market 22 = .ok (.iconst 0, 1) := by decide +kernel
theorem dX4_market_23 : decode cX4_market 23 = .ok (.istore_n 2, 1) := by decide +kernel
theorem dX4_market_24 : decode cX4_market 24 = .ok (.iconst 0, 1) := by decide +kernel
theorem dX4_market_25 : decode cX4_market 25 = .ok (.istore_n 3, 1) := by decide +kernel
theorem dX4_market_26 : decode cX4_market 26 = .ok (.iconst 0, 1) := by decide +kernel
theorem dX4_market_27 : decode cX4_market 27 = .ok (.istore 4, 2) := by decide +kernel
theorem dX4_market_29 : decode cX4_market 29 = .ok (.iload 4, 2) := by decide +kernel
theorem dX4_market_31 : decode cX4_market 31 = .ok (.aload_n 0, 1) := by decide +kernel
theorem dX4_market_32 : decode cX4_market 32 = .ok (.getfield 68, 3) := by decide +kernel
theorem dX4_market_35 : decode cX4_market 35 = .ok (.if_icmp .ge 80, 3) := by decide +kernel
theorem dX4_market_38 : decode cX4_market 38 = .ok (.iconst 0, 1) := by decide +kernel
theorem dX4_market_39 : decode cX4_market 39 = .ok (.istore 5, 2) := by decide +kernel
theorem dX4_market_41 : decode cX4_market 41 = .ok (.iconst 0, 1) := by decide +kernel
theorem dX4_market_42 : decode cX4_market 42 = .ok (.istore 6, 2) := by decide +kernel
theorem dX4_market_44 : decode cX4_market 44 = .ok (.iload 6, 2) := by decide +kernel
theorem dX4_market_46 : decode cX4_market 46 = .ok (.aload_n 0, 1) := by decide +kernel
theorem dX4_market_47 : decode cX4_market 47 = .ok (.getfield 75, 3) := by decide +kernel
theorem dX4_market_50 : decode cX4_market 50 = .ok (.if_icmp .ge 36, 3) := by decide +kernel
theorem dX4_market_53 : decode cX4_market 53 = .ok (.iload 5, 2) := by decide +kernel
theorem dX4_market_55 : decode cX4_market 55 = .ok (.aload_n 0, 1) := by decide +kernel
theorem dX4_market_56 : decode cX4_market 56 = .ok (.iload 6, 2) := by decide +kernel
theorem dX4_market_58 : decode cX4_market 58 = .ok (.invokevirtual 199, 3) := by decide +kernel
theorem dX4_market_61 : decode cX4_market 61 = .ok (.iload 4, 2) := by decide +kernel
theorem dX4_market_63 : decode cX4_market 63 = .ok (.invokestatic 156, 3) := by decide +kernel
theorem dX4_market_66 : decode cX4_market 66 = .ok (.ifCond .eq 10, 3) := by decide +kernel
theorem dX4_market_69 : decode cX4_market 69 = .ok (.iconst 1, 1) := by decide +kernel
theorem dX4_market_70 : decode cX4_market 70 = .ok (.iload 6, 2) := by decide +kernel
theorem dX4_market_72 : decode cX4_market 72 = .ok (.ishl, 1) := by decide +kernel
theorem dX4_market_73 : decode cX4_market 73 = .ok (.goto 4, 3) := by decide +kernel
theorem dX4_market_76 : decode cX4_market 76 = .ok (.iconst 0, 1) := by decide +kernel
theorem dX4_market_77 : decode cX4_market 77 = .ok (.ior, 1) := by decide +kernel
theorem dX4_market_78 : decode cX4_market 78 = .ok (.istore 5, 2) := by decide +kernel
theorem dX4_market_80 : decode cX4_market 80 = .ok (.iinc 6 1, 3) := by decide +kernel
theorem dX4_market_83 : decode cX4_market 83 = .ok (.goto (-39), 3) := by decide +kernel
theorem dX4_market_86 : decode cX4_market 86 = .ok (.iload 4, 2) := by decide +kernel
theorem dX4_market_88 : decode cX4_market 88 = .ok (.ifCond .eq 15, 3) := by decide +kernel
theorem dX4_market_91 : decode cX4_market 91 = .ok (.iload 5, 2) := by decide +kernel
theorem dX4_market_93 : decode cX4_market 93 = .ok (.invokestatic 202, 3) := by decide +kernel
theorem dX4_market_96 : decode cX4_market 96 = .ok (.iload_n 3, 1) := by decide +kernel
theorem dX4_market_97 : decode cX4_market 97 = .ok (.invokestatic 202, 3) := by decide +kernel
theorem dX4_market_100 : decode cX4_market 100 = .ok (.if_icmp .le 9, 3) := by decide +kernel
theorem dX4_market_103 : decode cX4_market 103 = .ok (.iload 4, 2) := by decide +kernel
theorem dX4_market_105 : decode cX4_market 105 = .ok (.istore_n 2, 1) := by decide +kernel
theorem dX4_market_106 : decode cX4_market 106 = .ok (.iload 5, 2) := by decide +kernel
theorem dX4_market_108 : decode cX4_market 108 = .ok (.istore_n 3, 1) := by decide +kernel
theorem dX4_market_109 : decode cX4_market 109 = .ok (.iinc 4 1, 3) := by decide +kernel
theorem dX4_market_112 : decode cX4_market 112 = .ok (.goto (-83), 3) := by decide +kernel
theorem dX4_market_115 : decode cX4_market 115 = .ok (.iload_n 1, 1) := by decide +kernel
theorem dX4_market_116 : decode cX4_market 116 = .ok (.ifCond .ne 7, 3) := by decide +kernel
theorem dX4_market_119 : decode cX4_market 119 = .ok (.iload_n 2, 1) := by decide +kernel
theorem dX4_market_120 : decode cX4_market 120 = .ok (.goto 4, 3) := by decide +kernel
theorem dX4_market_123 : decode cX4_market 123 = .ok (.iload_n 3, 1) := by decide +kernel
theorem dX4_market_124 : decode cX4_market 124 = .ok (.ireturn, 1) := by decide +kernel
theorem dX4_widen_0 : decode cX4_widen 0 = .ok (.aload_n 0, 1) := by decide +kernel
theorem dX4_widen_1 : decode cX4_widen 1 = .ok (.iload_n 1, 1) := by decide +kernel
theorem dX4_widen_2 : decode cX4_widen 2 = .ok (.invokevirtual 140, 3) := by decide +kernel
theorem dX4_widen_5 : decode cX4_widen 5 = .ok (.ifCond .eq 11, 3) := by decide +kernel
theorem dX4_widen_8 : decode cX4_widen 8 = .ok (.aload_n 0, 1) := by decide +kernel
theorem dX4_widen_9 : decode cX4_widen 9 = .ok (.iload_n 2, 1) := by decide +kernel
theorem dX4_widen_10 : decode cX4_widen 10 = .ok (.invokevirtual 71, 3) := by decide +kernel
theorem dX4_widen_13 : decode cX4_widen 13 = .ok (.ifCond .ne 5, 3) := by decide +kernel
theorem dX4_widen_16 : decode cX4_widen 16 = .ok (.iconst (-1), 1) := by decide +kernel
theorem dX4_widen_17 : decode cX4_widen 17 = .ok (.ireturn, 1) := by decide +kernel
theorem dX4_widen_18 : decode cX4_widen 18 = .ok (.iconst 0, 1) := by decide +kernel
theorem dX4_widen_19 : decode cX4_widen 19 = .ok (.istore_n 3, 1) := by decide +kernel
theorem dX4_widen_20 : decode cX4_widen 20 = .ok (.iload_n 3, 1) := by decide +kernel
theorem dX4_widen_21 : decode cX4_widen 21 = .ok (.aload_n 0, 1) := by decide +kernel
theorem dX4_widen_22 : decode cX4_widen 22 = .ok (.getfield 68, 3) := by decide +kernel
theorem dX4_widen_25 : decode cX4_widen 25 = .ok (.if_icmp .ge 31, 3) := by decide +kernel
theorem dX4_widen_28 : decode cX4_widen 28 = .ok (.aload_n 0, 1) := by decide +kernel
theorem dX4_widen_29 : decode cX4_widen 29 = .ok (.getfield 46, 3) := by decide +kernel
theorem dX4_widen_32 : decode cX4_widen 32 = .ok (.iload_n 3, 1) := by decide +kernel
theorem dX4_widen_33 : decode cX4_widen 33 = .ok (.iload_n 3, 1) := by decide +kernel
theorem dX4_widen_34 : decode cX4_widen 34 = .ok (.aload_n 0, 1) := by decide +kernel
theorem dX4_widen_35 : decode cX4_widen 35 = .ok (.getfield 28, 3) := by decide +kernel
theorem dX4_widen_38 : decode cX4_widen 38 = .ok (.iload_n 1, 1) := by decide +kernel
theorem dX4_widen_39 : decode cX4_widen 39 = .ok (.iaload, 1) := by decide +kernel
theorem dX4_widen_40 : decode cX4_widen 40 = .ok (.if_icmp .ne 7, 3) := by decide +kernel
theorem dX4_widen_43 : decode cX4_widen 43 = .ok (.iconst 0, 1) := by decide +kernel
theorem dX4_widen_44 : decode cX4_widen 44 = .ok (.goto 5, 3) := by decide +kernel
theorem dX4_widen_47 : decode cX4_widen 47 = .ok (.bipush (-9), 2) := by decide +kernel
theorem dX4_widen_49 : decode cX4_widen 49 = .ok (.iastore, 1) := by decide +kernel
theorem dX4_widen_50 : decode cX4_widen 50 = .ok (.iinc 3 1, 3) := by decide +kernel
theorem dX4_widen_53 : decode cX4_widen 53 = .ok (.goto (-33), 3) := by decide +kernel
theorem dX4_widen_56 : decode cX4_widen 56 = .ok (.iconst 0, 1) := by decide +kernel
theorem dX4_widen_57 : decode cX4_widen 57 = .ok (.istore_n 3, 1) := by decide +kernel
theorem dX4_widen_58 : decode cX4_widen 58 = .ok (.iload_n 3, 1) := by decide +kernel
theorem dX4_widen_59 : decode cX4_widen 59 = .ok (.aload_n 0, 1) := by decide +kernel
theorem dX4_widen_60 : decode cX4_widen 60 = .ok (.getfield 68, 3) := by decide +kernel
theorem dX4_widen_63 : decode cX4_widen 63 = .ok (.if_icmp .ge 154, 3) := by decide +kernel
theorem dX4_widen_66 : decode cX4_widen 66 = .ok (.iconst 0, 1) := by decide +kernel
theorem dX4_widen_67 : decode cX4_widen 67 = .ok (.istore 4, 2) := by decide +kernel
theorem dX4_widen_69 : decode cX4_widen 69 = .ok (.iload 4, 2) := by decide +kernel
theorem dX4_widen_71 : decode cX4_widen 71 = .ok (.aload_n 0, 1) := by decide +kernel
theorem dX4_widen_72 : decode cX4_widen 72 = .ok (.getfield 68, 3) := by decide +kernel
theorem dX4_widen_75 : decode cX4_widen 75 = .ok (.if_icmp .ge 136, 3) := by decide +kernel
theorem dX4_widen_78 : decode cX4_widen 78 = .ok (.iconst 0, 1) := by decide +kernel
theorem dX4_widen_79 : decode cX4_widen 79 = .ok (.istore 5, 2) := by decide +kernel
theorem dX4_widen_81 : decode cX4_widen 81 = .ok (.iload 5, 2) := by decide +kernel
theorem dX4_widen_83 : decode cX4_widen 83 = .ok (.aload_n 0, 1) := by decide +kernel
theorem dX4_widen_84 : decode cX4_widen 84 = .ok (.getfield 68, 3) := by decide +kernel
theorem dX4_widen_87 : decode cX4_widen 87 = .ok (.if_icmp .ge 118, 3) := by decide +kernel
theorem dX4_widen_90 : decode cX4_widen 90 = .ok (.iload 4, 2) := by decide +kernel
theorem dX4_widen_92 : decode cX4_widen 92 = .ok (.iload 5, 2) := by decide +kernel
theorem dX4_widen_94 : decode cX4_widen 94 = .ok (.if_icmp .eq 105, 3) := by decide +kernel
theorem dX4_widen_97 : decode cX4_widen 97 = .ok (.aload_n 0, 1) := by decide +kernel
theorem dX4_widen_98 : decode cX4_widen 98 = .ok (.getfield 46, 3) := by decide +kernel
theorem dX4_widen_101 : decode cX4_widen 101 = .ok (.iload 4, 2) := by decide +kernel
theorem dX4_widen_103 : decode cX4_widen 103 = .ok (.iaload, 1) := by decide +kernel
theorem dX4_widen_104 : decode cX4_widen 104 = .ok (.bipush (-9), 2) := by decide +kernel
theorem dX4_widen_106 : decode cX4_widen 106 = .ok (.if_icmp .eq 93, 3) := by decide +kernel
theorem dX4_widen_109 : decode cX4_widen 109 = .ok (.aload_n 0, 1) := by decide +kernel
theorem dX4_widen_110 : decode cX4_widen 110 = .ok (.getfield 19, 3) := by decide +kernel
theorem dX4_widen_113 : decode cX4_widen 113 = .ok (.aload_n 0, 1) := by decide +kernel
theorem dX4_widen_114 : decode cX4_widen 114 = .ok (.iload 4, 2) := by decide +kernel
theorem dX4_widen_116 : decode cX4_widen 116 = .ok (.iload 5, 2) := by decide +kernel
theorem dX4_widen_118 : decode cX4_widen 118 = .ok (.invokevirtual 146, 3) := by decide +kernel
theorem dX4_widen_121 : decode cX4_widen 121 = .ok (.iaload, 1) := by decide +kernel
theorem dX4_widen_122 : decode cX4_widen 122 = .ok (.ifCond .le 77, 3) := by decide +kernel
theorem dX4_widen_125 : decode cX4_widen 125 = .ok (.aload_n 0, 1) := by decide +kernel
theorem dX4_widen_126 : decode cX4_widen 126 = .ok (.getfield 46, 3) := by decide +kernel
theorem dX4_widen_129 : decode cX4_widen 129 = .ok (.iload 4, 2) := by decide +kernel
theorem dX4_widen_131 : decode cX4_widen 131 = .ok (.iaload, 1) := by decide +kernel
theorem dX4_widen_132 : decode cX4_widen 132 = .ok (.aload_n 0, 1) := by decide +kernel
theorem dX4_widen_133 : decode cX4_widen 133 = .ok (.iload_n 1, 1) := by decide +kernel
theorem dX4_widen_134 : decode cX4_widen 134 = .ok (.aload_n 0, 1) := by decide +kernel
theorem dX4_widen_135 : decode cX4_widen 135 = .ok (.iload 4, 2) := by decide +kernel
theorem dX4_widen_137 : decode cX4_widen 137 = .ok (.iload 5, 2) := by decide +kernel
theorem dX4_widen_139 : decode cX4_widen 139 = .ok (.invokevirtual 146, 3) := by decide +kernel
theorem dX4_widen_142 : decode cX4_widen 142 = .ok (.invokevirtual 150, 3) := by decide +kernel
theorem dX4_widen_145 : decode cX4_widen 145 = .ok (.ifCond .eq 7, 3) := by decide +kernel
theorem dX4_widen_148 : decode cX4_widen 148 = .ok (.iconst 0, 1) := by decide +kernel
theorem dX4_widen_149 : decode cX4_widen 149 = .ok (.goto 4, 3) := by decide +kernel
theorem dX4_widen_152 : decode cX4_widen 152 = .ok (.iconst 1, 1) := by decide +kernel
theorem dX4_widen_153 : decode cX4_widen 153 = .ok (.iadd, 1) := by decide +kernel
theorem dX4_widen_154 : decode cX4_widen 154 = .ok (.istore 6, 2) := by decide +kernel
theorem dX4_widen_156 : decode cX4_widen 156 = .ok (.aload_n 0, 1) := by decide +kernel
theorem dX4_widen_157 : decode cX4_widen 157 = .ok (.getfield 46, 3) := by decide +kernel
theorem dX4_widen_160 : decode cX4_widen 160 = .ok (.iload 5, 2) := by decide +kernel
theorem dX4_widen_162 : decode cX4_widen 162 = .ok (.aload_n 0, 1) := by decide +kernel
theorem dX4_widen_163 : decode cX4_widen 163 = .ok (.getfield 46, 3) := by decide +kernel
theorem dX4_widen_166 : decode cX4_widen 166 = .ok (.iload 5, 2) := by decide +kernel
theorem dX4_widen_168 : decode cX4_widen 168 = .ok (.iaload, 1) := by decide +kernel
theorem dX4_widen_169 : decode cX4_widen 169 = .ok (.bipush (-9), 2) := by decide +kernel
theorem dX4_widen_171 : decode cX4_widen 171 = .ok (.if_icmp .eq 15, 3) := by decide +kernel
theorem dX4_widen_174 : decode cX4_widen 174 = .ok (.iload 6, 2) := by decide +kernel
theorem dX4_widen_176 : decode cX4_widen 176 = .ok (.aload_n 0, 1) := by decide +kernel
theorem dX4_widen_177 : decode cX4_widen 177 = .ok (.getfield 46, 3) := by decide +kernel
theorem dX4_widen_180 : decode cX4_widen 180 = .ok (.iload 5, 2) := by decide +kernel
theorem dX4_widen_182 : decode cX4_widen 182 = .ok (.iaload, 1) := by decide +kernel
theorem dX4_widen_183 : decode cX4_widen 183 = .ok (.if_icmp .ge 8, 3) := by decide +kernel
theorem dX4_widen_186 : decode cX4_widen 186 = .ok (.iload 6, 2) := by decide +kernel
theorem dX4_widen_188 : decode cX4_widen 188 = .ok (.goto 10, 3) := by decide +kernel
theorem dX4_widen_191 : decode cX4_widen 191 = .ok (.aload_n 0, 1) := by decide +kernel
theorem dX4_widen_192 : decode cX4_widen 192 = .ok (.getfield 46, 3) := by decide +kernel
theorem dX4_widen_195 : decode cX4_widen 195 = .ok (.iload 5, 2) := by decide +kernel
theorem dX4_widen_197 : decode cX4_widen 197 = .ok (.iaload, 1) := by decide +kernel
theorem dX4_widen_198 : decode cX4_widen 198 = .ok (.iastore, 1) := by decide +kernel
theorem dX4_widen_199 : decode cX4_widen 199 = .ok (.iinc 5 1, 3) := by decide +kernel
theorem dX4_widen_202 : decode cX4_widen 202 = .ok (.goto (-121), 3) := by decide +kernel
theorem dX4_widen_205 : decode cX4_widen 205 = .ok (.iinc 4 1, 3) := by decide +kernel
theorem dX4_widen_208 : decode cX4_widen 208 = .ok (.goto (-139), 3) := by decide +kernel
theorem dX4_widen_211 : decode cX4_widen 211 = .ok (.iinc 3 1, 3) := by decide +kernel
theorem dX4_widen_214 : decode cX4_widen 214 = .ok (.goto (-156), 3) := by decide +kernel
theorem dX4_widen_217 : decode cX4_widen 217 = .ok (.aload_n 0, 1) := by decide +kernel
theorem dX4_widen_218 : decode cX4_widen 218 = .ok (.getfield 46, 3) := by decide +kernel
theorem dX4_widen_221 : decode cX4_widen 221 = .ok (.iload_n 2, 1) := by decide +kernel
theorem dX4_widen_222 : decode cX4_widen 222 = .ok (.iaload, 1) := by decide +kernel
theorem dX4_widen_223 : decode cX4_widen 223 = .ok (.ireturn, 1) := by decide +kernel
theorem dX4_keep_0 : decode cX4_keep 0 = .ok (.aload_n 0, 1) := by decide +kernel
theorem dX4_keep_1 : decode cX4_keep 1 = .ok (.iload_n 1, 1) := by decide +kernel
theorem dX4_keep_2 : decode cX4_keep 2 = .ok (.invokevirtual 140, 3) := by decide +kernel
theorem dX4_keep_5 : decode cX4_keep 5 = .ok (.ifCond .eq 11, 3) := by decide +kernel
theorem dX4_keep_8 : decode cX4_keep 8 = .ok (.aload_n 0, 1) := by decide +kernel
theorem dX4_keep_9 : decode cX4_keep 9 = .ok (.iload_n 2, 1) := by decide +kernel
theorem dX4_keep_10 : decode cX4_keep 10 = .ok (.invokevirtual 71, 3) := by decide +kernel
theorem dX4_keep_13 : decode cX4_keep 13 = .ok (.ifCond .ne 5, 3) := by decide +kernel
theorem dX4_keep_16 : decode cX4_keep 16 = .ok (.iconst (-1), 1) := by decide +kernel
theorem dX4_keep_17 : decode cX4_keep 17 = .ok (.ireturn, 1) := by decide +kernel
theorem dX4_keep_18 : decode cX4_keep 18 = .ok (.aload_n 0, 1) := by decide +kernel
theorem dX4_keep_19 : decode cX4_keep 19 = .ok (.getfield 28, 3) := by decide +kernel
theorem dX4_keep_22 : decode cX4_keep 22 = .ok (.iload_n 1, 1) := by decide +kernel
theorem dX4_keep_23 : decode cX4_keep 23 = .ok (.iaload, 1) := by decide +kernel
theorem dX4_keep_24 : decode cX4_keep 24 = .ok (.iload_n 2, 1) := by decide +kernel
theorem dX4_keep_25 : decode cX4_keep 25 = .ok (.if_icmp .ne 6, 3) := by decide +kernel
theorem dX4_keep_28 : decode cX4_keep 28 = .ok (.bipush (-9), 2) := by decide +kernel
theorem dX4_keep_30 : decode cX4_keep 30 = .ok (.ireturn, 1) := by decide +kernel
theorem dX4_keep_31 : decode cX4_keep 31 = .ok (.bipush (-9), 2) := by decide +kernel
theorem dX4_keep_33 : decode cX4_keep 33 = .ok (.istore_n 3, 1) := by decide +kernel
theorem dX4_keep_34 : decode cX4_keep 34 = .ok (.iconst 0, 1) := by decide +kernel
theorem dX4_keep_35 : decode cX4_keep 35 = .ok (.istore 4, 2) := by decide +kernel
theorem dX4_keep_37 : decode cX4_keep 37 = .ok (.iload 4, 2) := by decide +kernel
theorem dX4_keep_39 : decode cX4_keep 39 = .ok (.iconst 1, 1) := by decide +kernel
theorem dX4_keep_40 : decode cX4_keep 40 = .ok (.aload_n 0, 1) := by decide +kernel
theorem dX4_keep_41 : decode cX4_keep 41 = .ok (.invokevirtual 107, 3) := by decide +kernel
theorem dX4_keep_44 : decode cX4_keep 44 = .ok (.ishl, 1) := by decide +kernel
theorem dX4_keep_45 : decode cX4_keep 45 = .ok (.if_icmp .ge 66, 3) := by decide +kernel
theorem dX4_keep_48 : decode cX4_keep 48 = .ok (.iload_n 3, 1) := by decide +kernel
theorem dX4_keep_49 : decode cX4_keep 49 = .ok (.bipush (-9), 2) := by decide +kernel
theorem dX4_keep_51 : decode cX4_keep 51 = .ok (.if_icmp .eq 15, 3) := by decide +kernel
theorem dX4_keep_54 : decode cX4_keep 54 = .ok (.iload 4, 2) := by decide +kernel
theorem dX4_keep_56 : decode cX4_keep 56 = .ok (.invokestatic 202, 3) := by decide +kernel
theorem dX4_keep_59 : decode cX4_keep 59 = .ok (.iload_n 3, 1) := by decide +kernel
theorem dX4_keep_60 : decode cX4_keep 60 = .ok (.invokestatic 202, 3) := by decide +kernel
theorem dX4_keep_63 : decode cX4_keep 63 = .ok (.if_icmp .ge 7, 3) := by decide +kernel
theorem dX4_keep_66 : decode cX4_keep 66 = .ok (.iconst 1, 1) := by decide +kernel
theorem dX4_keep_67 : decode cX4_keep 67 = .ok (.goto 4, 3) := by decide +kernel
theorem dX4_keep_70 : decode cX4_keep 70 = .ok (.iconst 0, 1) := by decide +kernel
theorem dX4_keep_71 : decode cX4_keep 71 = .ok (.istore 5, 2) := by decide +kernel
theorem dX4_keep_73 : decode cX4_keep 73 = .ok (.iload 5, 2) := by decide +kernel
theorem dX4_keep_75 : decode cX4_keep 75 = .ok (.ifCond .eq 30, 3) := by decide +kernel
theorem dX4_keep_78 : decode cX4_keep 78 = .ok (.aload_n 0, 1) := by decide +kernel
theorem dX4_keep_79 : decode cX4_keep 79 = .ok (.aload_n 0, 1) := by decide +kernel
theorem dX4_keep_80 : decode cX4_keep 80 = .ok (.getfield 28, 3) := by decide +kernel
theorem dX4_keep_83 : decode cX4_keep 83 = .ok (.iload_n 1, 1) := by decide +kernel
theorem dX4_keep_84 : decode cX4_keep 84 = .ok (.iaload, 1) := by decide +kernel
theorem dX4_keep_85 : decode cX4_keep 85 = .ok (.aload_n 0, 1) := by decide +kernel
theorem dX4_keep_86 : decode cX4_keep 86 = .ok (.iload_n 1, 1) := by decide +kernel
theorem dX4_keep_87 : decode cX4_keep 87 = .ok (.invokevirtual 189, 3) := by decide +kernel
theorem dX4_keep_90 : decode cX4_keep 90 = .ok (.iload 4, 2) := by decide +kernel
theorem dX4_keep_92 : decode cX4_keep 92 = .ok (.invokevirtual 192, 3) := by decide +kernel
theorem dX4_keep_95 : decode cX4_keep 95 = .ok (.iload_n 2, 1) := by decide +kernel
theorem dX4_keep_96 : decode cX4_keep 96 = .ok (.invokestatic 156, 3) := by decide +kernel
theorem dX4_keep_99 : decode cX4_keep 99 = .ok (.ifCond .ne 6, 3) := by decide +kernel
theorem dX4_keep_102 : decode cX4_keep 102 = .ok (.iload 4, 2) := by decide +kernel
theorem dX4_keep_104 : decode cX4_keep 104 = .ok (.istore_n 3, 1) := by decide +kernel
theorem dX4_keep_105 : decode cX4_keep 105 = .ok (.iinc 4 1, 3) := by decide +kernel
theorem dX4_keep_108 : decode cX4_keep 108 = .ok (.goto (-71), 3) := by decide +kernel
theorem dX4_keep_111 : decode cX4_keep 111 = .ok (.iload_n 3, 1) := by decide +kernel
theorem dX4_keep_112 : decode cX4_keep 112 = .ok (.ireturn, 1) := by decide +kernel
theorem dX4_reading_0 : decode cX4_reading 0 = .ok (.aload_n 0, 1) := by decide +kernel
theorem dX4_reading_1 : decode cX4_reading 1 = .ok (.iload_n 1, 1) := by decide +kernel
theorem dX4_reading_2 : decode cX4_reading 2 = .ok (.invokevirtual 140, 3) := by decide +kernel
theorem dX4_reading_5 : decode cX4_reading 5 = .ok (.ifCond .eq 12, 3) := by decide +kernel
theorem dX4_reading_8 : decode cX4_reading 8 = .ok (.aload_n 0, 1) := by decide +kernel
theorem dX4_reading_9 : decode cX4_reading 9 = .ok (.iload_n 2, 1) := by decide +kernel
theorem dX4_reading_10 : decode cX4_reading 10 = .ok (.iload_n 3, 1) := by decide +kernel
theorem dX4_reading_11 : decode cX4_reading 11 = .ok (.invokevirtual 143, 3) := by decide +kernel
theorem dX4_reading_14 : decode cX4_reading 14 = .ok (.ifCond .ne 5, 3) := by decide +kernel
theorem dX4_reading_17 : decode cX4_reading 17 = .ok (.iconst (-1), 1) := by decide +kernel
theorem dX4_reading_18 : decode cX4_reading 18 = .ok (.ireturn, 1) := by decide +kernel
theorem dX4_reading_19 : decode cX4_reading 19 = .ok (.iload 4, 2) := by decide +kernel
theorem dX4_reading_21 : decode cX4_reading 21 = .ok (.iconst 0, 1) := by decide +kernel
theorem dX4_reading_22 : decode cX4_reading 22 = .ok (.iconst 1, 1) := by decide +kernel
theorem dX4_reading_23 : decode cX4_reading 23 = .ok (.invokestatic 64, 3) := by decide +kernel
theorem dX4_reading_26 : decode cX4_reading 26 = .ok (.ifCond .ne 6, 3) := by decide +kernel
theorem dX4_reading_29 : decode cX4_reading 29 = .ok (.bipush (-2), 2) := by decide +kernel
theorem dX4_reading_31 : decode cX4_reading 31 = .ok (.ireturn, 1) := by decide +kernel
theorem dX4_reading_32 : decode cX4_reading 32 = .ok (.aload_n 0, 1) := by decide +kernel
theorem dX4_reading_33 : decode cX4_reading 33 = .ok (.getfield 123, 3) := by decide +kernel
theorem dX4_reading_36 : decode cX4_reading 36 = .ok (.bipush 8, 2) := by decide +kernel
theorem dX4_reading_38 : decode cX4_reading 38 = .ok (.if_icmp .ne 6, 3) := by decide +kernel
theorem dX4_reading_41 : decode cX4_reading 41 = .ok (.bipush (-4), 2) := by decide +kernel
theorem dX4_reading_43 : decode cX4_reading 43 = .ok (.ireturn, 1) := by decide +kernel
theorem dX4_reading_44 : decode cX4_reading 44 = .ok (.aload_n 0, 1) := by decide +kernel
theorem dX4_reading_45 : decode cX4_reading 45 = .ok (.getfield 49, 3) := by decide +kernel
theorem dX4_reading_48 : decode cX4_reading 48 = .ok (.aload_n 0, 1) := by decide +kernel
theorem dX4_reading_49 : decode cX4_reading 49 = .ok (.getfield 123, 3) := by decide +kernel
theorem dX4_reading_52 : decode cX4_reading 52 = .ok (.iload_n 1, 1) := by decide +kernel
theorem dX4_reading_53 : decode cX4_reading 53 = .ok (.iastore, 1) := by decide +kernel
theorem dX4_reading_54 : decode cX4_reading 54 = .ok (.aload_n 0, 1) := by decide +kernel
theorem dX4_reading_55 : decode cX4_reading 55 = .ok (.getfield 52, 3) := by decide +kernel
theorem dX4_reading_58 : decode cX4_reading 58 = .ok (.aload_n 0, 1) := by decide +kernel
theorem dX4_reading_59 : decode cX4_reading 59 = .ok (.getfield 123, 3) := by decide +kernel
theorem dX4_reading_62 : decode cX4_reading 62 = .ok (.aload_n 0, 1) := by decide +kernel
theorem dX4_reading_63 : decode cX4_reading 63 = .ok (.iload_n 2, 1) := by decide +kernel
theorem dX4_reading_64 : decode cX4_reading 64 = .ok (.iload_n 3, 1) := by decide +kernel
theorem dX4_reading_65 : decode cX4_reading 65 = .ok (.invokevirtual 146, 3) := by decide +kernel
theorem dX4_reading_68 : decode cX4_reading 68 = .ok (.iastore, 1) := by decide +kernel
theorem dX4_reading_69 : decode cX4_reading 69 = .ok (.aload_n 0, 1) := by decide +kernel
theorem dX4_reading_70 : decode cX4_reading 70 = .ok (.getfield 55, 3) := by decide +kernel
theorem dX4_reading_73 : decode cX4_reading 73 = .ok (.aload_n 0, 1) := by decide +kernel
theorem dX4_reading_74 : decode cX4_reading 74 = .ok (.getfield 123, 3) := by decide +kernel
theorem dX4_reading_77 : decode cX4_reading 77 = .ok (.iload 4, 2) := by decide +kernel
theorem dX4_reading_79 : decode cX4_reading 79 = .ok (.iastore, 1) := by decide +kernel
theorem dX4_reading_80 : decode cX4_reading 80 = .ok (.aload_n 0, 1) := by decide +kernel
theorem dX4_reading_81 : decode cX4_reading 81 = .ok (.dup, 1) := by decide +kernel
theorem dX4_reading_82 : decode cX4_reading 82 = .ok (.getfield 123, 3) := by decide +kernel
theorem dX4_reading_85 : decode cX4_reading 85 = .ok (.iconst 1, 1) := by decide +kernel
theorem dX4_reading_86 : decode cX4_reading 86 = .ok (.iadd, 1) := by decide +kernel
theorem dX4_reading_87 : decode cX4_reading 87 = .ok (.putfield 123, 3) := by decide +kernel
theorem dX4_reading_90 : decode cX4_reading 90 = .ok (.aload_n 0, 1) := by decide +kernel
theorem dX4_reading_91 : decode cX4_reading 91 = .ok (.getfield 123, 3) := by decide +kernel
theorem dX4_reading_94 : decode cX4_reading 94 = .ok (.iconst 1, 1) := by decide +kernel
theorem dX4_reading_95 : decode cX4_reading 95 = .ok (.isub, 1) := by decide +kernel
theorem dX4_reading_96 : decode cX4_reading 96 = .ok (.ireturn, 1) := by decide +kernel
theorem dX4_back_0 : decode cX4_back 0 = .ok (.iload_n 1, 1) := by decide +kernel
theorem dX4_back_1 : decode cX4_back 1 = .ok (.iconst 0, 1) := by decide +kernel
theorem dX4_back_2 : decode cX4_back 2 = .ok (.aload_n 0, 1) := by decide +kernel
theorem dX4_back_3 : decode cX4_back 3 = .ok (.getfield 123, 3) := by decide +kernel
theorem dX4_back_6 : decode cX4_back 6 = .ok (.invokestatic 64, 3) := by decide +kernel
theorem dX4_back_9 : decode cX4_back 9 = .ok (.ifCond .ne 6, 3) := by decide +kernel
theorem dX4_back_12 : decode cX4_back 12 = .ok (.bipush (-2), 2) := by decide +kernel
theorem dX4_back_14 : decode cX4_back 14 = .ok (.ireturn, 1) := by decide +kernel
theorem dX4_back_15 : decode cX4_back 15 = .ok (.aload_n 0, 1) := by decide +kernel
theorem dX4_back_16 : decode cX4_back 16 = .ok (.dup, 1) := by decide +kernel
theorem dX4_back_17 : decode cX4_back 17 = .ok (.getfield 123, 3) := by decide +kernel
theorem dX4_back_20 : decode cX4_back 20 = .ok (.iload_n 1, 1) := by decide +kernel
theorem dX4_back_21 : decode cX4_back 21 = .ok (.isub, 1) := by decide +kernel
theorem dX4_back_22 : decode cX4_back 22 = .ok (.putfield 123, 3) := by decide +kernel
theorem dX4_back_25 : decode cX4_back 25 = .ok (.aload_n 0, 1) := by decide +kernel
theorem dX4_back_26 : decode cX4_back 26 = .ok (.getfield 123, 3) := by decide +kernel
theorem dX4_back_29 : decode cX4_back 29 = .ok (.ireturn, 1) := by decide +kernel
theorem dX4_areSo_0 : decode cX4_areSo 0 = .ok (.iconst 0, 1) := by decide +kernel
theorem dX4_areSo_1 : decode cX4_areSo 1 = .ok (.istore_n 1, 1) := by decide +kernel
theorem dX4_areSo_2 : decode cX4_areSo 2 = .ok (.iload_n 1, 1) := by decide +kernel
theorem dX4_areSo_3 : decode cX4_areSo 3 = .ok (.aload_n 0, 1) := by decide +kernel
theorem dX4_areSo_4 : decode cX4_areSo 4 = .ok (.getfield 123, 3) := by decide +kernel
theorem dX4_areSo_7 : decode cX4_areSo 7 = .ok (.if_icmp .ge 46, 3) := by decide +kernel
theorem dX4_areSo_10 : decode cX4_areSo 10 = .ok (.aload_n 0, 1) := by decide +kernel
theorem dX4_areSo_11 : decode cX4_areSo 11 = .ok (.aload_n 0, 1) := by decide +kernel
theorem dX4_areSo_12 : decode cX4_areSo 12 = .ok (.getfield 49, 3) := by decide +kernel
theorem dX4_areSo_15 : decode cX4_areSo 15 = .ok (.iload_n 1, 1) := by decide +kernel
theorem dX4_areSo_16 : decode cX4_areSo 16 = .ok (.iaload, 1) := by decide +kernel
theorem dX4_areSo_17 : decode cX4_areSo 17 = .ok (.aload_n 0, 1) := by decide +kernel
theorem dX4_areSo_18 : decode cX4_areSo 18 = .ok (.getfield 52, 3) := by decide +kernel
theorem dX4_areSo_21 : decode cX4_areSo 21 = .ok (.iload_n 1, 1) := by decide +kernel
theorem dX4_areSo_22 : decode cX4_areSo 22 = .ok (.iaload, 1) := by decide +kernel
theorem dX4_areSo_23 : decode cX4_areSo 23 = .ok (.invokevirtual 150, 3) := by decide +kernel
theorem dX4_areSo_26 : decode cX4_areSo 26 = .ok (.ifCond .eq 7, 3) := by decide +kernel
theorem dX4_areSo_29 : decode cX4_areSo 29 = .ok (.iconst 1, 1) := by decide +kernel
theorem dX4_areSo_30 : decode cX4_areSo 30 = .ok (.goto 4, 3) := by decide +kernel
theorem dX4_areSo_33 : decode cX4_areSo 33 = .ok (.iconst 0, 1) := by decide +kernel
theorem dX4_areSo_34 : decode cX4_areSo 34 = .ok (.istore_n 2, 1) := by decide +kernel
theorem dX4_areSo_35 : decode cX4_areSo 35 = .ok (.iload_n 2, 1) := by decide +kernel
theorem dX4_areSo_36 : decode cX4_areSo 36 = .ok (.aload_n 0, 1) := by decide +kernel
theorem dX4_areSo_37 : decode cX4_areSo 37 = .ok (.getfield 55, 3) := by decide +kernel
theorem dX4_areSo_40 : decode cX4_areSo 40 = .ok (.iload_n 1, 1) := by decide +kernel
theorem dX4_areSo_41 : decode cX4_areSo 41 = .ok (.iaload, 1) := by decide +kernel
theorem dX4_areSo_42 : decode cX4_areSo 42 = .ok (.if_icmp .eq 5, 3) := by decide +kernel
theorem dX4_areSo_45 : decode cX4_areSo 45 = .ok (.iconst 0, 1) := by decide +kernel
theorem dX4_areSo_46 : decode cX4_areSo 46 = .ok (.ireturn, 1) := by decide +kernel
theorem dX4_areSo_47 : decode cX4_areSo 47 = .ok (.iinc 1 1, 3) := by decide +kernel
theorem dX4_areSo_50 : decode cX4_areSo 50 = .ok (.goto (-48), 3) := by decide +kernel
theorem dX4_areSo_53 : decode cX4_areSo 53 = .ok (.iconst 1, 1) := by decide +kernel
theorem dX4_areSo_54 : decode cX4_areSo 54 = .ok (.ireturn, 1) := by decide +kernel
theorem dX4_girths_0 : decode cX4_girths 0 = .ok (.aload_n 0, 1) := by decide +kernel
theorem dX4_girths_1 : decode cX4_girths 1 = .ok (.iload_n 1, 1) := by decide +kernel
theorem dX4_girths_2 : decode cX4_girths 2 = .ok (.invokevirtual 140, 3) := by decide +kernel
theorem dX4_girths_5 : decode cX4_girths 5 = .ok (.ifCond .ne 5, 3) := by decide +kernel
theorem dX4_girths_8 : decode cX4_girths 8 = .ok (.iconst (-1), 1) := by decide +kernel
theorem dX4_girths_9 : decode cX4_girths 9 = .ok (.ireturn, 1) := by decide +kernel
theorem dX4_girths_10 : decode cX4_girths 10 = .ok (.aload_n 0, 1) := by decide +kernel
theorem dX4_girths_11 : decode cX4_girths 11 = .ok (.getfield 25, 3) := by decide +kernel
theorem dX4_girths_14 : decode cX4_girths 14 = .ok (.iload_n 1, 1) := by decide +kernel
theorem dX4_girths_15 : decode cX4_girths 15 = .ok (.iaload, 1) := by decide +kernel
theorem dX4_girths_16 : decode cX4_girths 16 = .ok (.istore_n 2, 1) := by decide +kernel
theorem dX4_girths_17 : decode cX4_girths 17 = .ok (.iconst 0, 1) := by decide +kernel
theorem dX4_girths_18 : decode cX4_girths 18 = .ok (.istore_n 3, 1) := by decide +kernel
theorem dX4_girths_19 : decode cX4_girths 19 = .ok (.iconst 1, 1) := by decide +kernel
theorem dX4_girths_20 : decode cX4_girths 20 = .ok (.istore 4, 2) := by decide +kernel
theorem dX4_girths_22 : decode cX4_girths 22 = .ok (.iload 4, 2) := by decide +kernel
theorem dX4_girths_24 : decode cX4_girths 24 = .ok (.bipush 9, 2) := by decide +kernel
theorem dX4_girths_26 : decode cX4_girths 26 = .ok (.if_icmp .gt 35, 3) := by decide +kernel
theorem dX4_girths_29 : decode cX4_girths 29 = .ok (.aload_n 0, 1) := by decide +kernel
theorem dX4_girths_30 : decode cX4_girths 30 = .ok (.getfield 25, 3) := by decide +kernel
theorem dX4_girths_33 : decode cX4_girths 33 = .ok (.iload_n 1, 1) := by decide +kernel
theorem dX4_girths_34 : decode cX4_girths 34 = .ok (.iload 4, 2) := by decide +kernel
theorem dX4_girths_36 : decode cX4_girths 36 = .ok (.iastore, 1) := by decide +kernel
theorem dX4_girths_37 : decode cX4_girths 37 = .ok (.iload_n 3, 1) := by decide +kernel
theorem dX4_girths_38 : decode cX4_girths 38 = .ok (.aload_n 0, 1) := by decide +kernel
theorem dX4_girths_39 : decode cX4_girths 39 = .ok (.invokevirtual 205, 3) := by decide +kernel
theorem dX4_girths_42 : decode cX4_girths 42 = .ok (.ifCond .eq 10, 3) := by decide +kernel
theorem dX4_girths_45 : decode cX4_girths 45 = .ok (.iconst 1, 1) := by decide +kernel
theorem dX4_girths_46 : decode cX4_girths 46 = .ok (.iload 4, 2) := by decide +kernel
theorem dX4_girths_48 : decode cX4_girths 48 = .ok (.ishl, 1) := by decide +kernel
theorem dX4_girths_49 : decode cX4_girths 49 = .ok (.goto 4, 3) := by decide +kernel
theorem dX4_girths_52 : decode cX4_girths 52 = .ok (.iconst 0, 1) := by decide +kernel
theorem dX4_girths_53 : decode cX4_girths 53 = .ok (.ior, 1) := by decide +kernel
theorem dX4_girths_54 : decode cX4_girths 54 = .ok (.istore_n 3, 1) := by decide +kernel
theorem dX4_girths_55 : decode cX4_girths 55 = .ok (.iinc 4 1, 3) := by decide +kernel
theorem dX4_girths_58 : decode cX4_girths 58 = .ok (.goto (-36), 3) := by decide +kernel
theorem dX4_girths_61 : decode cX4_girths 61 = .ok (.aload_n 0, 1) := by decide +kernel
theorem dX4_girths_62 : decode cX4_girths 62 = .ok (.getfield 25, 3) := by decide +kernel
theorem dX4_girths_65 : decode cX4_girths 65 = .ok (.iload_n 1, 1) := by decide +kernel
theorem dX4_girths_66 : decode cX4_girths 66 = .ok (.iload_n 2, 1) := by decide +kernel
theorem dX4_girths_67 : decode cX4_girths 67 = .ok (.iastore, 1) := by decide +kernel
theorem dX4_girths_68 : decode cX4_girths 68 = .ok (.iload_n 3, 1) := by decide +kernel
theorem dX4_girths_69 : decode cX4_girths 69 = .ok (.ireturn, 1) := by decide +kernel
theorem dX4_kinds_0 : decode cX4_kinds 0 = .ok (.aload_n 0, 1) := by decide +kernel
theorem dX4_kinds_1 : decode cX4_kinds 1 = .ok (.iload_n 1, 1) := by decide +kernel
theorem dX4_kinds_2 : decode cX4_kinds 2 = .ok (.invokevirtual 140, 3) := by decide +kernel
theorem dX4_kinds_5 : decode cX4_kinds 5 = .ok (.ifCond .ne 5, 3) := by decide +kernel
theorem dX4_kinds_8 : decode cX4_kinds 8 = .ok (.iconst (-1), 1) := by decide +kernel
theorem dX4_kinds_9 : decode cX4_kinds 9 = .ok (.ireturn, 1) := by decide +kernel
theorem dX4_kinds_10 : decode cX4_kinds 10 = .ok (.aload_n 0, 1) := by decide +kernel
theorem dX4_kinds_11 : decode cX4_kinds 11 = .ok (.getfield 22, 3) := by decide +kernel
theorem dX4_kinds_14 : decode cX4_kinds 14 = .ok (.iload_n 1, 1) := by decide +kernel
theorem dX4_kinds_15 : decode cX4_kinds 15 = .ok (.iaload, 1) := by decide +kernel
theorem dX4_kinds_16 : decode cX4_kinds 16 = .ok (.istore_n 2, 1) := by decide +kernel
theorem dX4_kinds_17 : decode cX4_kinds 17 = .ok (.iconst 0, 1) := by decide +kernel
theorem dX4_kinds_18 : decode cX4_kinds 18 = .ok (.istore_n 3, 1) := by decide +kernel
theorem dX4_kinds_19 : decode cX4_kinds 19 = .ok (.iconst 0, 1) := by decide +kernel
theorem dX4_kinds_20 : decode cX4_kinds 20 = .ok (.istore 4, 2) := by decide +kernel
theorem dX4_kinds_22 : decode cX4_kinds 22 = .ok (.iload 4, 2) := by decide +kernel
theorem dX4_kinds_24 : decode cX4_kinds 24 = .ok (.iconst 3, 1) := by decide +kernel
theorem dX4_kinds_25 : decode cX4_kinds 25 = .ok (.if_icmp .ge 35, 3) := by decide +kernel
theorem dX4_kinds_28 : decode cX4_kinds 28 = .ok (.aload_n 0, 1) := by decide +kernel
theorem dX4_kinds_29 : decode cX4_kinds 29 = .ok (.getfield 22, 3) := by decide +kernel
theorem dX4_kinds_32 : decode cX4_kinds 32 = .ok (.iload_n 1, 1) := by decide +kernel
theorem dX4_kinds_33 : decode cX4_kinds 33 = .ok (.iload 4, 2) := by decide +kernel
theorem dX4_kinds_35 : decode cX4_kinds 35 = .ok (.iastore, 1) := by decide +kernel
theorem dX4_kinds_36 : decode cX4_kinds 36 = .ok (.iload_n 3, 1) := by decide +kernel
theorem dX4_kinds_37 : decode cX4_kinds 37 = .ok (.aload_n 0, 1) := by decide +kernel
theorem dX4_kinds_38 : decode cX4_kinds 38 = .ok (.invokevirtual 205, 3) := by decide +kernel
theorem dX4_kinds_41 : decode cX4_kinds 41 = .ok (.ifCond .eq 10, 3) := by decide +kernel
theorem dX4_kinds_44 : decode cX4_kinds 44 = .ok (.iconst 1, 1) := by decide +kernel
theorem dX4_kinds_45 : decode cX4_kinds 45 = .ok (.iload 4, 2) := by decide +kernel
theorem dX4_kinds_47 : decode cX4_kinds 47 = .ok (.ishl, 1) := by decide +kernel
theorem dX4_kinds_48 : decode cX4_kinds 48 = .ok (.goto 4, 3) := by decide +kernel
theorem dX4_kinds_51 : decode cX4_kinds 51 = .ok (.iconst 0, 1) := by decide +kernel
theorem dX4_kinds_52 : decode cX4_kinds 52 = .ok (.ior, 1) := by decide +kernel
theorem dX4_kinds_53 : decode cX4_kinds 53 = .ok (.istore_n 3, 1) := by decide +kernel
theorem dX4_kinds_54 : decode cX4_kinds 54 = .ok (.iinc 4 1, 3) := by decide +kernel
theorem dX4_kinds_57 : decode cX4_kinds 57 = .ok (.goto (-35), 3) := by decide +kernel
theorem dX4_kinds_60 : decode cX4_kinds 60 = .ok (.aload_n 0, 1) := by decide +kernel
theorem dX4_kinds_61 : decode cX4_kinds 61 = .ok (.getfield 22, 3) := by decide +kernel
theorem dX4_kinds_64 : decode cX4_kinds 64 = .ok (.iload_n 1, 1) := by decide +kernel
theorem dX4_kinds_65 : decode cX4_kinds 65 = .ok (.iload_n 2, 1) := by decide +kernel
theorem dX4_kinds_66 : decode cX4_kinds 66 = .ok (.iastore, 1) := by decide +kernel
theorem dX4_kinds_67 : decode cX4_kinds 67 = .ok (.iload_n 3, 1) := by decide +kernel
theorem dX4_kinds_68 : decode cX4_kinds 68 = .ok (.ireturn, 1) := by decide +kernel
theorem dX4_holes_0 : decode cX4_holes 0 = .ok (.aload_n 0, 1) := by decide +kernel
theorem dX4_holes_1 : decode cX4_holes 1 = .ok (.iload_n 1, 1) := by decide +kernel
theorem dX4_holes_2 : decode cX4_holes 2 = .ok (.iload_n 2, 1) := by decide +kernel
theorem dX4_holes_3 : decode cX4_holes 3 = .ok (.invokevirtual 143, 3) := by decide +kernel
theorem dX4_holes_6 : decode cX4_holes 6 = .ok (.ifCond .ne 5, 3) := by decide +kernel
theorem dX4_holes_9 : decode cX4_holes 9 = .ok (.iconst (-1), 1) := by decide +kernel
theorem dX4_holes_10 : decode cX4_holes 10 = .ok (.ireturn, 1) := by decide +kernel
theorem dX4_holes_11 : decode cX4_holes 11 = .ok (.aload_n 0, 1) := by decide +kernel
theorem dX4_holes_12 : decode cX4_holes 12 = .ok (.iload_n 1, 1) := by decide +kernel
theorem dX4_holes_13 : decode cX4_holes 13 = .ok (.iload_n 2, 1) := by decide +kernel
theorem dX4_holes_14 : decode cX4_holes 14 = .ok (.invokevirtual 146, 3) := by decide +kernel
theorem dX4_holes_17 : decode cX4_holes 17 = .ok (.istore_n 3, 1) := by decide +kernel
theorem dX4_holes_18 : decode cX4_holes 18 = .ok (.aload_n 0, 1) := by decide +kernel
theorem dX4_holes_19 : decode cX4_holes 19 = .ok (.getfield 19, 3) := by decide +kernel
theorem dX4_holes_22 : decode cX4_holes 22 = .ok (.iload_n 3, 1) := by decide +kernel
theorem dX4_holes_23 : decode cX4_holes 23 = .ok (.iaload, 1) := by decide +kernel
theorem dX4_holes_24 : decode cX4_holes 24 = .ok (.istore 4, 2) := by decide +kernel
theorem dX4_holes_26 : decode cX4_holes 26 = .ok (.iconst 0, 1) := by decide +kernel
theorem dX4_holes_27 : decode cX4_holes 27 = .ok (.istore 5, 2) := by decide +kernel
theorem dX4_holes_29 : decode cX4_holes 29 = .ok (.iconst 0, 1) := by decide +kernel
theorem dX4_holes_30 : decode cX4_holes 30 = .ok (.istore 6, 2) := by decide +kernel
theorem dX4_holes_32 : decode cX4_holes 32 = .ok (.iload 6, 2) := by decide +kernel
theorem dX4_holes_34 : decode cX4_holes 34 = .ok (.bipush 9, 2) := by decide +kernel
theorem dX4_holes_36 : decode cX4_holes 36 = .ok (.if_icmp .gt 37, 3) := by decide +kernel
theorem dX4_holes_39 : decode cX4_holes 39 = .ok (.aload_n 0, 1) := by decide +kernel
theorem dX4_holes_40 : decode cX4_holes 40 = .ok (.getfield 19, 3) := by decide +kernel
theorem dX4_holes_43 : decode cX4_holes 43 = .ok (.iload_n 3, 1) := by decide +kernel
theorem dX4_holes_44 : decode cX4_holes 44 = .ok (.iload 6, 2) := by decide +kernel
theorem dX4_holes_46 : decode cX4_holes 46 = .ok (.iastore, 1) := by decide +kernel
theorem dX4_holes_47 : decode cX4_holes 47 = .ok (.iload 5, 2) := by decide +kernel
theorem dX4_holes_49 : decode cX4_holes 49 = .ok (.aload_n 0, 1) := by decide +kernel
theorem dX4_holes_50 : decode cX4_holes 50 = .ok (.invokevirtual 205, 3) := by decide +kernel
theorem dX4_holes_53 : decode cX4_holes 53 = .ok (.ifCond .eq 10, 3) := by decide +kernel
theorem dX4_holes_56 : decode cX4_holes 56 = .ok (.iconst 1, 1) := by decide +kernel
theorem dX4_holes_57 : decode cX4_holes 57 = .ok (.iload 6, 2) := by decide +kernel
theorem dX4_holes_59 : decode cX4_holes 59 = .ok (.ishl, 1) := by decide +kernel
theorem dX4_holes_60 : decode cX4_holes 60 = .ok (.goto 4, 3) := by decide +kernel
theorem dX4_holes_63 : decode cX4_holes 63 = .ok (.iconst 0, 1) := by decide +kernel
theorem dX4_holes_64 : decode cX4_holes 64 = .ok (.ior, 1) := by decide +kernel
theorem dX4_holes_65 : decode cX4_holes 65 = .ok (.istore 5, 2) := by decide +kernel
theorem dX4_holes_67 : decode cX4_holes 67 = .ok (.iinc 6 1, 3) := by decide +kernel
theorem dX4_holes_70 : decode cX4_holes 70 = .ok (.goto (-38), 3) := by decide +kernel
theorem dX4_holes_73 : decode cX4_holes 73 = .ok (.aload_n 0, 1) := by decide +kernel
theorem dX4_holes_74 : decode cX4_holes 74 = .ok (.getfield 19, 3) := by decide +kernel
theorem dX4_holes_77 : decode cX4_holes 77 = .ok (.iload_n 3, 1) := by decide +kernel
theorem dX4_holes_78 : decode cX4_holes 78 = .ok (.iload 4, 2) := by decide +kernel
theorem dX4_holes_80 : decode cX4_holes 80 = .ok (.iastore, 1) := by decide +kernel
theorem dX4_holes_81 : decode cX4_holes 81 = .ok (.iload 5, 2) := by decide +kernel
theorem dX4_holes_83 : decode cX4_holes 83 = .ok (.ireturn, 1) := by decide +kernel
theorem dX4_inLeastTerms_0 : decode cX4_inLeastTerms 0 = .ok (.lload_n 0, 1) := by decide +kernel
theorem dX4_inLeastTerms_1 : decode cX4_inLeastTerms 1 = .ok (.lstore 5, 2) := by decide +kernel
theorem dX4_inLeastTerms_3 : decode cX4_inLeastTerms 3 = .ok (.lload_n 2, 1) := by decide +kernel
theorem dX4_inLeastTerms_4 : decode cX4_inLeastTerms 4 = .ok (.lstore 7, 2) := by decide +kernel
theorem dX4_inLeastTerms_6 : decode cX4_inLeastTerms 6 = .ok (.lload 7, 2) := by decide +kernel
theorem dX4_inLeastTerms_8 : decode cX4_inLeastTerms 8 = .ok (.lconst 0, 1) := by decide +kernel
theorem dX4_inLeastTerms_9 : decode cX4_inLeastTerms 9 = .ok (.lcmp, 1) := by decide +kernel
theorem dX4_inLeastTerms_10 : decode cX4_inLeastTerms 10 = .ok (.ifCond .eq 21, 3) := by decide +kernel
theorem dX4_inLeastTerms_13 : decode cX4_inLeastTerms 13 = .ok (.lload 5, 2) := by decide +kernel
theorem dX4_inLeastTerms_15 : decode cX4_inLeastTerms 15 = .ok (.lload 7, 2) := by decide +kernel
theorem dX4_inLeastTerms_17 : decode cX4_inLeastTerms 17 = .ok (.lrem, 1) := by decide +kernel
theorem dX4_inLeastTerms_18 : decode cX4_inLeastTerms 18 = .ok (.lstore 9, 2) := by decide +kernel
theorem dX4_inLeastTerms_20 : decode cX4_inLeastTerms 20 = .ok (.lload 7, 2) := by decide +kernel
theorem dX4_inLeastTerms_22 : decode cX4_inLeastTerms 22 = .ok (.lstore 5, 2) := by decide +kernel
theorem dX4_inLeastTerms_24 : decode cX4_inLeastTerms 24 = .ok (.lload 9, 2) := by decide +kernel
theorem dX4_inLeastTerms_26 : decode cX4_inLeastTerms 26 = .ok (.lstore 7, 2) := by decide +kernel
theorem dX4_inLeastTerms_28 : decode cX4_inLeastTerms 28 = .ok (.goto (-22), 3) := by decide +kernel
theorem dX4_inLeastTerms_31 : decode cX4_inLeastTerms 31 = .ok (.iload 4, 2) := by decide +kernel
theorem dX4_inLeastTerms_33 : decode cX4_inLeastTerms 33 = .ok (.ifCond .ne 10, 3) := by decide +kernel
theorem dX4_inLeastTerms_36 : decode cX4_inLeastTerms 36 = .ok (.lload_n 0, 1) := by decide +kernel
theorem dX4_inLeastTerms_37 : decode cX4_inLeastTerms 37 = .ok (.lload 5, 2) := by decide +kernel
theorem dX4_inLeastTerms_39 : decode cX4_inLeastTerms 39 = .ok (.ldiv, 1) := by decide +kernel
theorem dX4_inLeastTerms_40 : decode cX4_inLeastTerms 40 = .ok (.goto 7, 3) := by decide +kernel
theorem dX4_inLeastTerms_43 : decode cX4_inLeastTerms 43 = .ok (.lload_n 2, 1) := by decide +kernel
theorem dX4_inLeastTerms_44 : decode cX4_inLeastTerms 44 = .ok (.lload 5, 2) := by decide +kernel
theorem dX4_inLeastTerms_46 : decode cX4_inLeastTerms 46 = .ok (.ldiv, 1) := by decide +kernel
theorem dX4_inLeastTerms_47 : decode cX4_inLeastTerms 47 = .ok (.lreturn, 1) := by decide +kernel
theorem dX4_odds_0 : decode cX4_odds 0 = .ok (.aload_n 0, 1) := by decide +kernel
theorem dX4_odds_1 : decode cX4_odds 1 = .ok (.iload_n 1, 1) := by decide +kernel
theorem dX4_odds_2 : decode cX4_odds 2 = .ok (.invokevirtual 140, 3) := by decide +kernel
theorem dX4_odds_5 : decode cX4_odds 5 = .ok (.ifCond .eq 20, 3) := by decide +kernel
theorem dX4_odds_8 : decode cX4_odds 8 = .ok (.aload_n 0, 1) := by decide +kernel
theorem dX4_odds_9 : decode cX4_odds 9 = .ok (.iload_n 2, 1) := by decide +kernel
theorem dX4_odds_10 : decode cX4_odds 10 = .ok (.invokevirtual 71, 3) := by decide +kernel
theorem dX4_odds_13 : decode cX4_odds 13 = .ok (.ifCond .eq 12, 3) := by decide +kernel
theorem dX4_odds_16 : decode cX4_odds 16 = .ok (.iload_n 3, 1) := by decide +kernel
theorem dX4_odds_17 : decode cX4_odds 17 = .ok (.iconst 0, 1) := by decide +kernel
theorem dX4_odds_18 : decode cX4_odds 18 = .ok (.iconst 1, 1) := by decide +kernel
theorem dX4_odds_19 : decode cX4_odds 19 = .ok (.invokestatic 64, 3) := by decide +kernel
theorem dX4_odds_22 : decode cX4_odds 22 = .ok (.ifCond .ne 7, 3) := by decide +kernel
theorem dX4_odds_25 : decode cX4_odds 25 = .ok (.ldc2_w 62, 3) := by decide +kernel
theorem dX4_odds_28 : decode cX4_odds 28 = .ok (.lreturn, 1) := by decide +kernel
theorem dX4_odds_29 : decode cX4_odds 29 = .ok (.aload_n 0, 1) := by decide +kernel
theorem dX4_odds_30 : decode cX4_odds 30 = .ok (.getfield 25, 3) := by decide +kernel
theorem dX4_odds_33 : decode cX4_odds 33 = .ok (.iload_n 1, 1) := by decide +kernel
theorem dX4_odds_34 : decode cX4_odds 34 = .ok (.iaload, 1) := by decide +kernel
theorem dX4_odds_35 : decode cX4_odds 35 = .ok (.istore 4, 2) := by decide +kernel
theorem dX4_odds_37 : decode cX4_odds 37 = .ok (.iconst 0, 1) := by decide +kernel
theorem dX4_odds_38 : decode cX4_odds 38 = .ok (.istore 5, 2) := by decide +kernel
theorem dX4_odds_40 : decode cX4_odds 40 = .ok (.iconst 1, 1) := by decide +kernel
theorem dX4_odds_41 : decode cX4_odds 41 = .ok (.istore 6, 2) := by decide +kernel
theorem dX4_odds_43 : decode cX4_odds 43 = .ok (.iload 6, 2) := by decide +kernel
theorem dX4_odds_45 : decode cX4_odds 45 = .ok (.bipush 9, 2) := by decide +kernel
theorem dX4_odds_47 : decode cX4_odds 47 = .ok (.if_icmp .gt 39, 3) := by decide +kernel
theorem dX4_odds_50 : decode cX4_odds 50 = .ok (.aload_n 0, 1) := by decide +kernel
theorem dX4_odds_51 : decode cX4_odds 51 = .ok (.getfield 25, 3) := by decide +kernel
theorem dX4_odds_54 : decode cX4_odds 54 = .ok (.iload_n 1, 1) := by decide +kernel
theorem dX4_odds_55 : decode cX4_odds 55 = .ok (.iload 6, 2) := by decide +kernel
theorem dX4_odds_57 : decode cX4_odds 57 = .ok (.iastore, 1) := by decide +kernel
theorem dX4_odds_58 : decode cX4_odds 58 = .ok (.iload 5, 2) := by decide +kernel
theorem dX4_odds_60 : decode cX4_odds 60 = .ok (.aload_n 0, 1) := by decide +kernel
theorem dX4_odds_61 : decode cX4_odds 61 = .ok (.iload_n 1, 1) := by decide +kernel
theorem dX4_odds_62 : decode cX4_odds 62 = .ok (.invokevirtual 199, 3) := by decide +kernel
theorem dX4_odds_65 : decode cX4_odds 65 = .ok (.iload_n 2, 1) := by decide +kernel
theorem dX4_odds_66 : decode cX4_odds 66 = .ok (.invokestatic 156, 3) := by decide +kernel
theorem dX4_odds_69 : decode cX4_odds 69 = .ok (.ifCond .eq 7, 3) := by decide +kernel
theorem dX4_odds_72 : decode cX4_odds 72 = .ok (.iconst 1, 1) := by decide +kernel
theorem dX4_odds_73 : decode cX4_odds 73 = .ok (.goto 4, 3) := by decide +kernel
theorem dX4_odds_76 : decode cX4_odds 76 = .ok (.iconst 0, 1) := by decide +kernel
theorem dX4_odds_77 : decode cX4_odds 77 = .ok (.iadd, 1) := by decide +kernel
theorem dX4_odds_78 : decode cX4_odds 78 = .ok (.istore 5, 2) := by decide +kernel
theorem dX4_odds_80 : decode cX4_odds 80 = .ok (.iinc 6 1, 3) := by decide +kernel
theorem dX4_odds_83 : decode cX4_odds 83 = .ok (.goto (-40), 3) := by decide +kernel
theorem dX4_odds_86 : decode cX4_odds 86 = .ok (.aload_n 0, 1) := by decide +kernel
theorem dX4_odds_87 : decode cX4_odds 87 = .ok (.getfield 25, 3) := by decide +kernel
theorem dX4_odds_90 : decode cX4_odds 90 = .ok (.iload_n 1, 1) := by decide +kernel
theorem dX4_odds_91 : decode cX4_odds 91 = .ok (.iload 4, 2) := by decide +kernel
theorem dX4_odds_93 : decode cX4_odds 93 = .ok (.iastore, 1) := by decide +kernel
theorem dX4_odds_94 : decode cX4_odds 94 = .ok (.iload 5, 2) := by decide +kernel
theorem dX4_odds_96 : decode cX4_odds 96 = .ok (.i2l, 1) := by decide +kernel
theorem dX4_odds_97 : decode cX4_odds 97 = .ok (.ldc2_w 209, 3) := by decide +kernel
theorem dX4_odds_100 : decode cX4_odds 100 = .ok (.iload_n 3, 1) := by decide +kernel
theorem dX4_odds_101 : decode cX4_odds 101 = .ok (.invokestatic 211, 3) := by decide +kernel
theorem dX4_odds_104 : decode cX4_odds 104 = .ok (.lreturn, 1) := by decide +kernel
theorem dX4_sheet_0 : decode cX4_sheet 0 = .ok (.aload_n 0, 1) := by decide +kernel
theorem dX4_sheet_1 : decode cX4_sheet 1 = .ok (.iconst 0, 1) := by decide +kernel
theorem dX4_sheet_2 : decode cX4_sheet 2 = .ok (.putfield 58, 3) := by decide +kernel
theorem dX4_sheet_5 : decode cX4_sheet 5 = .ok (.iload_n 1, 1) := by decide +kernel
theorem dX4_sheet_6 : decode cX4_sheet 6 = .ok (.invokestatic 85, 3) := by decide +kernel
theorem dX4_sheet_9 : decode cX4_sheet 9 = .ok (.ifCond .ne 5, 3) := by decide +kernel
theorem dX4_sheet_12 : decode cX4_sheet 12 = .ok (.iconst (-1), 1) := by decide +kernel
theorem dX4_sheet_13 : decode cX4_sheet 13 = .ok (.ireturn, 1) := by decide +kernel
theorem dX4_sheet_14 : decode cX4_sheet 14 = .ok (.iload_n 2, 1) := by decide +kernel
theorem dX4_sheet_15 : decode cX4_sheet 15 = .ok (.invokestatic 88, 3) := by decide +kernel
theorem dX4_sheet_18 : decode cX4_sheet 18 = .ok (.ifCond .eq 9, 3) := by decide +kernel
theorem dX4_sheet_21 : decode cX4_sheet 21 = .ok (.iload_n 3, 1) := by decide +kernel
theorem dX4_sheet_22 : decode cX4_sheet 22 = .ok (.bipush 60, 2) := by decide +kernel
theorem dX4_sheet_24 : decode cX4_sheet 24 = .ok (.if_icmp .le 6, 3) := by decide +kernel
theorem dX4_sheet_27 : decode cX4_sheet 27 = .ok (.bipush (-2), 2) := by decide +kernel
theorem dX4_sheet_29 : decode cX4_sheet 29 = .ok (.ireturn, 1) := by decide +kernel
theorem dX4_sheet_30 : decode cX4_sheet 30 = .ok (.iload_n 3, 1) := by decide +kernel
theorem dX4_sheet_31 : decode cX4_sheet 31 = .ok (.ifCond .ge 9, 3) := by decide +kernel
theorem dX4_sheet_34 : decode cX4_sheet 34 = .ok (.aload_n 0, 1) := by decide +kernel
theorem dX4_sheet_35 : decode cX4_sheet 35 = .ok (.iconst 4, 1) := by decide +kernel
theorem dX4_sheet_36 : decode cX4_sheet 36 = .ok (.invokevirtual 95, 3) := by decide +kernel
theorem dX4_sheet_39 : decode cX4_sheet 39 = .ok (.ireturn, 1) := by decide +kernel
theorem dX4_sheet_40 : decode cX4_sheet 40 = .ok (.aload_n 0, 1) := by decide +kernel
theorem dX4_sheet_41 : decode cX4_sheet 41 = .ok (.getfield 9, 3) := by decide +kernel
theorem dX4_sheet_44 : decode cX4_sheet 44 = .ok (.iload_n 1, 1) := by decide +kernel
theorem dX4_sheet_45 : decode cX4_sheet 45 = .ok (.iload_n 2, 1) := by decide +kernel
theorem dX4_sheet_46 : decode cX4_sheet 46 = .ok (.iastore, 1) := by decide +kernel
theorem dX4_sheet_47 : decode cX4_sheet 47 = .ok (.aload_n 0, 1) := by decide +kernel
theorem dX4_sheet_48 : decode cX4_sheet 48 = .ok (.getfield 13, 3) := by decide +kernel
theorem dX4_sheet_51 : decode cX4_sheet 51 = .ok (.iload_n 1, 1) := by decide +kernel
theorem dX4_sheet_52 : decode cX4_sheet 52 = .ok (.iload_n 3, 1) := by decide +kernel
theorem dX4_sheet_53 : decode cX4_sheet 53 = .ok (.iastore, 1) := by decide +kernel
theorem dX4_sheet_54 : decode cX4_sheet 54 = .ok (.iconst 0, 1) := by decide +kernel
theorem dX4_sheet_55 : decode cX4_sheet 55 = .ok (.istore 4, 2) := by decide +kernel
theorem dX4_sheet_57 : decode cX4_sheet 57 = .ok (.iload 4, 2) := by decide +kernel
theorem dX4_sheet_59 : decode cX4_sheet 59 = .ok (.bipush 60, 2) := by decide +kernel
theorem dX4_sheet_61 : decode cX4_sheet 61 = .ok (.if_icmp .ge 22, 3) := by decide +kernel
theorem dX4_sheet_64 : decode cX4_sheet 64 = .ok (.aload_n 0, 1) := by decide +kernel
theorem dX4_sheet_65 : decode cX4_sheet 65 = .ok (.getfield 16, 3) := by decide +kernel
theorem dX4_sheet_68 : decode cX4_sheet 68 = .ok (.bipush 60, 2) := by decide +kernel
theorem dX4_sheet_70 : decode cX4_sheet 70 = .ok (.iload_n 1, 1) := by decide +kernel
theorem dX4_sheet_71 : decode cX4_sheet 71 = .ok (.imul, 1) := by decide +kernel
theorem dX4_sheet_72 : decode cX4_sheet 72 = .ok (.iload 4, 2) := by decide +kernel
theorem dX4_sheet_74 : decode cX4_sheet 74 = .ok (.iadd, 1) := by decide +kernel
theorem dX4_sheet_75 : decode cX4_sheet 75 = .ok (.iconst 0, 1) := by decide +kernel
theorem dX4_sheet_76 : decode cX4_sheet 76 = .ok (.iastore, 1) := by decide +kernel
theorem dX4_sheet_77 : decode cX4_sheet 77 = .ok (.iinc 4 1, 3) := by decide +kernel
theorem dX4_sheet_80 : decode cX4_sheet 80 = .ok (.goto (-23), 3) := by decide +kernel
theorem dX4_sheet_83 : decode cX4_sheet 83 = .ok (.iconst 1, 1) := by decide +kernel
theorem dX4_sheet_84 : decode cX4_sheet 84 = .ok (.ireturn, 1) := by decide +kernel
theorem dX4_lose_0 : decode cX4_lose 0 = .ok (.iload_n 1, 1) := by decide +kernel
theorem dX4_lose_1 : decode cX4_lose 1 = .ok (.invokestatic 85, 3) := by decide +kernel
theorem dX4_lose_4 : decode cX4_lose 4 = .ok (.ifCond .ne 5, 3) := by decide +kernel
theorem dX4_lose_7 : decode cX4_lose 7 = .ok (.iconst (-1), 1) := by decide +kernel
theorem dX4_lose_8 : decode cX4_lose 8 = .ok (.ireturn, 1) := by decide +kernel
theorem dX4_lose_9 : decode cX4_lose 9 = .ok (.aload_n 0, 1) := by decide +kernel
theorem dX4_lose_10 : decode cX4_lose 10 = .ok (.getfield 9, 3) := by decide +kernel
theorem dX4_lose_13 : decode cX4_lose 13 = .ok (.iload_n 1, 1) := by decide +kernel
theorem dX4_lose_14 : decode cX4_lose 14 = .ok (.iaload, 1) := by decide +kernel
theorem dX4_lose_15 : decode cX4_lose 15 = .ok (.bipush (-9), 2) := by decide +kernel
theorem dX4_lose_17 : decode cX4_lose 17 = .ok (.if_icmp .ne 7, 3) := by decide +kernel
theorem dX4_lose_20 : decode cX4_lose 20 = .ok (.iconst 0, 1) := by decide +kernel
theorem dX4_lose_21 : decode cX4_lose 21 = .ok (.goto 4, 3) := by decide +kernel
theorem dX4_lose_24 : decode cX4_lose 24 = .ok (.iconst 1, 1) := by decide +kernel
theorem dX4_lose_25 : decode cX4_lose 25 = .ok (.istore_n 2, 1) := by decide +kernel
theorem dX4_lose_26 : decode cX4_lose 26 = .ok (.aload_n 0, 1) := by decide +kernel
theorem dX4_lose_27 : decode cX4_lose 27 = .ok (.getfield 9, 3) := by decide +kernel
theorem dX4_lose_30 : decode cX4_lose 30 = .ok (.iload_n 1, 1) := by decide +kernel
theorem dX4_lose_31 : decode cX4_lose 31 = .ok (.bipush (-9), 2) := by decide +kernel
theorem dX4_lose_33 : decode cX4_lose 33 = .ok (.iastore, 1) := by decide +kernel
theorem dX4_lose_34 : decode cX4_lose 34 = .ok (.iload_n 2, 1) := by decide +kernel
theorem dX4_lose_35 : decode cX4_lose 35 = .ok (.ireturn, 1) := by decide +kernel
theorem dX4_put_0 : decode cX4_put 0 = .ok (.aload_n 0, 1) := by decide +kernel
theorem dX4_put_1 : decode cX4_put 1 = .ok (.iconst 0, 1) := by decide +kernel
theorem dX4_put_2 : decode cX4_put 2 = .ok (.putfield 58, 3) := by decide +kernel
theorem dX4_put_5 : decode cX4_put 5 = .ok (.iload_n 1, 1) := by decide +kernel
theorem dX4_put_6 : decode cX4_put 6 = .ok (.invokestatic 85, 3) := by decide +kernel
theorem dX4_put_9 : decode cX4_put 9 = .ok (.ifCond .ne 5, 3) := by decide +kernel
theorem dX4_put_12 : decode cX4_put 12 = .ok (.iconst (-1), 1) := by decide +kernel
theorem dX4_put_13 : decode cX4_put 13 = .ok (.ireturn, 1) := by decide +kernel
theorem dX4_put_14 : decode cX4_put 14 = .ok (.aload_n 0, 1) := by decide +kernel
theorem dX4_put_15 : decode cX4_put 15 = .ok (.getfield 9, 3) := by decide +kernel
theorem dX4_put_18 : decode cX4_put 18 = .ok (.iload_n 1, 1) := by decide +kernel
theorem dX4_put_19 : decode cX4_put 19 = .ok (.iaload, 1) := by decide +kernel
theorem dX4_put_20 : decode cX4_put 20 = .ok (.bipush (-9), 2) := by decide +kernel
theorem dX4_put_22 : decode cX4_put 22 = .ok (.if_icmp .ne 9, 3) := by decide +kernel
theorem dX4_put_25 : decode cX4_put 25 = .ok (.aload_n 0, 1) := by decide +kernel
theorem dX4_put_26 : decode cX4_put 26 = .ok (.iconst 1, 1) := by decide +kernel
theorem dX4_put_27 : decode cX4_put 27 = .ok (.invokevirtual 95, 3) := by decide +kernel
theorem dX4_put_30 : decode cX4_put 30 = .ok (.ireturn, 1) := by decide +kernel
theorem dX4_put_31 : decode cX4_put 31 = .ok (.iload_n 2, 1) := by decide +kernel
theorem dX4_put_32 : decode cX4_put 32 = .ok (.iconst 0, 1) := by decide +kernel
theorem dX4_put_33 : decode cX4_put 33 = .ok (.aload_n 0, 1) := by decide +kernel
theorem dX4_put_34 : decode cX4_put 34 = .ok (.getfield 13, 3) := by decide +kernel
theorem dX4_put_37 : decode cX4_put 37 = .ok (.iload_n 1, 1) := by decide +kernel
theorem dX4_put_38 : decode cX4_put 38 = .ok (.iaload, 1) := by decide +kernel
theorem dX4_put_39 : decode cX4_put 39 = .ok (.iconst 1, 1) := by decide +kernel
theorem dX4_put_40 : decode cX4_put 40 = .ok (.isub, 1) := by decide +kernel
theorem dX4_put_41 : decode cX4_put 41 = .ok (.invokestatic 64, 3) := by decide +kernel
theorem dX4_put_44 : decode cX4_put 44 = .ok (.ifCond .ne 9, 3) := by decide +kernel
theorem dX4_put_47 : decode cX4_put 47 = .ok (.aload_n 0, 1) := by decide +kernel
theorem dX4_put_48 : decode cX4_put 48 = .ok (.iconst 3, 1) := by decide +kernel
theorem dX4_put_49 : decode cX4_put 49 = .ok (.invokevirtual 95, 3) := by decide +kernel
theorem dX4_put_52 : decode cX4_put 52 = .ok (.ireturn, 1) := by decide +kernel
theorem dX4_put_53 : decode cX4_put 53 = .ok (.aload_n 0, 1) := by decide +kernel
theorem dX4_put_54 : decode cX4_put 54 = .ok (.getfield 16, 3) := by decide +kernel
theorem dX4_put_57 : decode cX4_put 57 = .ok (.bipush 60, 2) := by decide +kernel
theorem dX4_put_59 : decode cX4_put 59 = .ok (.iload_n 1, 1) := by decide +kernel
theorem dX4_put_60 : decode cX4_put 60 = .ok (.imul, 1) := by decide +kernel
theorem dX4_put_61 : decode cX4_put 61 = .ok (.iload_n 2, 1) := by decide +kernel
theorem dX4_put_62 : decode cX4_put 62 = .ok (.iadd, 1) := by decide +kernel
theorem dX4_put_63 : decode cX4_put 63 = .ok (.aload_n 0, 1) := by decide +kernel
theorem dX4_put_64 : decode cX4_put 64 = .ok (.getfield 9, 3) := by decide +kernel
theorem dX4_put_67 : decode cX4_put 67 = .ok (.iload_n 1, 1) := by decide +kernel
theorem dX4_put_68 : decode cX4_put 68 = .ok (.iaload, 1) := by decide +kernel
theorem dX4_put_69 : decode cX4_put 69 = .ok (.ifCond .ne 8, 3) := by decide +kernel
theorem dX4_put_72 : decode cX4_put 72 = .ok (.iload_n 3, 1) := by decide +kernel
theorem dX4_put_73 : decode cX4_put 73 = .ok (.i2b, 1) := by decide +kernel
theorem dX4_put_74 : decode cX4_put 74 = .ok (.goto 19, 3) := by decide +kernel
theorem dX4_put_77 : decode cX4_put 77 = .ok (.aload_n 0, 1) := by decide +kernel
theorem dX4_put_78 : decode cX4_put 78 = .ok (.getfield 9, 3) := by decide +kernel
theorem dX4_put_81 : decode cX4_put 81 = .ok (.iload_n 1, 1) := by decide +kernel
theorem dX4_put_82 : decode cX4_put 82 = .ok (.iaload, 1) := by decide +kernel
theorem dX4_put_83 : decode cX4_put 83 = .ok (.iconst 1, 1) := by decide +kernel
theorem dX4_put_84 : decode cX4_put 84 = .ok (.if_icmp .ne 8, 3) := by decide +kernel
theorem dX4_put_87 : decode cX4_put 87 = .ok (.iload_n 3, 1) := by decide +kernel
theorem dX4_put_88 : decode cX4_put 88 = .ok (.i2s, 1) := by decide +kernel
theorem dX4_put_89 : decode cX4_put 89 = .ok (.goto 4, 3) := by decide +kernel
theorem dX4_put_92 : decode cX4_put 92 = .ok (.iload_n 3, 1) := by decide +kernel
theorem dX4_put_93 : decode cX4_put 93 = .ok (.iastore, 1) := by decide +kernel
theorem dX4_put_94 : decode cX4_put 94 = .ok (.iconst 1, 1) := by decide +kernel
theorem dX4_put_95 : decode cX4_put 95 = .ok (.ireturn, 1) := by decide +kernel
theorem dX4_cell_0 : decode cX4_cell 0 = .ok (.aload_n 0, 1) := by decide +kernel
theorem dX4_cell_1 : decode cX4_cell 1 = .ok (.iconst 0, 1) := by decide +kernel
theorem dX4_cell_2 : decode cX4_cell 2 = .ok (.putfield 58, 3) := by decide +kernel
theorem dX4_cell_5 : decode cX4_cell 5 = .ok (.iload_n 1, 1) := by decide +kernel
theorem dX4_cell_6 : decode cX4_cell 6 = .ok (.invokestatic 85, 3) := by decide +kernel
theorem dX4_cell_9 : decode cX4_cell 9 = .ok (.ifCond .eq 10, 3) := by decide +kernel
theorem dX4_cell_12 : decode cX4_cell 12 = .ok (.iload_n 3, 1) := by decide +kernel
theorem dX4_cell_13 : decode cX4_cell 13 = .ok (.invokestatic 88, 3) := by decide +kernel
theorem dX4_cell_16 : decode cX4_cell 16 = .ok (.ifCond .ne 7, 3) := by decide +kernel
theorem dX4_cell_19 : decode cX4_cell 19 = .ok (.ldc2_w 62, 3) := by decide +kernel
theorem dX4_cell_22 : decode cX4_cell 22 = .ok (.lreturn, 1) := by decide +kernel
theorem dX4_cell_23 : decode cX4_cell 23 = .ok (.aload_n 0, 1) := by decide +kernel
theorem dX4_cell_24 : decode cX4_cell 24 = .ok (.getfield 9, 3) := by decide +kernel
theorem dX4_cell_27 : decode cX4_cell 27 = .ok (.iload_n 1, 1) := by decide +kernel
theorem dX4_cell_28 : decode cX4_cell 28 = .ok (.iaload, 1) := by decide +kernel
theorem dX4_cell_29 : decode cX4_cell 29 = .ok (.bipush (-9), 2) := by decide +kernel
theorem dX4_cell_31 : decode cX4_cell 31 = .ok (.if_icmp .eq 19, 3) := by decide +kernel
theorem dX4_cell_34 : decode cX4_cell 34 = .ok (.aload_n 0, 1) := by decide +kernel
theorem dX4_cell_35 : decode cX4_cell 35 = .ok (.getfield 9, 3) := by decide +kernel
theorem dX4_cell_38 : decode cX4_cell 38 = .ok (.iload_n 1, 1) := by decide +kernel
theorem dX4_cell_39 : decode cX4_cell 39 = .ok (.iaload, 1) := by decide +kernel
theorem dX4_cell_40 : decode cX4_cell 40 = .ok (.iload_n 3, 1) := by decide +kernel
theorem dX4_cell_41 : decode cX4_cell 41 = .ok (.if_icmp .eq 9, 3) := by decide +kernel
theorem dX4_cell_44 : decode cX4_cell 44 = .ok (.aload_n 0, 1) := by decide +kernel
theorem dX4_cell_45 : decode cX4_cell 45 = .ok (.iconst 2, 1) := by decide +kernel
theorem dX4_cell_46 : decode cX4_cell 46 = .ok (.invokevirtual 215, 3) := by decide +kernel
theorem dX4_cell_49 : decode cX4_cell 49 = .ok (.lreturn, 1) := by decide +kernel
theorem dX4_cell_50 : decode cX4_cell 50 = .ok (.aload_n 0, 1) := by decide +kernel
theorem dX4_cell_51 : decode cX4_cell 51 = .ok (.getfield 9, 3) := by decide +kernel
theorem dX4_cell_54 : decode cX4_cell 54 = .ok (.iload_n 1, 1) := by decide +kernel
theorem dX4_cell_55 : decode cX4_cell 55 = .ok (.iaload, 1) := by decide +kernel
theorem dX4_cell_56 : decode cX4_cell 56 = .ok (.bipush (-9), 2) := by decide +kernel
theorem dX4_cell_58 : decode cX4_cell 58 = .ok (.if_icmp .ne 9, 3) := by decide +kernel
theorem dX4_cell_61 : decode cX4_cell 61 = .ok (.aload_n 0, 1) := by decide +kernel
theorem dX4_cell_62 : decode cX4_cell 62 = .ok (.iconst 1, 1) := by decide +kernel
theorem dX4_cell_63 : decode cX4_cell 63 = .ok (.invokevirtual 215, 3) := by decide +kernel
theorem dX4_cell_66 : decode cX4_cell 66 = .ok (.lreturn, 1) := by decide +kernel
theorem dX4_cell_67 : decode cX4_cell 67 = .ok (.iload_n 2, 1) := by decide +kernel
theorem dX4_cell_68 : decode cX4_cell 68 = .ok (.iconst 0, 1) := by decide +kernel
theorem dX4_cell_69 : decode cX4_cell 69 = .ok (.aload_n 0, 1) := by decide +kernel
theorem dX4_cell_70 : decode cX4_cell 70 = .ok (.getfield 13, 3) := by decide +kernel
theorem dX4_cell_73 : decode cX4_cell 73 = .ok (.iload_n 1, 1) := by decide +kernel
theorem dX4_cell_74 : decode cX4_cell 74 = .ok (.iaload, 1) := by decide +kernel
theorem dX4_cell_75 : decode cX4_cell 75 = .ok (.iconst 1, 1) := by decide +kernel
theorem dX4_cell_76 : decode cX4_cell 76 = .ok (.isub, 1) := by decide +kernel
theorem dX4_cell_77 : decode cX4_cell 77 = .ok (.invokestatic 64, 3) := by decide +kernel
theorem dX4_cell_80 : decode cX4_cell 80 = .ok (.ifCond .ne 9, 3) := by decide +kernel
theorem dX4_cell_83 : decode cX4_cell 83 = .ok (.aload_n 0, 1) := by decide +kernel
theorem dX4_cell_84 : decode cX4_cell 84 = .ok (.iconst 3, 1) := by decide +kernel
theorem dX4_cell_85 : decode cX4_cell 85 = .ok (.invokevirtual 215, 3) := by decide +kernel
theorem dX4_cell_88 : decode cX4_cell 88 = .ok (.lreturn, 1) := by decide +kernel
theorem dX4_cell_89 : decode cX4_cell 89 = .ok (.aload_n 0, 1) := by decide +kernel
theorem dX4_cell_90 : decode cX4_cell 90 = .ok (.getfield 16, 3) := by decide +kernel
theorem dX4_cell_93 : decode cX4_cell 93 = .ok (.bipush 60, 2) := by decide +kernel
theorem dX4_cell_95 : decode cX4_cell 95 = .ok (.iload_n 1, 1) := by decide +kernel
theorem dX4_cell_96 : decode cX4_cell 96 = .ok (.imul, 1) := by decide +kernel
theorem dX4_cell_97 : decode cX4_cell 97 = .ok (.iload_n 2, 1) := by decide +kernel
theorem dX4_cell_98 : decode cX4_cell 98 = .ok (.iadd, 1) := by decide +kernel
theorem dX4_cell_99 : decode cX4_cell 99 = .ok (.iaload, 1) := by decide +kernel
theorem dX4_cell_100 : decode cX4_cell 100 = .ok (.i2l, 1) := by decide +kernel
theorem dX4_cell_101 : decode cX4_cell 101 = .ok (.lreturn, 1) := by decide +kernel
theorem dX4_copy_0 : decode cX4_copy 0 = .ok (.aload_n 0, 1) := by decide +kernel
theorem dX4_copy_1 : decode cX4_copy 1 = .ok (.iconst 0, 1) := by decide +kernel
theorem dX4_copy_2 : decode cX4_copy 2 = .ok (.putfield 58, 3) := by decide +kernel
theorem dX4_copy_5 : decode cX4_copy 5 = .ok (.iload_n 1, 1) := by decide +kernel
theorem dX4_copy_6 : decode cX4_copy 6 = .ok (.invokestatic 85, 3) := by decide +kernel
theorem dX4_copy_9 : decode cX4_copy 9 = .ok (.ifCond .eq 10, 3) := by decide +kernel
theorem dX4_copy_12 : decode cX4_copy 12 = .ok (.iload_n 3, 1) := by decide +kernel
theorem dX4_copy_13 : decode cX4_copy 13 = .ok (.invokestatic 85, 3) := by decide +kernel
theorem dX4_copy_16 : decode cX4_copy 16 = .ok (.ifCond .ne 5, 3) := by decide +kernel
theorem dX4_copy_19 : decode cX4_copy 19 = .ok (.iconst (-1), 1) := by decide +kernel
theorem dX4_copy_20 : decode cX4_copy 20 = .ok (.ireturn, 1) := by decide +kernel
theorem dX4_copy_21 : decode cX4_copy 21 = .ok (.aload_n 0, 1) := by decide +kernel
theorem dX4_copy_22 : decode cX4_copy 22 = .ok (.getfield 9, 3) := by decide +kernel
theorem dX4_copy_25 : decode cX4_copy 25 = .ok (.iload_n 1, 1) := by decide +kernel
theorem dX4_copy_26 : decode cX4_copy 26 = .ok (.iaload, 1) := by decide +kernel
theorem dX4_copy_27 : decode cX4_copy 27 = .ok (.bipush (-9), 2) := by decide +kernel
theorem dX4_copy_29 : decode cX4_copy 29 = .ok (.if_icmp .eq 14, 3) := by decide +kernel
theorem dX4_copy_32 : decode cX4_copy 32 = .ok (.aload_n 0, 1) := by decide +kernel
theorem dX4_copy_33 : decode cX4_copy 33 = .ok (.getfield 9, 3) := by decide +kernel
theorem dX4_copy_36 : decode cX4_copy 36 = .ok (.iload_n 3, 1) := by decide +kernel
theorem dX4_copy_37 : decode cX4_copy 37 = .ok (.iaload, 1) := by decide +kernel
theorem dX4_copy_38 : decode cX4_copy 38 = .ok (.bipush (-9), 2) := by decide +kernel
theorem dX4_copy_40 : decode cX4_copy 40 = .ok (.if_icmp .ne 9, 3) := by decide +kernel
theorem dX4_copy_43 : decode cX4_copy 43 = .ok (.aload_n 0, 1) := by decide +kernel
theorem dX4_copy_44 : decode cX4_copy 44 = .ok (.iconst 1, 1) := by decide +kernel
theorem dX4_copy_45 : decode cX4_copy 45 = .ok (.invokevirtual 95, 3) := by decide +kernel
theorem dX4_copy_48 : decode cX4_copy 48 = .ok (.ireturn, 1) := by decide +kernel
theorem dX4_copy_49 : decode cX4_copy 49 = .ok (.aload_n 0, 1) := by decide +kernel
theorem dX4_copy_50 : decode cX4_copy 50 = .ok (.getfield 9, 3) := by decide +kernel
theorem dX4_copy_53 : decode cX4_copy 53 = .ok (.iload_n 1, 1) := by decide +kernel
theorem dX4_copy_54 : decode cX4_copy 54 = .ok (.iaload, 1) := by decide +kernel
theorem dX4_copy_55 : decode cX4_copy 55 = .ok (.aload_n 0, 1) := by decide +kernel
theorem dX4_copy_56 : decode cX4_copy 56 = .ok (.getfield 9, 3) := by decide +kernel
theorem dX4_copy_59 : decode cX4_copy 59 = .ok (.iload_n 3, 1) := by decide +kernel
theorem dX4_copy_60 : decode cX4_copy 60 = .ok (.iaload, 1) := by decide +kernel
theorem dX4_copy_61 : decode cX4_copy 61 = .ok (.if_icmp .eq 9, 3) := by decide +kernel
theorem dX4_copy_64 : decode cX4_copy 64 = .ok (.aload_n 0, 1) := by decide +kernel
theorem dX4_copy_65 : decode cX4_copy 65 = .ok (.iconst 2, 1) := by decide +kernel
theorem dX4_copy_66 : decode cX4_copy 66 = .ok (.invokevirtual 95, 3) := by decide +kernel
theorem dX4_copy_69 : decode cX4_copy 69 = .ok (.ireturn, 1) := by decide +kernel
theorem dX4_copy_70 : decode cX4_copy 70 = .ok (.iload_n 2, 1) := by decide +kernel
theorem dX4_copy_71 : decode cX4_copy 71 = .ok (.ifCond .lt 38, 3) := by decide +kernel
theorem dX4_copy_74 : decode cX4_copy 74 = .ok (.iload 4, 2) := by decide +kernel
theorem dX4_copy_76 : decode cX4_copy 76 = .ok (.ifCond .lt 33, 3) := by decide +kernel
theorem dX4_copy_79 : decode cX4_copy 79 = .ok (.iload 5, 2) := by decide +kernel
theorem dX4_copy_81 : decode cX4_copy 81 = .ok (.ifCond .lt 28, 3) := by decide +kernel
theorem dX4_copy_84 : decode cX4_copy 84 = .ok (.iload_n 2, 1) := by decide +kernel
theorem dX4_copy_85 : decode cX4_copy 85 = .ok (.aload_n 0, 1) := by decide +kernel
theorem dX4_copy_86 : decode cX4_copy 86 = .ok (.getfield 13, 3) := by decide +kernel
theorem dX4_copy_89 : decode cX4_copy 89 = .ok (.iload_n 1, 1) := by decide +kernel
theorem dX4_copy_90 : decode cX4_copy 90 = .ok (.iaload, 1) := by decide +kernel
theorem dX4_copy_91 : decode cX4_copy 91 = .ok (.if_icmp .gt 18, 3) := by decide +kernel
theorem dX4_copy_94 : decode cX4_copy 94 = .ok (.iload 4, 2) := by decide +kernel
theorem dX4_copy_96 : decode cX4_copy 96 = .ok (.aload_n 0, 1) := by decide +kernel
theorem dX4_copy_97 : decode cX4_copy 97 = .ok (.getfield 13, 3) := by decide +kernel
theorem dX4_copy_100 : decode cX4_copy 100 = .ok (.iload_n 3, 1) := by decide +kernel
theorem dX4_copy_101 : decode cX4_copy 101 = .ok (.iaload, 1) := by decide +kernel
theorem dX4_copy_102 : decode cX4_copy 102 = .ok (.if_icmp .gt 7, 3) := by decide +kernel
theorem dX4_copy_105 : decode cX4_copy 105 = .ok (.iconst 1, 1) := by decide +kernel
theorem dX4_copy_106 : decode cX4_copy 106 = .ok (.goto 4, 3) := by decide +kernel
theorem dX4_copy_109 : decode cX4_copy 109 = .ok (.iconst 0, 1) := by decide +kernel
theorem dX4_copy_110 : decode cX4_copy 110 = .ok (.istore 6, 2) := by decide +kernel
theorem dX4_copy_112 : decode cX4_copy 112 = .ok (.iload 6, 2) := by decide +kernel
theorem dX4_copy_114 : decode cX4_copy 114 = .ok (.ifCond .eq 30, 3) := by decide +kernel
theorem dX4_copy_117 : decode cX4_copy 117 = .ok (.iload 5, 2) := by decide +kernel
theorem dX4_copy_119 : decode cX4_copy 119 = .ok (.aload_n 0, 1) := by decide +kernel
theorem dX4_copy_120 : decode cX4_copy 120 = .ok (.getfield 13, 3) := by decide +kernel
theorem dX4_copy_123 : decode cX4_copy 123 = .ok (.iload_n 1, 1) := by decide +kernel
theorem dX4_copy_124 : decode cX4_copy 124 = .ok (.iaload, 1) := by decide +kernel
theorem dX4_copy_125 : decode cX4_copy 125 = .ok (.iload_n 2, 1) := by decide +kernel
theorem dX4_copy_126 : decode cX4_copy 126 = .ok (.isub, 1) := by decide +kernel
theorem dX4_copy_127 : decode cX4_copy 127 = .ok (.if_icmp .gt 17, 3) := by decide +kernel
theorem dX4_copy_130 : decode cX4_copy 130 = .ok (.iload 5, 2) := by decide +kernel
theorem dX4_copy_132 : decode cX4_copy 132 = .ok (.aload_n 0, 1) := by decide +kernel
theorem dX4_copy_133 : decode cX4_copy 133 = .ok (.getfield 13, 3) := by decide +kernel
theorem dX4_copy_136 : decode cX4_copy 136 = .ok (.iload_n 3, 1) := by decide +kernel
theorem dX4_copy_137 : decode cX4_copy 137 = .ok (.iaload, 1) := by decide +kernel
theorem dX4_copy_138 : decode cX4_copy 138 = .ok (.iload 4, 2) := by decide +kernel
theorem dX4_copy_140 : decode cX4_copy 140 = .ok (.isub, 1) := by decide +kernel
theorem dX4_copy_141 : decode cX4_copy 141 = .ok (.if_icmp .le 9, 3) := by decide +kernel
theorem dX4_copy_144 : decode cX4_copy 144 = .ok (.aload_n 0, 1) := by decide +kernel
theorem dX4_copy_145 : decode cX4_copy 145 = .ok (.iconst 3, 1) := by decide +kernel
theorem dX4_copy_146 : decode cX4_copy 146 = .ok (.invokevirtual 95, 3) := by decide +kernel
theorem dX4_copy_149 : decode cX4_copy 149 = .ok (.ireturn, 1) := by decide +kernel
theorem dX4_copy_150 : decode cX4_copy 150 = .ok (.iload_n 2, 1) := by decide +kernel
theorem dX4_copy_151 : decode cX4_copy 151 = .ok (.iload 4, 2) := by decide +kernel
theorem dX4_copy_153 : decode cX4_copy 153 = .ok (.if_icmp .ge 7, 3) := by decide +kernel
theorem dX4_copy_156 : decode cX4_copy 156 = .ok (.iconst 1, 1) := by decide +kernel
theorem dX4_copy_157 : decode cX4_copy 157 = .ok (.goto 4, 3) := by decide +kernel
theorem dX4_copy_160 : decode cX4_copy 160 = .ok (.iconst 0, 1) := by decide +kernel
theorem dX4_copy_161 : decode cX4_copy 161 = .ok (.istore 7, 2) := by decide +kernel
theorem dX4_copy_163 : decode cX4_copy 163 = .ok (.iconst 0, 1) := by decide +kernel
theorem dX4_copy_164 : decode cX4_copy 164 = .ok (.istore 8, 2) := by decide +kernel
theorem dX4_copy_166 : decode cX4_copy 166 = .ok (.iload 8, 2) := by decide +kernel
theorem dX4_copy_168 : decode cX4_copy 168 = .ok (.iload 5, 2) := by decide +kernel
theorem dX4_copy_170 : decode cX4_copy 170 = .ok (.if_icmp .ge 57, 3) := by decide +kernel
theorem dX4_copy_173 : decode cX4_copy 173 = .ok (.iload 7, 2) := by decide +kernel
theorem dX4_copy_175 : decode cX4_copy 175 = .ok (.ifCond .eq 13, 3) := by decide +kernel
theorem dX4_copy_178 : decode cX4_copy 178 = .ok (.iload 5, 2) := by decide +kernel
theorem dX4_copy_180 : decode cX4_copy 180 = .ok (.iconst 1, 1) := by decide +kernel
theorem dX4_copy_181 : decode cX4_copy 181 = .ok (.isub, 1) := by decide +kernel
theorem dX4_copy_182 : decode cX4_copy 182 = .ok (.iload 8, 2) := by decide +kernel
theorem dX4_copy_184 : decode cX4_copy 184 = .ok (.isub, 1) := by decide +kernel
theorem dX4_copy_185 : decode cX4_copy 185 = .ok (.goto 5, 3) := by decide +kernel
theorem dX4_copy_188 : decode cX4_copy 188 = .ok (.iload 8, 2) := by decide +kernel
theorem dX4_copy_190 : decode cX4_copy 190 = .ok (.istore 9, 2) := by decide +kernel
theorem dX4_copy_192 : decode cX4_copy 192 = .ok (.aload_n 0, 1) := by decide +kernel
theorem dX4_copy_193 : decode cX4_copy 193 = .ok (.getfield 16, 3) := by decide +kernel
theorem dX4_copy_196 : decode cX4_copy 196 = .ok (.bipush 60, 2) := by decide +kernel
theorem dX4_copy_198 : decode cX4_copy 198 = .ok (.iload_n 3, 1) := by decide +kernel
theorem dX4_copy_199 : decode cX4_copy 199 = .ok (.imul, 1) := by decide +kernel
theorem dX4_copy_200 : decode cX4_copy 200 = .ok (.iload 4, 2) := by decide +kernel
theorem dX4_copy_202 : decode cX4_copy 202 = .ok (.iadd, 1) := by decide +kernel
theorem dX4_copy_203 : decode cX4_copy 203 = .ok (.iload 9, 2) := by decide +kernel
theorem dX4_copy_205 : decode cX4_copy 205 = .ok (.iadd, 1) := by decide +kernel
theorem dX4_copy_206 : decode cX4_copy 206 = .ok (.aload_n 0, 1) := by decide +kernel
theorem dX4_copy_207 : decode cX4_copy 207 = .ok (.getfield 16, 3) := by decide +kernel
theorem dX4_copy_210 : decode cX4_copy 210 = .ok (.bipush 60, 2) := by decide +kernel
theorem dX4_copy_212 : decode cX4_copy 212 = .ok (.iload_n 1, 1) := by decide +kernel
theorem dX4_copy_213 : decode cX4_copy 213 = .ok (.imul, 1) := by decide +kernel
theorem dX4_copy_214 : decode cX4_copy 214 = .ok (.iload_n 2, 1) := by decide +kernel
theorem dX4_copy_215 : decode cX4_copy 215 = .ok (.iadd, 1) := by decide +kernel
theorem dX4_copy_216 : decode cX4_copy 216 = .ok (.iload 9, 2) := by decide +kernel
theorem dX4_copy_218 : decode cX4_copy 218 = .ok (.iadd, 1) := by decide +kernel
theorem dX4_copy_219 : decode cX4_copy 219 = .ok (.iaload, 1) := by decide +kernel
theorem dX4_copy_220 : decode cX4_copy 220 = .ok (.iastore, 1) := by decide +kernel
theorem dX4_copy_221 : decode cX4_copy 221 = .ok (.iinc 8 1, 3) := by decide +kernel
theorem dX4_copy_224 : decode cX4_copy 224 = .ok (.goto (-58), 3) := by decide +kernel
theorem dX4_copy_227 : decode cX4_copy 227 = .ok (.iload 5, 2) := by decide +kernel
theorem dX4_copy_229 : decode cX4_copy 229 = .ok (.ireturn, 1) := by decide +kernel
theorem dX4_begins_0 : decode cX4_begins 0 = .ok (.aload_n 0, 1) := by decide +kernel
theorem dX4_begins_1 : decode cX4_begins 1 = .ok (.bipush 31, 2) := by decide +kernel
theorem dX4_begins_3 : decode cX4_begins 3 = .ok (.aload_n 0, 1) := by decide +kernel
theorem dX4_begins_4 : decode cX4_begins 4 = .ok (.getfield 219, 3) := by decide +kernel
theorem dX4_begins_7 : decode cX4_begins 7 = .ok (.imul, 1) := by decide +kernel
theorem dX4_begins_8 : decode cX4_begins 8 = .ok (.iload_n 1, 1) := by decide +kernel
theorem dX4_begins_9 : decode cX4_begins 9 = .ok (.iadd, 1) := by decide +kernel
theorem dX4_begins_10 : decode cX4_begins 10 = .ok (.putfield 219, 3) := by decide +kernel
theorem dX4_begins_13 : decode cX4_begins 13 = .ok (.return_, 1) := by decide +kernel
theorem dX4_tell_0 : decode cX4_tell 0 = .ok (.aload_n 0, 1) := by decide +kernel
theorem dX4_tell_1 : decode cX4_tell 1 = .ok (.iload_n 1, 1) := by decide +kernel
theorem dX4_tell_2 : decode cX4_tell 2 = .ok (.invokevirtual 140, 3) := by decide +kernel
theorem dX4_tell_5 : decode cX4_tell 5 = .ok (.ifCond .ne 5, 3) := by decide +kernel
theorem dX4_tell_8 : decode cX4_tell 8 = .ok (.iconst (-1), 1) := by decide +kernel
theorem dX4_tell_9 : decode cX4_tell 9 = .ok (.ireturn, 1) := by decide +kernel
theorem dX4_tell_10 : decode cX4_tell 10 = .ok (.aload_n 0, 1) := by decide +kernel
theorem dX4_tell_11 : decode cX4_tell 11 = .ok (.getfield 25, 3) := by decide +kernel
theorem dX4_tell_14 : decode cX4_tell 14 = .ok (.iload_n 1, 1) := by decide +kernel
theorem dX4_tell_15 : decode cX4_tell 15 = .ok (.iaload, 1) := by decide +kernel
theorem dX4_tell_16 : decode cX4_tell 16 = .ok (.istore_n 2, 1) := by decide +kernel
theorem dX4_tell_17 : decode cX4_tell 17 = .ok (.aload_n 0, 1) := by decide +kernel
theorem dX4_tell_18 : decode cX4_tell 18 = .ok (.getfield 22, 3) := by decide +kernel
theorem dX4_tell_21 : decode cX4_tell 21 = .ok (.iload_n 1, 1) := by decide +kernel
theorem dX4_tell_22 : decode cX4_tell 22 = .ok (.iaload, 1) := by decide +kernel
theorem dX4_tell_23 : decode cX4_tell 23 = .ok (.lookupswitch 67 #[(1, 25), (2, 40)], 25) := by decide +kernel
theorem dX4_tell_48 : decode cX4_tell 48 = .ok (.aload_n 0, 1) := by decide +kernel
theorem dX4_tell_49 : decode cX4_tell 49 = .ok (.iconst 2, 1) := by decide +kernel
theorem dX4_tell_50 : decode cX4_tell 50 = .ok (.invokevirtual 222, 3) := by decide +kernel
theorem dX4_tell_53 : decode cX4_tell 53 = .ok (.aload_n 0, 1) := by decide +kernel
theorem dX4_tell_54 : decode cX4_tell 54 = .ok (.iconst 1, 1) := by decide +kernel
theorem dX4_tell_55 : decode cX4_tell 55 = .ok (.invokevirtual 222, 3) := by decide +kernel
theorem dX4_tell_58 : decode cX4_tell 58 = .ok (.iload_n 2, 1) := by decide +kernel
theorem dX4_tell_59 : decode cX4_tell 59 = .ok (.bipush 100, 2) := by decide +kernel
theorem dX4_tell_61 : decode cX4_tell 61 = .ok (.iadd, 1) := by decide +kernel
theorem dX4_tell_62 : decode cX4_tell 62 = .ok (.ireturn, 1) := by decide +kernel
theorem dX4_tell_63 : decode cX4_tell 63 = .ok (.aload_n 0, 1) := by decide +kernel
theorem dX4_tell_64 : decode cX4_tell 64 = .ok (.iconst 3, 1) := by decide +kernel
theorem dX4_tell_65 : decode cX4_tell 65 = .ok (.invokevirtual 222, 3) := by decide +kernel
theorem dX4_tell_68 : decode cX4_tell 68 = .ok (.aload_n 0, 1) := by decide +kernel
theorem dX4_tell_69 : decode cX4_tell 69 = .ok (.iconst 2, 1) := by decide +kernel
theorem dX4_tell_70 : decode cX4_tell 70 = .ok (.invokevirtual 222, 3) := by decide +kernel
theorem dX4_tell_73 : decode cX4_tell 73 = .ok (.aload_n 0, 1) := by decide +kernel
theorem dX4_tell_74 : decode cX4_tell 74 = .ok (.iconst 1, 1) := by decide +kernel
theorem dX4_tell_75 : decode cX4_tell 75 = .ok (.invokevirtual 222, 3) := by decide +kernel
theorem dX4_tell_78 : decode cX4_tell 78 = .ok (.aload_n 0, 1) := by decide +kernel
theorem dX4_tell_79 : decode cX4_tell 79 = .ok (.iconst 1, 1) := by decide +kernel
theorem dX4_tell_80 : decode cX4_tell 80 = .ok (.invokevirtual 222, 3) := by decide +kernel
theorem dX4_tell_83 : decode cX4_tell 83 = .ok (.iconst 2, 1) := by decide +kernel
theorem dX4_tell_84 : decode cX4_tell 84 = .ok (.iload_n 2, 1) := by decide +kernel
theorem dX4_tell_85 : decode cX4_tell 85 = .ok (.imul, 1) := by decide +kernel
theorem dX4_tell_86 : decode cX4_tell 86 = .ok (.bipush 100, 2) := by decide +kernel
theorem dX4_tell_88 : decode cX4_tell 88 = .ok (.iadd, 1) := by decide +kernel
theorem dX4_tell_89 : decode cX4_tell 89 = .ok (.ireturn, 1) := by decide +kernel
theorem dX4_tell_90 : decode cX4_tell 90 = .ok (.aload_n 0, 1) := by decide +kernel
theorem dX4_tell_91 : decode cX4_tell 91 = .ok (.iconst 1, 1) := by decide +kernel
theorem dX4_tell_92 : decode cX4_tell 92 = .ok (.invokevirtual 222, 3) := by decide +kernel
theorem dX4_tell_95 : decode cX4_tell 95 = .ok (.iload_n 2, 1) := by decide +kernel
theorem dX4_tell_96 : decode cX4_tell 96 = .ok (.ireturn, 1) := by decide +kernel
theorem dX4_hail_0 : decode cX4_hail 0 = .ok (.aload_n 0, 1) := by decide +kernel
theorem dX4_hail_1 : decode cX4_hail 1 = .ok (.iload_n 1, 1) := by decide +kernel
theorem dX4_hail_2 : decode cX4_hail 2 = .ok (.invokevirtual 140, 3) := by decide +kernel
theorem dX4_hail_5 : decode cX4_hail 5 = .ok (.ifCond .ne 5, 3) := by decide +kernel
theorem dX4_hail_8 : decode cX4_hail 8 = .ok (.iconst (-1), 1) := by decide +kernel
theorem dX4_hail_9 : decode cX4_hail 9 = .ok (.ireturn, 1) := by decide +kernel
theorem dX4_hail_10 : decode cX4_hail 10 = .ok (.aload_n 0, 1) := by decide +kernel
theorem dX4_hail_11 : decode cX4_hail 11 = .ok (.aload_n 0, 1) := by decide +kernel
theorem dX4_hail_12 : decode cX4_hail 12 = .ok (.getfield 22, 3) := by decide +kernel
theorem dX4_hail_15 : decode cX4_hail 15 = .ok (.iload_n 1, 1) := by decide +kernel
theorem dX4_hail_16 : decode cX4_hail 16 = .ok (.iaload, 1) := by decide +kernel
theorem dX4_hail_17 : decode cX4_hail 17 = .ok (.iconst 2, 1) := by decide +kernel
theorem dX4_hail_18 : decode cX4_hail 18 = .ok (.if_icmp .ne 7, 3) := by decide +kernel
theorem dX4_hail_21 : decode cX4_hail 21 = .ok (.iconst 5, 1) := by decide +kernel
theorem dX4_hail_22 : decode cX4_hail 22 = .ok (.goto 4, 3) := by decide +kernel
theorem dX4_hail_25 : decode cX4_hail 25 = .ok (.iconst 4, 1) := by decide +kernel
theorem dX4_hail_26 : decode cX4_hail 26 = .ok (.invokevirtual 222, 3) := by decide +kernel
theorem dX4_hail_29 : decode cX4_hail 29 = .ok (.aload_n 0, 1) := by decide +kernel
theorem dX4_hail_30 : decode cX4_hail 30 = .ok (.getfield 22, 3) := by decide +kernel
theorem dX4_hail_33 : decode cX4_hail 33 = .ok (.iload_n 1, 1) := by decide +kernel
theorem dX4_hail_34 : decode cX4_hail 34 = .ok (.iaload, 1) := by decide +kernel
theorem dX4_hail_35 : decode cX4_hail 35 = .ok (.iconst 2, 1) := by decide +kernel
theorem dX4_hail_36 : decode cX4_hail 36 = .ok (.if_icmp .ne 8, 3) := by decide +kernel
theorem dX4_hail_39 : decode cX4_hail 39 = .ok (.bipush 90, 2) := by decide +kernel
theorem dX4_hail_41 : decode cX4_hail 41 = .ok (.goto 9, 3) := by decide +kernel
theorem dX4_hail_44 : decode cX4_hail 44 = .ok (.aload_n 0, 1) := by decide +kernel
theorem dX4_hail_45 : decode cX4_hail 45 = .ok (.getfield 28, 3) := by decide +kernel
theorem dX4_hail_48 : decode cX4_hail 48 = .ok (.iload_n 1, 1) := by decide +kernel
theorem dX4_hail_49 : decode cX4_hail 49 = .ok (.iaload, 1) := by decide +kernel
theorem dX4_hail_50 : decode cX4_hail 50 = .ok (.ireturn, 1) := by decide +kernel
theorem dX4_as_0 : decode cX4_as 0 = .ok (.aload_n 0, 1) := by decide +kernel
theorem dX4_as_1 : decode cX4_as 1 = .ok (.iconst 0, 1) := by decide +kernel
theorem dX4_as_2 : decode cX4_as 2 = .ok (.putfield 58, 3) := by decide +kernel
theorem dX4_as_5 : decode cX4_as 5 = .ok (.aload_n 0, 1) := by decide +kernel
theorem dX4_as_6 : decode cX4_as 6 = .ok (.iload_n 1, 1) := by decide +kernel
theorem dX4_as_7 : decode cX4_as 7 = .ok (.invokevirtual 140, 3) := by decide +kernel
theorem dX4_as_10 : decode cX4_as 10 = .ok (.ifCond .ne 5, 3) := by decide +kernel
theorem dX4_as_13 : decode cX4_as 13 = .ok (.iconst (-1), 1) := by decide +kernel
theorem dX4_as_14 : decode cX4_as 14 = .ok (.ireturn, 1) := by decide +kernel
theorem dX4_as_15 : decode cX4_as 15 = .ok (.iload_n 2, 1) := by decide +kernel
theorem dX4_as_16 : decode cX4_as 16 = .ok (.iconst 0, 1) := by decide +kernel
theorem dX4_as_17 : decode cX4_as 17 = .ok (.iconst 2, 1) := by decide +kernel
theorem dX4_as_18 : decode cX4_as 18 = .ok (.invokestatic 64, 3) := by decide +kernel
theorem dX4_as_21 : decode cX4_as 21 = .ok (.ifCond .ne 6, 3) := by decide +kernel
theorem dX4_as_24 : decode cX4_as 24 = .ok (.bipush (-2), 2) := by decide +kernel
theorem dX4_as_26 : decode cX4_as 26 = .ok (.ireturn, 1) := by decide +kernel
theorem dX4_as_27 : decode cX4_as 27 = .ok (.aload_n 0, 1) := by decide +kernel
theorem dX4_as_28 : decode cX4_as 28 = .ok (.getfield 22, 3) := by decide +kernel
theorem dX4_as_31 : decode cX4_as 31 = .ok (.iload_n 1, 1) := by decide +kernel
theorem dX4_as_32 : decode cX4_as 32 = .ok (.iaload, 1) := by decide +kernel
theorem dX4_as_33 : decode cX4_as 33 = .ok (.iload_n 2, 1) := by decide +kernel
theorem dX4_as_34 : decode cX4_as 34 = .ok (.if_icmp .lt 7, 3) := by decide +kernel
theorem dX4_as_37 : decode cX4_as 37 = .ok (.iconst 1, 1) := by decide +kernel
theorem dX4_as_38 : decode cX4_as 38 = .ok (.goto 8, 3) := by decide +kernel
theorem dX4_as_41 : decode cX4_as 41 = .ok (.aload_n 0, 1) := by decide +kernel
theorem dX4_as_42 : decode cX4_as 42 = .ok (.iconst 2, 1) := by decide +kernel
theorem dX4_as_43 : decode cX4_as 43 = .ok (.invokevirtual 95, 3) := by decide +kernel
theorem dX4_as_46 : decode cX4_as 46 = .ok (.ireturn, 1) := by decide +kernel
theorem dX4_trace_0 : decode cX4_trace 0 = .ok (.aload_n 0, 1) := by decide +kernel
theorem dX4_trace_1 : decode cX4_trace 1 = .ok (.getfield 219, 3) := by decide +kernel
theorem dX4_trace_4 : decode cX4_trace 4 = .ok (.ireturn, 1) := by decide +kernel
theorem dX4_fault_0 : decode cX4_fault 0 = .ok (.aload_n 0, 1) := by decide +kernel
theorem dX4_fault_1 : decode cX4_fault 1 = .ok (.getfield 58, 3) := by decide +kernel
theorem dX4_fault_4 : decode cX4_fault 4 = .ok (.ireturn, 1) := by decide +kernel
theorem dX4_many_0 : decode cX4_many 0 = .ok (.iload_n 1, 1) := by decide +kernel
theorem dX4_many_1 : decode cX4_many 1 = .ok (.tableswitch 60 0 4 #[35, 40, 45, 50, 55], 35) := by decide +kernel
theorem dX4_many_36 : decode cX4_many 36 = .ok (.aload_n 0, 1) := by decide +kernel
theorem dX4_many_37 : decode cX4_many 37 = .ok (.getfield 68, 3) := by decide +kernel
theorem dX4_many_40 : decode cX4_many 40 = .ok (.ireturn, 1) := by decide +kernel
theorem dX4_many_41 : decode cX4_many 41 = .ok (.aload_n 0, 1) := by decide +kernel
theorem dX4_many_42 : decode cX4_many 42 = .ok (.getfield 75, 3) := by decide +kernel
theorem dX4_many_45 : decode cX4_many 45 = .ok (.ireturn, 1) := by decide +kernel
theorem dX4_many_46 : decode cX4_many 46 = .ok (.aload_n 0, 1) := by decide +kernel
theorem dX4_many_47 : decode cX4_many 47 = .ok (.getfield 117, 3) := by decide +kernel
theorem dX4_many_50 : decode cX4_many 50 = .ok (.ireturn, 1) := by decide +kernel
theorem dX4_many_51 : decode cX4_many 51 = .ok (.aload_n 0, 1) := by decide +kernel
theorem dX4_many_52 : decode cX4_many 52 = .ok (.getfield 120, 3) := by decide +kernel
theorem dX4_many_55 : decode cX4_many 55 = .ok (.ireturn, 1) := by decide +kernel
theorem dX4_many_56 : decode cX4_many 56 = .ok (.aload_n 0, 1) := by decide +kernel
theorem dX4_many_57 : decode cX4_many 57 = .ok (.getfield 123, 3) := by decide +kernel
theorem dX4_many_60 : decode cX4_many 60 = .ok (.ireturn, 1) := by decide +kernel
theorem dX4_many_61 : decode cX4_many 61 = .ok (.bipush (-2), 2) := by decide +kernel
theorem dX4_many_63 : decode cX4_many 63 = .ok (.ireturn, 1) := by decide +kernel
