theorem dX0_init_0 : decode cX0_init 0 = .ok (.aload_n 0, 1) := by decide +kernel
theorem dX0_init_1 : decode cX0_init 1 = .ok (.invokespecial 3, 3) := by decide +kernel
theorem dX0_init_4 : decode cX0_init 4 = .ok (.aload_n 0, 1) := by decide +kernel
theorem dX0_init_5 : decode cX0_init 5 = .ok (.iconst 0, 1) := by decide +kernel
theorem dX0_init_6 : decode cX0_init 6 = .ok (.putfield 9, 3) := by decide +kernel
theorem dX0_init_9 : decode cX0_init 9 = .ok (.aload_n 0, 1) := by decide +kernel
theorem dX0_init_10 : decode cX0_init 10 = .ok (.iconst 0, 1) := by decide +kernel
theorem dX0_init_11 : decode cX0_init 11 = .ok (.putfield 15, 3) := by decide +kernel
theorem dX0_init_14 : decode cX0_init 14 = .ok (.aload_n 0, 1) := by decide +kernel
theorem dX0_init_15 : decode cX0_init 15 = .ok (.iconst 0, 1) := by decide +kernel
theorem dX0_init_16 : decode cX0_init 16 = .ok (.putfield 18, 3) := by decide +kernel
theorem dX0_init_19 : decode cX0_init 19 = .ok (.aload_n 0, 1) := by decide +kernel
theorem dX0_init_20 : decode cX0_init 20 = .ok (.bipush 10, 2) := by decide +kernel
theorem dX0_init_22 : decode cX0_init 22 = .ok (.newarray .int, 2) := by decide +kernel
theorem dX0_init_24 : decode cX0_init 24 = .ok (.putfield 21, 3) := by decide +kernel
theorem dX0_init_27 : decode cX0_init 27 = .ok (.aload_n 0, 1) := by decide +kernel
theorem dX0_init_28 : decode cX0_init 28 = .ok (.iconst 5, 1) := by decide +kernel
theorem dX0_init_29 : decode cX0_init 29 = .ok (.newarray .int, 2) := by decide +kernel
theorem dX0_init_31 : decode cX0_init 31 = .ok (.putfield 25, 3) := by decide +kernel
theorem dX0_init_34 : decode cX0_init 34 = .ok (.aload_n 0, 1) := by decide +kernel
theorem dX0_init_35 : decode cX0_init 35 = .ok (.iconst 5, 1) := by decide +kernel
theorem dX0_init_36 : decode cX0_init 36 = .ok (.newarray .int, 2) := by decide +kernel
theorem dX0_init_38 : decode cX0_init 38 = .ok (.putfield 28, 3) := by decide +kernel
theorem dX0_init_41 : decode cX0_init 41 = .ok (.aload_n 0, 1) := by decide +kernel
theorem dX0_init_42 : decode cX0_init 42 = .ok (.iconst 5, 1) := by decide +kernel
theorem dX0_init_43 : decode cX0_init 43 = .ok (.newarray .int, 2) := by decide +kernel
theorem dX0_init_45 : decode cX0_init 45 = .ok (.putfield 31, 3) := by decide +kernel
theorem dX0_init_48 : decode cX0_init 48 = .ok (.aload_n 0, 1) := by decide +kernel
theorem dX0_init_49 : decode cX0_init 49 = .ok (.iconst 5, 1) := by decide +kernel
theorem dX0_init_50 : decode cX0_init 50 = .ok (.newarray .int, 2) := by decide +kernel
theorem dX0_init_52 : decode cX0_init 52 = .ok (.putfield 34, 3) := by decide +kernel
theorem dX0_init_55 : decode cX0_init 55 = .ok (.return_, 1) := by decide +kernel
theorem dX0_clear_0 : decode cX0_clear 0 = .ok (.aload_n 0, 1) := by decide +kernel
theorem dX0_clear_1 : decode cX0_clear 1 = .ok (.iconst 0, 1) := by decide +kernel
theorem dX0_clear_2 : decode cX0_clear 2 = .ok (.putfield 9, 3) := by decide +kernel
theorem dX0_clear_5 : decode cX0_clear 5 = .ok (.aload_n 0, 1) := by decide +kernel
theorem dX0_clear_6 : decode cX0_clear 6 = .ok (.iconst 0, 1) := by decide +kernel
theorem dX0_clear_7 : decode cX0_clear 7 = .ok (.putfield 15, 3) := by decide +kernel
theorem dX0_clear_10 : decode cX0_clear 10 = .ok (.aload_n 0, 1) := by decide +kernel
theorem dX0_clear_11 : decode cX0_clear 11 = .ok (.iconst 0, 1) := by decide +kernel
theorem dX0_clear_12 : decode cX0_clear 12 = .ok (.putfield 18, 3) := by decide +kernel
theorem dX0_clear_15 : decode cX0_clear 15 = .ok (.return_, 1) := by decide +kernel
theorem dX0_become_0 : decode cX0_become 0 = .ok (.aload_n 0, 1) := by decide +kernel
theorem dX0_become_1 : decode cX0_become 1 = .ok (.aload_n 1, 1) := by decide +kernel
theorem dX0_become_2 : decode cX0_become 2 = .ok (.getfield 9, 3) := by decide +kernel
theorem dX0_become_5 : decode cX0_become 5 = .ok (.putfield 9, 3) := by decide +kernel
theorem dX0_become_8 : decode cX0_become 8 = .ok (.aload_n 0, 1) := by decide +kernel
theorem dX0_become_9 : decode cX0_become 9 = .ok (.aload_n 1, 1) := by decide +kernel
theorem dX0_become_10 : decode cX0_become 10 = .ok (.getfield 15, 3) := by decide +kernel
theorem dX0_become_13 : decode cX0_become 13 = .ok (.putfield 15, 3) := by decide +kernel
theorem dX0_become_16 : decode cX0_become 16 = .ok (.aload_n 0, 1) := by decide +kernel
theorem dX0_become_17 : decode cX0_become 17 = .ok (.aload_n 1, 1) := by decide +kernel
theorem dX0_become_18 : decode cX0_become 18 = .ok (.getfield 18, 3) := by decide +kernel
theorem dX0_become_21 : decode cX0_become 21 = .ok (.putfield 18, 3) := by decide +kernel
theorem dX0_become_24 : decode cX0_become 24 = .ok (.aload_n 1, 1) := by decide +kernel
theorem dX0_become_25 : decode cX0_become 25 = .ok (.getfield 21, 3) := by decide +kernel
theorem dX0_become_28 : decode cX0_become 28 = .ok (.iconst 0, 1) := by decide +kernel
theorem dX0_become_29 : decode cX0_become 29 = .ok (.aload_n 0, 1) := by decide +kernel
theorem dX0_become_30 : decode cX0_become 30 = .ok (.getfield 21, 3) := by decide +kernel
theorem dX0_become_33 : decode cX0_become 33 = .ok (.iconst 0, 1) := by decide +kernel
theorem dX0_become_34 : decode cX0_become 34 = .ok (.bipush 10, 2) := by decide +kernel
theorem dX0_become_36 : decode cX0_become 36 = .ok (.invokestatic 37, 3) := by decide +kernel
theorem dX0_become_39 : decode cX0_become 39 = .ok (.aload_n 1, 1) := by decide +kernel
theorem dX0_become_40 : decode cX0_become 40 = .ok (.getfield 25, 3) := by decide +kernel
theorem dX0_become_43 : decode cX0_become 43 = .ok (.iconst 0, 1) := by decide +kernel
theorem dX0_become_44 : decode cX0_become 44 = .ok (.aload_n 0, 1) := by decide +kernel
theorem dX0_become_45 : decode cX0_become 45 = .ok (.getfield 25, 3) := by decide +kernel
theorem dX0_become_48 : decode cX0_become 48 = .ok (.iconst 0, 1) := by decide +kernel
theorem dX0_become_49 : decode cX0_become 49 = .ok (.iconst 5, 1) := by decide +kernel
theorem dX0_become_50 : decode cX0_become 50 = .ok (.invokestatic 37, 3) := by decide +kernel
theorem dX0_become_53 : decode cX0_become 53 = .ok (.aload_n 1, 1) := by decide +kernel
theorem dX0_become_54 : decode cX0_become 54 = .ok (.getfield 28, 3) := by decide +kernel
theorem dX0_become_57 : decode cX0_become 57 = .ok (.iconst 0, 1) := by decide +kernel
theorem dX0_become_58 : decode cX0_become 58 = .ok (.aload_n 0, 1) := by decide +kernel
theorem dX0_become_59 : decode cX0_become 59 = .ok (.getfield 28, 3) := by decide +kernel
theorem dX0_become_62 : decode cX0_become 62 = .ok (.iconst 0, 1) := by decide +kernel
theorem dX0_become_63 : decode cX0_become 63 = .ok (.iconst 5, 1) := by decide +kernel
theorem dX0_become_64 : decode cX0_become 64 = .ok (.invokestatic 37, 3) := by decide +kernel
theorem dX0_become_67 : decode cX0_become 67 = .ok (.aload_n 1, 1) := by decide +kernel
theorem dX0_become_68 : decode cX0_become 68 = .ok (.getfield 31, 3) := by decide +kernel
theorem dX0_become_71 : decode cX0_become 71 = .ok (.iconst 0, 1) := by decide +kernel
theorem dX0_become_72 : decode cX0_become 72 = .ok (.aload_n 0, 1) := by decide +kernel
theorem dX0_become_73 : decode cX0_become 73 = .ok (.getfield 31, 3) := by decide +kernel
theorem dX0_become_76 : decode cX0_become 76 = .ok (.iconst 0, 1) := by decide +kernel
theorem dX0_become_77 : decode cX0_become 77 = .ok (.iconst 5, 1) := by decide +kernel
theorem dX0_become_78 : decode cX0_become 78 = .ok (.invokestatic 37, 3) := by decide +kernel
theorem dX0_become_81 : decode cX0_become 81 = .ok (.return_, 1) := by decide +kernel
theorem dX0_hedges_0 : decode cX0_hedges 0 = .ok (.aload_n 0, 1) := by decide +kernel
theorem dX0_hedges_1 : decode cX0_hedges 1 = .ok (.getfield 9, 3) := by decide +kernel
theorem dX0_hedges_4 : decode cX0_hedges 4 = .ok (.aload_n 0, 1) := by decide +kernel
theorem dX0_hedges_5 : decode cX0_hedges 5 = .ok (.getfield 9, 3) := by decide +kernel
theorem dX0_hedges_8 : decode cX0_hedges 8 = .ok (.iconst 1, 1) := by decide +kernel
theorem dX0_hedges_9 : decode cX0_hedges 9 = .ok (.isub, 1) := by decide +kernel
theorem dX0_hedges_10 : decode cX0_hedges 10 = .ok (.imul, 1) := by decide +kernel
theorem dX0_hedges_11 : decode cX0_hedges 11 = .ok (.iconst 2, 1) := by decide +kernel
theorem dX0_hedges_12 : decode cX0_hedges 12 = .ok (.idiv, 1) := by decide +kernel
theorem dX0_hedges_13 : decode cX0_hedges 13 = .ok (.ireturn, 1) := by decide +kernel
theorem dX0_hedgeOf_0 : decode cX0_hedgeOf 0 = .ok (.iload_n 1, 1) := by decide +kernel
theorem dX0_hedgeOf_1 : decode cX0_hedgeOf 1 = .ok (.iload_n 2, 1) := by decide +kernel
theorem dX0_hedgeOf_2 : decode cX0_hedgeOf 2 = .ok (.invokestatic 43, 3) := by decide +kernel
theorem dX0_hedgeOf_5 : decode cX0_hedgeOf 5 = .ok (.istore_n 3, 1) := by decide +kernel
theorem dX0_hedgeOf_6 : decode cX0_hedgeOf 6 = .ok (.iload_n 1, 1) := by decide +kernel
theorem dX0_hedgeOf_7 : decode cX0_hedgeOf 7 = .ok (.iload_n 2, 1) := by decide +kernel
theorem dX0_hedgeOf_8 : decode cX0_hedgeOf 8 = .ok (.invokestatic 49, 3) := by decide +kernel
theorem dX0_hedgeOf_11 : decode cX0_hedgeOf 11 = .ok (.istore 4, 2) := by decide +kernel
theorem dX0_hedgeOf_13 : decode cX0_hedgeOf 13 = .ok (.iload_n 3, 1) := by decide +kernel
theorem dX0_hedgeOf_14 : decode cX0_hedgeOf 14 = .ok (.iconst 2, 1) := by decide +kernel
theorem dX0_hedgeOf_15 : decode cX0_hedgeOf 15 = .ok (.aload_n 0, 1) := by decide +kernel
theorem dX0_hedgeOf_16 : decode cX0_hedgeOf 16 = .ok (.getfield 9, 3) := by decide +kernel
theorem dX0_hedgeOf_19 : decode cX0_hedgeOf 19 = .ok (.imul, 1) := by decide +kernel
theorem dX0_hedgeOf_20 : decode cX0_hedgeOf 20 = .ok (.iload_n 3, 1) := by decide +kernel
theorem dX0_hedgeOf_21 : decode cX0_hedgeOf 21 = .ok (.isub, 1) := by decide +kernel
theorem dX0_hedgeOf_22 : decode cX0_hedgeOf 22 = .ok (.iconst 1, 1) := by decide +kernel
theorem dX0_hedgeOf_23 : decode cX0_hedgeOf 23 = .ok (.isub, 1) := by decide +kernel
theorem dX0_hedgeOf_24 : decode cX0_hedgeOf 24 = .ok (.imul, 1) := by decide +kernel
theorem dX0_hedgeOf_25 : decode cX0_hedgeOf 25 = .ok (.iconst 2, 1) := by decide +kernel
theorem dX0_hedgeOf_26 : decode cX0_hedgeOf 26 = .ok (.idiv, 1) := by decide +kernel
theorem dX0_hedgeOf_27 : decode cX0_hedgeOf 27 = .ok (.iload 4, 2) := by decide +kernel
theorem dX0_hedgeOf_29 : decode cX0_hedgeOf 29 = .ok (.iadd, 1) := by decide +kernel
theorem dX0_hedgeOf_30 : decode cX0_hedgeOf 30 = .ok (.iload_n 3, 1) := by decide +kernel
theorem dX0_hedgeOf_31 : decode cX0_hedgeOf 31 = .ok (.isub, 1) := by decide +kernel
theorem dX0_hedgeOf_32 : decode cX0_hedgeOf 32 = .ok (.iconst 1, 1) := by decide +kernel
theorem dX0_hedgeOf_33 : decode cX0_hedgeOf 33 = .ok (.isub, 1) := by decide +kernel
theorem dX0_hedgeOf_34 : decode cX0_hedgeOf 34 = .ok (.ireturn, 1) := by decide +kernel
theorem dX0_thickOf_0 : decode cX0_thickOf 0 = .ok (.aload_n 0, 1) := by decide +kernel
theorem dX0_thickOf_1 : decode cX0_thickOf 1 = .ok (.getfield 25, 3) := by decide +kernel
theorem dX0_thickOf_4 : decode cX0_thickOf 4 = .ok (.iload_n 1, 1) := by decide +kernel
theorem dX0_thickOf_5 : decode cX0_thickOf 5 = .ok (.iaload, 1) := by decide +kernel
theorem dX0_thickOf_6 : decode cX0_thickOf 6 = .ok (.aload_n 0, 1) := by decide +kernel
theorem dX0_thickOf_7 : decode cX0_thickOf 7 = .ok (.getfield 28, 3) := by decide +kernel
theorem dX0_thickOf_10 : decode cX0_thickOf 10 = .ok (.iload_n 1, 1) := by decide +kernel
theorem dX0_thickOf_11 : decode cX0_thickOf 11 = .ok (.iaload, 1) := by decide +kernel
theorem dX0_thickOf_12 : decode cX0_thickOf 12 = .ok (.invokestatic 52, 3) := by decide +kernel
theorem dX0_thickOf_15 : decode cX0_thickOf 15 = .ok (.ireturn, 1) := by decide +kernel
theorem dX0_letsBetween_0 : decode cX0_letsBetween 0 = .ok (.iload_n 1, 1) := by decide +kernel
theorem dX0_letsBetween_1 : decode cX0_letsBetween 1 = .ok (.iload_n 2, 1) := by decide +kernel
theorem dX0_letsBetween_2 : decode cX0_letsBetween 2 = .ok (.if_icmp .eq 25, 3) := by decide +kernel
theorem dX0_letsBetween_5 : decode cX0_letsBetween 5 = .ok (.aload_n 0, 1) := by decide +kernel
theorem dX0_letsBetween_6 : decode cX0_letsBetween 6 = .ok (.getfield 21, 3) := by decide +kernel
theorem dX0_letsBetween_9 : decode cX0_letsBetween 9 = .ok (.aload_n 0, 1) := by decide +kernel
theorem dX0_letsBetween_10 : decode cX0_letsBetween 10 = .ok (.iload_n 1, 1) := by decide +kernel
theorem dX0_letsBetween_11 : decode cX0_letsBetween 11 = .ok (.iload_n 2, 1) := by decide +kernel
theorem dX0_letsBetween_12 : decode cX0_letsBetween 12 = .ok (.invokevirtual 55, 3) := by decide +kernel
theorem dX0_letsBetween_15 : decode cX0_letsBetween 15 = .ok (.iaload, 1) := by decide +kernel
theorem dX0_letsBetween_16 : decode cX0_letsBetween 16 = .ok (.iload_n 3, 1) := by decide +kernel
theorem dX0_letsBetween_17 : decode cX0_letsBetween 17 = .ok (.invokestatic 58, 3) := by decide +kernel
theorem dX0_letsBetween_20 : decode cX0_letsBetween 20 = .ok (.ifCond .eq 7, 3) := by decide +kernel
theorem dX0_letsBetween_23 : decode cX0_letsBetween 23 = .ok (.iconst 1, 1) := by decide +kernel
theorem dX0_letsBetween_24 : decode cX0_letsBetween 24 = .ok (.goto 4, 3) := by decide +kernel
theorem dX0_letsBetween_27 : decode cX0_letsBetween 27 = .ok (.iconst 0, 1) := by decide +kernel
theorem dX0_letsBetween_28 : decode cX0_letsBetween 28 = .ok (.ireturn, 1) := by decide +kernel
theorem dX0_reads_0 : decode cX0_reads 0 = .ok (.iload_n 1, 1) := by decide +kernel
theorem dX0_reads_1 : decode cX0_reads 1 = .ok (.ifCond .ne 15, 3) := by decide +kernel
theorem dX0_reads_4 : decode cX0_reads 4 = .ok (.iload_n 2, 1) := by decide +kernel
theorem dX0_reads_5 : decode cX0_reads 5 = .ok (.bipush 104, 2) := by decide +kernel
theorem dX0_reads_7 : decode cX0_reads 7 = .ok (.if_icmp .ne 7, 3) := by decide +kernel
theorem dX0_reads_10 : decode cX0_reads 10 = .ok (.iconst 1, 1) := by decide +kernel
theorem dX0_reads_11 : decode cX0_reads 11 = .ok (.goto 4, 3) := by decide +kernel
theorem dX0_reads_14 : decode cX0_reads 14 = .ok (.iconst 0, 1) := by decide +kernel
theorem dX0_reads_15 : decode cX0_reads 15 = .ok (.ireturn, 1) := by decide +kernel
theorem dX0_reads_16 : decode cX0_reads 16 = .ok (.iload_n 1, 1) := by decide +kernel
theorem dX0_reads_17 : decode cX0_reads 17 = .ok (.iconst 1, 1) := by decide +kernel
theorem dX0_reads_18 : decode cX0_reads 18 = .ok (.if_icmp .ne 37, 3) := by decide +kernel
theorem dX0_reads_21 : decode cX0_reads 21 = .ok (.iload_n 2, 1) := by decide +kernel
theorem dX0_reads_22 : decode cX0_reads 22 = .ok (.iconst 2, 1) := by decide +kernel
theorem dX0_reads_23 : decode cX0_reads 23 = .ok (.iconst 5, 1) := by decide +kernel
theorem dX0_reads_24 : decode cX0_reads 24 = .ok (.invokestatic 62, 3) := by decide +kernel
theorem dX0_reads_27 : decode cX0_reads 27 = .ok (.istore_n 3, 1) := by decide +kernel
theorem dX0_reads_28 : decode cX0_reads 28 = .ok (.aload_n 0, 1) := by decide +kernel
theorem dX0_reads_29 : decode cX0_reads 29 = .ok (.iload_n 3, 1) := by decide +kernel
theorem dX0_reads_30 : decode cX0_reads 30 = .ok (.bipush (-9), 2) := by decide +kernel
theorem dX0_reads_32 : decode cX0_reads 32 = .ok (.if_icmp .ne 7, 3) := by decide +kernel
theorem dX0_reads_35 : decode cX0_reads 35 = .ok (.iconst 0, 1) := by decide +kernel
theorem dX0_reads_36 : decode cX0_reads 36 = .ok (.goto 4, 3) := by decide +kernel
theorem dX0_reads_39 : decode cX0_reads 39 = .ok (.iload_n 3, 1) := by decide +kernel
theorem dX0_reads_40 : decode cX0_reads 40 = .ok (.putfield 9, 3) := by decide +kernel
theorem dX0_reads_43 : decode cX0_reads 43 = .ok (.iload_n 3, 1) := by decide +kernel
theorem dX0_reads_44 : decode cX0_reads 44 = .ok (.bipush (-9), 2) := by decide +kernel
theorem dX0_reads_46 : decode cX0_reads 46 = .ok (.if_icmp .eq 7, 3) := by decide +kernel
theorem dX0_reads_49 : decode cX0_reads 49 = .ok (.iconst 1, 1) := by decide +kernel
theorem dX0_reads_50 : decode cX0_reads 50 = .ok (.goto 4, 3) := by decide +kernel
theorem dX0_reads_53 : decode cX0_reads 53 = .ok (.iconst 0, 1) := by decide +kernel
theorem dX0_reads_54 : decode cX0_reads 54 = .ok (.ireturn, 1) := by decide +kernel
theorem dX0_reads_55 : decode cX0_reads 55 = .ok (.iload_n 1, 1) := by decide +kernel
theorem dX0_reads_56 : decode cX0_reads 56 = .ok (.iconst 2, 1) := by decide +kernel
theorem dX0_reads_57 : decode cX0_reads 57 = .ok (.isub, 1) := by decide +kernel
theorem dX0_reads_58 : decode cX0_reads 58 = .ok (.istore_n 3, 1) := by decide +kernel
theorem dX0_reads_59 : decode cX0_reads 59 = .ok (.iload_n 3, 1) := by decide +kernel
theorem dX0_reads_60 : decode cX0_reads 60 = .ok (.aload_n 0, 1) := by decide +kernel
theorem dX0_reads_61 : decode cX0_reads 61 = .ok (.invokevirtual 66, 3) := by decide +kernel
theorem dX0_reads_64 : decode cX0_reads 64 = .ok (.if_icmp .ge 33, 3) := by decide +kernel
theorem dX0_reads_67 : decode cX0_reads 67 = .ok (.aload_n 0, 1) := by decide +kernel
theorem dX0_reads_68 : decode cX0_reads 68 = .ok (.getfield 21, 3) := by decide +kernel
theorem dX0_reads_71 : decode cX0_reads 71 = .ok (.iload_n 3, 1) := by decide +kernel
theorem dX0_reads_72 : decode cX0_reads 72 = .ok (.iload_n 2, 1) := by decide +kernel
theorem dX0_reads_73 : decode cX0_reads 73 = .ok (.iconst 0, 1) := by decide +kernel
theorem dX0_reads_74 : decode cX0_reads 74 = .ok (.bipush 9, 2) := by decide +kernel
theorem dX0_reads_76 : decode cX0_reads 76 = .ok (.invokestatic 62, 3) := by decide +kernel
theorem dX0_reads_79 : decode cX0_reads 79 = .ok (.iastore, 1) := by decide +kernel
theorem dX0_reads_80 : decode cX0_reads 80 = .ok (.aload_n 0, 1) := by decide +kernel
theorem dX0_reads_81 : decode cX0_reads 81 = .ok (.getfield 21, 3) := by decide +kernel
theorem dX0_reads_84 : decode cX0_reads 84 = .ok (.iload_n 3, 1) := by decide +kernel
theorem dX0_reads_85 : decode cX0_reads 85 = .ok (.iaload, 1) := by decide +kernel
theorem dX0_reads_86 : decode cX0_reads 86 = .ok (.bipush (-9), 2) := by decide +kernel
theorem dX0_reads_88 : decode cX0_reads 88 = .ok (.if_icmp .eq 7, 3) := by decide +kernel
theorem dX0_reads_91 : decode cX0_reads 91 = .ok (.iconst 1, 1) := by decide +kernel
theorem dX0_reads_92 : decode cX0_reads 92 = .ok (.goto 4, 3) := by decide +kernel
theorem dX0_reads_95 : decode cX0_reads 95 = .ok (.iconst 0, 1) := by decide +kernel
theorem dX0_reads_96 : decode cX0_reads 96 = .ok (.ireturn, 1) := by decide +kernel
theorem dX0_reads_97 : decode cX0_reads 97 = .ok (.iload_n 3, 1) := by decide +kernel
theorem dX0_reads_98 : decode cX0_reads 98 = .ok (.aload_n 0, 1) := by decide +kernel
theorem dX0_reads_99 : decode cX0_reads 99 = .ok (.invokevirtual 66, 3) := by decide +kernel
theorem dX0_reads_102 : decode cX0_reads 102 = .ok (.isub, 1) := by decide +kernel
theorem dX0_reads_103 : decode cX0_reads 103 = .ok (.istore 4, 2) := by decide +kernel
theorem dX0_reads_105 : decode cX0_reads 105 = .ok (.iload 4, 2) := by decide +kernel
theorem dX0_reads_107 : decode cX0_reads 107 = .ok (.bipush 20, 2) := by decide +kernel
theorem dX0_reads_109 : decode cX0_reads 109 = .ok (.if_icmp .ge 23, 3) := by decide +kernel
theorem dX0_reads_112 : decode cX0_reads 112 = .ok (.aload_n 0, 1) := by decide +kernel
theorem dX0_reads_113 : decode cX0_reads 113 = .ok (.iload 4, 2) := by decide +kernel
theorem dX0_reads_115 : decode cX0_reads 115 = .ok (.iconst 4, 1) := by decide +kernel
theorem dX0_reads_116 : decode cX0_reads 116 = .ok (.idiv, 1) := by decide +kernel
theorem dX0_reads_117 : decode cX0_reads 117 = .ok (.iload 4, 2) := by decide +kernel
theorem dX0_reads_119 : decode cX0_reads 119 = .ok (.iconst 4, 1) := by decide +kernel
theorem dX0_reads_120 : decode cX0_reads 120 = .ok (.irem, 1) := by decide +kernel
theorem dX0_reads_121 : decode cX0_reads 121 = .ok (.iload_n 2, 1) := by decide +kernel
theorem dX0_reads_122 : decode cX0_reads 122 = .ok (.invokevirtual 70, 3) := by decide +kernel
theorem dX0_reads_125 : decode cX0_reads 125 = .ok (.ifCond .eq 7, 3) := by decide +kernel
theorem dX0_reads_128 : decode cX0_reads 128 = .ok (.iconst 1, 1) := by decide +kernel
theorem dX0_reads_129 : decode cX0_reads 129 = .ok (.goto 4, 3) := by decide +kernel
theorem dX0_reads_132 : decode cX0_reads 132 = .ok (.iconst 0, 1) := by decide +kernel
theorem dX0_reads_133 : decode cX0_reads 133 = .ok (.ireturn, 1) := by decide +kernel
theorem dX0_readsGoer_0 : decode cX0_readsGoer 0 = .ok (.iload_n 2, 1) := by decide +kernel
theorem dX0_readsGoer_1 : decode cX0_readsGoer 1 = .ok (.tableswitch 96 0 2 #[27, 39, 66], 27) := by decide +kernel
theorem dX0_readsGoer_28 : decode cX0_readsGoer 28 = .ok (.iload_n 3, 1) := by decide +kernel
theorem dX0_readsGoer_29 : decode cX0_readsGoer 29 = .ok (.bipush 59, 2) := by decide +kernel
theorem dX0_readsGoer_31 : decode cX0_readsGoer 31 = .ok (.if_icmp .ne 7, 3) := by decide +kernel
theorem dX0_readsGoer_34 : decode cX0_readsGoer 34 = .ok (.iconst 1, 1) := by decide +kernel
theorem dX0_readsGoer_35 : decode cX0_readsGoer 35 = .ok (.goto 4, 3) := by decide +kernel
theorem dX0_readsGoer_38 : decode cX0_readsGoer 38 = .ok (.iconst 0, 1) := by decide +kernel
theorem dX0_readsGoer_39 : decode cX0_readsGoer 39 = .ok (.ireturn, 1) := by decide +kernel
theorem dX0_readsGoer_40 : decode cX0_readsGoer 40 = .ok (.aload_n 0, 1) := by decide +kernel
theorem dX0_readsGoer_41 : decode cX0_readsGoer 41 = .ok (.getfield 25, 3) := by decide +kernel
theorem dX0_readsGoer_44 : decode cX0_readsGoer 44 = .ok (.iload_n 1, 1) := by decide +kernel
theorem dX0_readsGoer_45 : decode cX0_readsGoer 45 = .ok (.iload_n 3, 1) := by decide +kernel
theorem dX0_readsGoer_46 : decode cX0_readsGoer 46 = .ok (.invokestatic 74, 3) := by decide +kernel
theorem dX0_readsGoer_49 : decode cX0_readsGoer 49 = .ok (.iastore, 1) := by decide +kernel
theorem dX0_readsGoer_50 : decode cX0_readsGoer 50 = .ok (.aload_n 0, 1) := by decide +kernel
theorem dX0_readsGoer_51 : decode cX0_readsGoer 51 = .ok (.getfield 25, 3) := by decide +kernel
theorem dX0_readsGoer_54 : decode cX0_readsGoer 54 = .ok (.iload_n 1, 1) := by decide +kernel
theorem dX0_readsGoer_55 : decode cX0_readsGoer 55 = .ok (.iaload, 1) := by decide +kernel
theorem dX0_readsGoer_56 : decode cX0_readsGoer 56 = .ok (.bipush (-9), 2) := by decide +kernel
theorem dX0_readsGoer_58 : decode cX0_readsGoer 58 = .ok (.if_icmp .eq 7, 3) := by decide +kernel
theorem dX0_readsGoer_61 : decode cX0_readsGoer 61 = .ok (.iconst 1, 1) := by decide +kernel
theorem dX0_readsGoer_62 : decode cX0_readsGoer 62 = .ok (.goto 4, 3) := by decide +kernel
theorem dX0_readsGoer_65 : decode cX0_readsGoer 65 = .ok (.iconst 0, 1) := by decide +kernel
theorem dX0_readsGoer_66 : decode cX0_readsGoer 66 = .ok (.ireturn, 1) := by decide +kernel
theorem dX0_readsGoer_67 : decode cX0_readsGoer 67 = .ok (.aload_n 0, 1) := by decide +kernel
theorem dX0_readsGoer_68 : decode cX0_readsGoer 68 = .ok (.getfield 28, 3) := by decide +kernel
theorem dX0_readsGoer_71 : decode cX0_readsGoer 71 = .ok (.iload_n 1, 1) := by decide +kernel
theorem dX0_readsGoer_72 : decode cX0_readsGoer 72 = .ok (.iload_n 3, 1) := by decide +kernel
theorem dX0_readsGoer_73 : decode cX0_readsGoer 73 = .ok (.iconst 1, 1) := by decide +kernel
theorem dX0_readsGoer_74 : decode cX0_readsGoer 74 = .ok (.bipush 9, 2) := by decide +kernel
theorem dX0_readsGoer_76 : decode cX0_readsGoer 76 = .ok (.invokestatic 62, 3) := by decide +kernel
theorem dX0_readsGoer_79 : decode cX0_readsGoer 79 = .ok (.iastore, 1) := by decide +kernel
theorem dX0_readsGoer_80 : decode cX0_readsGoer 80 = .ok (.aload_n 0, 1) := by decide +kernel
theorem dX0_readsGoer_81 : decode cX0_readsGoer 81 = .ok (.getfield 28, 3) := by decide +kernel
theorem dX0_readsGoer_84 : decode cX0_readsGoer 84 = .ok (.iload_n 1, 1) := by decide +kernel
theorem dX0_readsGoer_85 : decode cX0_readsGoer 85 = .ok (.iaload, 1) := by decide +kernel
theorem dX0_readsGoer_86 : decode cX0_readsGoer 86 = .ok (.bipush (-9), 2) := by decide +kernel
theorem dX0_readsGoer_88 : decode cX0_readsGoer 88 = .ok (.if_icmp .eq 7, 3) := by decide +kernel
theorem dX0_readsGoer_91 : decode cX0_readsGoer 91 = .ok (.iconst 1, 1) := by decide +kernel
theorem dX0_readsGoer_92 : decode cX0_readsGoer 92 = .ok (.goto 4, 3) := by decide +kernel
theorem dX0_readsGoer_95 : decode cX0_readsGoer 95 = .ok (.iconst 0, 1) := by decide +kernel
theorem dX0_readsGoer_96 : decode cX0_readsGoer 96 = .ok (.ireturn, 1) := by decide +kernel
theorem dX0_readsGoer_97 : decode cX0_readsGoer 97 = .ok (.aload_n 0, 1) := by decide +kernel
theorem dX0_readsGoer_98 : decode cX0_readsGoer 98 = .ok (.getfield 31, 3) := by decide +kernel
theorem dX0_readsGoer_101 : decode cX0_readsGoer 101 = .ok (.iload_n 1, 1) := by decide +kernel
theorem dX0_readsGoer_102 : decode cX0_readsGoer 102 = .ok (.iload_n 3, 1) := by decide +kernel
theorem dX0_readsGoer_103 : decode cX0_readsGoer 103 = .ok (.iconst 0, 1) := by decide +kernel
theorem dX0_readsGoer_104 : decode cX0_readsGoer 104 = .ok (.aload_n 0, 1) := by decide +kernel
theorem dX0_readsGoer_105 : decode cX0_readsGoer 105 = .ok (.getfield 9, 3) := by decide +kernel
theorem dX0_readsGoer_108 : decode cX0_readsGoer 108 = .ok (.iconst 1, 1) := by decide +kernel
theorem dX0_readsGoer_109 : decode cX0_readsGoer 109 = .ok (.isub, 1) := by decide +kernel
theorem dX0_readsGoer_110 : decode cX0_readsGoer 110 = .ok (.invokestatic 62, 3) := by decide +kernel
theorem dX0_readsGoer_113 : decode cX0_readsGoer 113 = .ok (.iastore, 1) := by decide +kernel
theorem dX0_readsGoer_114 : decode cX0_readsGoer 114 = .ok (.aload_n 0, 1) := by decide +kernel
theorem dX0_readsGoer_115 : decode cX0_readsGoer 115 = .ok (.iload_n 1, 1) := by decide +kernel
theorem dX0_readsGoer_116 : decode cX0_readsGoer 116 = .ok (.iconst 1, 1) := by decide +kernel
theorem dX0_readsGoer_117 : decode cX0_readsGoer 117 = .ok (.iadd, 1) := by decide +kernel
theorem dX0_readsGoer_118 : decode cX0_readsGoer 118 = .ok (.putfield 15, 3) := by decide +kernel
theorem dX0_readsGoer_121 : decode cX0_readsGoer 121 = .ok (.aload_n 0, 1) := by decide +kernel
theorem dX0_readsGoer_122 : decode cX0_readsGoer 122 = .ok (.getfield 31, 3) := by decide +kernel
theorem dX0_readsGoer_125 : decode cX0_readsGoer 125 = .ok (.iload_n 1, 1) := by decide +kernel
theorem dX0_readsGoer_126 : decode cX0_readsGoer 126 = .ok (.iaload, 1) := by decide +kernel
theorem dX0_readsGoer_127 : decode cX0_readsGoer 127 = .ok (.bipush (-9), 2) := by decide +kernel
theorem dX0_readsGoer_129 : decode cX0_readsGoer 129 = .ok (.if_icmp .eq 7, 3) := by decide +kernel
theorem dX0_readsGoer_132 : decode cX0_readsGoer 132 = .ok (.iconst 1, 1) := by decide +kernel
theorem dX0_readsGoer_133 : decode cX0_readsGoer 133 = .ok (.goto 4, 3) := by decide +kernel
theorem dX0_readsGoer_136 : decode cX0_readsGoer 136 = .ok (.iconst 0, 1) := by decide +kernel
theorem dX0_readsGoer_137 : decode cX0_readsGoer 137 = .ok (.ireturn, 1) := by decide +kernel
theorem dX0_kindOf_0 : decode cX0_kindOf 0 = .ok (.iload_n 0, 1) := by decide +kernel
theorem dX0_kindOf_1 : decode cX0_kindOf 1 = .ok (.lookupswitch 41 #[(99, 39), (103, 35), (116, 37)], 35) := by decide +kernel
theorem dX0_kindOf_36 : decode cX0_kindOf 36 = .ok (.iconst 0, 1) := by decide +kernel
theorem dX0_kindOf_37 : decode cX0_kindOf 37 = .ok (.ireturn, 1) := by decide +kernel
theorem dX0_kindOf_38 : decode cX0_kindOf 38 = .ok (.iconst 1, 1) := by decide +kernel
theorem dX0_kindOf_39 : decode cX0_kindOf 39 = .ok (.ireturn, 1) := by decide +kernel
theorem dX0_kindOf_40 : decode cX0_kindOf 40 = .ok (.iconst 2, 1) := by decide +kernel
theorem dX0_kindOf_41 : decode cX0_kindOf 41 = .ok (.ireturn, 1) := by decide +kernel
theorem dX0_kindOf_42 : decode cX0_kindOf 42 = .ok (.bipush (-9), 2) := by decide +kernel
theorem dX0_kindOf_44 : decode cX0_kindOf 44 = .ok (.ireturn, 1) := by decide +kernel
theorem dX0_mayEndAt_0 : decode cX0_mayEndAt 0 = .ok (.aload_n 0, 1) := by decide +kernel
theorem dX0_mayEndAt_1 : decode cX0_mayEndAt 1 = .ok (.getfield 15, 3) := by decide +kernel
theorem dX0_mayEndAt_4 : decode cX0_mayEndAt 4 = .ok (.ifCond .le 24, 3) := by decide +kernel
theorem dX0_mayEndAt_7 : decode cX0_mayEndAt 7 = .ok (.iload_n 1, 1) := by decide +kernel
theorem dX0_mayEndAt_8 : decode cX0_mayEndAt 8 = .ok (.iconst 2, 1) := by decide +kernel
theorem dX0_mayEndAt_9 : decode cX0_mayEndAt 9 = .ok (.aload_n 0, 1) := by decide +kernel
theorem dX0_mayEndAt_10 : decode cX0_mayEndAt 10 = .ok (.invokevirtual 66, 3) := by decide +kernel
theorem dX0_mayEndAt_13 : decode cX0_mayEndAt 13 = .ok (.iadd, 1) := by decide +kernel
theorem dX0_mayEndAt_14 : decode cX0_mayEndAt 14 = .ok (.aload_n 0, 1) := by decide +kernel
theorem dX0_mayEndAt_15 : decode cX0_mayEndAt 15 = .ok (.getfield 15, 3) := by decide +kernel
theorem dX0_mayEndAt_18 : decode cX0_mayEndAt 18 = .ok (.iconst 4, 1) := by decide +kernel
theorem dX0_mayEndAt_19 : decode cX0_mayEndAt 19 = .ok (.imul, 1) := by decide +kernel
theorem dX0_mayEndAt_20 : decode cX0_mayEndAt 20 = .ok (.iadd, 1) := by decide +kernel
theorem dX0_mayEndAt_21 : decode cX0_mayEndAt 21 = .ok (.if_icmp .ne 7, 3) := by decide +kernel
theorem dX0_mayEndAt_24 : decode cX0_mayEndAt 24 = .ok (.iconst 1, 1) := by decide +kernel
theorem dX0_mayEndAt_25 : decode cX0_mayEndAt 25 = .ok (.goto 4, 3) := by decide +kernel
theorem dX0_mayEndAt_28 : decode cX0_mayEndAt 28 = .ok (.iconst 0, 1) := by decide +kernel
theorem dX0_mayEndAt_29 : decode cX0_mayEndAt 29 = .ok (.ireturn, 1) := by decide +kernel
theorem dX0_canMove_0 : decode cX0_canMove 0 = .ok (.aload_n 0, 1) := by decide +kernel
theorem dX0_canMove_1 : decode cX0_canMove 1 = .ok (.aload_n 0, 1) := by decide +kernel
theorem dX0_canMove_2 : decode cX0_canMove 2 = .ok (.getfield 31, 3) := by decide +kernel
theorem dX0_canMove_5 : decode cX0_canMove 5 = .ok (.iload_n 1, 1) := by decide +kernel
theorem dX0_canMove_6 : decode cX0_canMove 6 = .ok (.iaload, 1) := by decide +kernel
theorem dX0_canMove_7 : decode cX0_canMove 7 = .ok (.iload_n 2, 1) := by decide +kernel
theorem dX0_canMove_8 : decode cX0_canMove 8 = .ok (.aload_n 0, 1) := by decide +kernel
theorem dX0_canMove_9 : decode cX0_canMove 9 = .ok (.iload_n 1, 1) := by decide +kernel
theorem dX0_canMove_10 : decode cX0_canMove 10 = .ok (.invokevirtual 78, 3) := by decide +kernel
theorem dX0_canMove_13 : decode cX0_canMove 13 = .ok (.invokevirtual 81, 3) := by decide +kernel
theorem dX0_canMove_16 : decode cX0_canMove 16 = .ok (.ireturn, 1) := by decide +kernel
theorem dX0_move_0 : decode cX0_move 0 = .ok (.aload_n 0, 1) := by decide +kernel
theorem dX0_move_1 : decode cX0_move 1 = .ok (.dup, 1) := by decide +kernel
theorem dX0_move_2 : decode cX0_move 2 = .ok (.getfield 18, 3) := by decide +kernel
theorem dX0_move_5 : decode cX0_move 5 = .ok (.iconst 1, 1) := by decide +kernel
theorem dX0_move_6 : decode cX0_move 6 = .ok (.aload_n 0, 1) := by decide +kernel
theorem dX0_move_7 : decode cX0_move 7 = .ok (.aload_n 0, 1) := by decide +kernel
theorem dX0_move_8 : decode cX0_move 8 = .ok (.getfield 31, 3) := by decide +kernel
theorem dX0_move_11 : decode cX0_move 11 = .ok (.iload_n 1, 1) := by decide +kernel
theorem dX0_move_12 : decode cX0_move 12 = .ok (.iaload, 1) := by decide +kernel
theorem dX0_move_13 : decode cX0_move 13 = .ok (.iload_n 2, 1) := by decide +kernel
theorem dX0_move_14 : decode cX0_move 14 = .ok (.invokevirtual 55, 3) := by decide +kernel
theorem dX0_move_17 : decode cX0_move 17 = .ok (.ishl, 1) := by decide +kernel
theorem dX0_move_18 : decode cX0_move 18 = .ok (.ior, 1) := by decide +kernel
theorem dX0_move_19 : decode cX0_move 19 = .ok (.putfield 18, 3) := by decide +kernel
theorem dX0_move_22 : decode cX0_move 22 = .ok (.aload_n 0, 1) := by decide +kernel
theorem dX0_move_23 : decode cX0_move 23 = .ok (.getfield 31, 3) := by decide +kernel
theorem dX0_move_26 : decode cX0_move 26 = .ok (.iload_n 1, 1) := by decide +kernel
theorem dX0_move_27 : decode cX0_move 27 = .ok (.iload_n 2, 1) := by decide +kernel
theorem dX0_move_28 : decode cX0_move 28 = .ok (.iastore, 1) := by decide +kernel
theorem dX0_move_29 : decode cX0_move 29 = .ok (.return_, 1) := by decide +kernel
theorem dX0_age_0 : decode cX0_age 0 = .ok (.iconst 0, 1) := by decide +kernel
theorem dX0_age_1 : decode cX0_age 1 = .ok (.istore_n 2, 1) := by decide +kernel
theorem dX0_age_2 : decode cX0_age 2 = .ok (.iload_n 2, 1) := by decide +kernel
theorem dX0_age_3 : decode cX0_age 3 = .ok (.iload_n 1, 1) := by decide +kernel
theorem dX0_age_4 : decode cX0_age 4 = .ok (.if_icmp .ge 75, 3) := by decide +kernel
theorem dX0_age_7 : decode cX0_age 7 = .ok (.iconst 0, 1) := by decide +kernel
theorem dX0_age_8 : decode cX0_age 8 = .ok (.istore_n 3, 1) := by decide +kernel
theorem dX0_age_9 : decode cX0_age 9 = .ok (.iload_n 3, 1) := by decide +kernel
theorem dX0_age_10 : decode cX0_age 10 = .ok (.aload_n 0, 1) := by decide +kernel
theorem dX0_age_11 : decode cX0_age 11 = .ok (.invokevirtual 66, 3) := by decide +kernel
theorem dX0_age_14 : decode cX0_age 14 = .ok (.if_icmp .ge 54, 3) := by decide +kernel
theorem dX0_age_17 : decode cX0_age 17 = .ok (.aload_n 0, 1) := by decide +kernel
theorem dX0_age_18 : decode cX0_age 18 = .ok (.getfield 21, 3) := by decide +kernel
theorem dX0_age_21 : decode cX0_age 21 = .ok (.iload_n 3, 1) := by decide +kernel
theorem dX0_age_22 : decode cX0_age 22 = .ok (.aload_n 0, 1) := by decide +kernel
theorem dX0_age_23 : decode cX0_age 23 = .ok (.getfield 18, 3) := by decide +kernel
theorem dX0_age_26 : decode cX0_age 26 = .ok (.iload_n 3, 1) := by decide +kernel
theorem dX0_age_27 : decode cX0_age 27 = .ok (.invokestatic 84, 3) := by decide +kernel
theorem dX0_age_30 : decode cX0_age 30 = .ok (.ifCond .eq 19, 3) := by decide +kernel
theorem dX0_age_33 : decode cX0_age 33 = .ok (.aload_n 0, 1) := by decide +kernel
theorem dX0_age_34 : decode cX0_age 34 = .ok (.getfield 21, 3) := by decide +kernel
theorem dX0_age_37 : decode cX0_age 37 = .ok (.iload_n 3, 1) := by decide +kernel
theorem dX0_age_38 : decode cX0_age 38 = .ok (.iaload, 1) := by decide +kernel
theorem dX0_age_39 : decode cX0_age 39 = .ok (.iconst 1, 1) := by decide +kernel
theorem dX0_age_40 : decode cX0_age 40 = .ok (.iadd, 1) := by decide +kernel
theorem dX0_age_41 : decode cX0_age 41 = .ok (.bipush 9, 2) := by decide +kernel
theorem dX0_age_43 : decode cX0_age 43 = .ok (.invokestatic 43, 3) := by decide +kernel
theorem dX0_age_46 : decode cX0_age 46 = .ok (.goto 15, 3) := by decide +kernel
theorem dX0_age_49 : decode cX0_age 49 = .ok (.aload_n 0, 1) := by decide +kernel
theorem dX0_age_50 : decode cX0_age 50 = .ok (.getfield 21, 3) := by decide +kernel
theorem dX0_age_53 : decode cX0_age 53 = .ok (.iload_n 3, 1) := by decide +kernel
theorem dX0_age_54 : decode cX0_age 54 = .ok (.iaload, 1) := by decide +kernel
theorem dX0_age_55 : decode cX0_age 55 = .ok (.iconst 1, 1) := by decide +kernel
theorem dX0_age_56 : decode cX0_age 56 = .ok (.isub, 1) := by decide +kernel
theorem dX0_age_57 : decode cX0_age 57 = .ok (.iconst 0, 1) := by decide +kernel
theorem dX0_age_58 : decode cX0_age 58 = .ok (.invokestatic 49, 3) := by decide +kernel
theorem dX0_age_61 : decode cX0_age 61 = .ok (.iastore, 1) := by decide +kernel
theorem dX0_age_62 : decode cX0_age 62 = .ok (.iinc 3 1, 3) := by decide +kernel
theorem dX0_age_65 : decode cX0_age 65 = .ok (.goto (-56), 3) := by decide +kernel
theorem dX0_age_68 : decode cX0_age 68 = .ok (.aload_n 0, 1) := by decide +kernel
theorem dX0_age_69 : decode cX0_age 69 = .ok (.iconst 0, 1) := by decide +kernel
theorem dX0_age_70 : decode cX0_age 70 = .ok (.putfield 18, 3) := by decide +kernel
theorem dX0_age_73 : decode cX0_age 73 = .ok (.iinc 2 1, 3) := by decide +kernel
theorem dX0_age_76 : decode cX0_age 76 = .ok (.goto (-74), 3) := by decide +kernel
theorem dX0_age_79 : decode cX0_age 79 = .ok (.return_, 1) := by decide +kernel
theorem dX0_stopUp_0 : decode cX0_stopUp 0 = .ok (.iload_n 1, 1) := by decide +kernel
theorem dX0_stopUp_1 : decode cX0_stopUp 1 = .ok (.aload_n 0, 1) := by decide +kernel
theorem dX0_stopUp_2 : decode cX0_stopUp 2 = .ok (.invokevirtual 66, 3) := by decide +kernel
theorem dX0_stopUp_5 : decode cX0_stopUp 5 = .ok (.if_icmp .ge 12, 3) := by decide +kernel
theorem dX0_stopUp_8 : decode cX0_stopUp 8 = .ok (.aload_n 0, 1) := by decide +kernel
theorem dX0_stopUp_9 : decode cX0_stopUp 9 = .ok (.getfield 21, 3) := by decide +kernel
theorem dX0_stopUp_12 : decode cX0_stopUp 12 = .ok (.iload_n 1, 1) := by decide +kernel
theorem dX0_stopUp_13 : decode cX0_stopUp 13 = .ok (.iaload, 1) := by decide +kernel
theorem dX0_stopUp_14 : decode cX0_stopUp 14 = .ok (.ifCond .ne 5, 3) := by decide +kernel
theorem dX0_stopUp_17 : decode cX0_stopUp 17 = .ok (.iconst 0, 1) := by decide +kernel
theorem dX0_stopUp_18 : decode cX0_stopUp 18 = .ok (.ireturn, 1) := by decide +kernel
theorem dX0_stopUp_19 : decode cX0_stopUp 19 = .ok (.aload_n 0, 1) := by decide +kernel
theorem dX0_stopUp_20 : decode cX0_stopUp 20 = .ok (.getfield 21, 3) := by decide +kernel
theorem dX0_stopUp_23 : decode cX0_stopUp 23 = .ok (.iload_n 1, 1) := by decide +kernel
theorem dX0_stopUp_24 : decode cX0_stopUp 24 = .ok (.bipush 9, 2) := by decide +kernel
theorem dX0_stopUp_26 : decode cX0_stopUp 26 = .ok (.iastore, 1) := by decide +kernel
theorem dX0_stopUp_27 : decode cX0_stopUp 27 = .ok (.iconst 1, 1) := by decide +kernel
theorem dX0_stopUp_28 : decode cX0_stopUp 28 = .ok (.ireturn, 1) := by decide +kernel
theorem dX0_acts_0 : decode cX0_acts 0 = .ok (.iload_n 2, 1) := by decide +kernel
theorem dX0_acts_1 : decode cX0_acts 1 = .ok (.bipush 10, 2) := by decide +kernel
theorem dX0_acts_3 : decode cX0_acts 3 = .ok (.if_icmp .ne 10, 3) := by decide +kernel
theorem dX0_acts_6 : decode cX0_acts 6 = .ok (.aload_n 0, 1) := by decide +kernel
theorem dX0_acts_7 : decode cX0_acts 7 = .ok (.iload_n 1, 1) := by decide +kernel
theorem dX0_acts_8 : decode cX0_acts 8 = .ok (.invokevirtual 87, 3) := by decide +kernel
theorem dX0_acts_11 : decode cX0_acts 11 = .ok (.iconst 1, 1) := by decide +kernel
theorem dX0_acts_12 : decode cX0_acts 12 = .ok (.ireturn, 1) := by decide +kernel
theorem dX0_acts_13 : decode cX0_acts 13 = .ok (.iload_n 2, 1) := by decide +kernel
theorem dX0_acts_14 : decode cX0_acts 14 = .ok (.bipush 20, 2) := by decide +kernel
theorem dX0_acts_16 : decode cX0_acts 16 = .ok (.if_icmp .ne 9, 3) := by decide +kernel
theorem dX0_acts_19 : decode cX0_acts 19 = .ok (.aload_n 0, 1) := by decide +kernel
theorem dX0_acts_20 : decode cX0_acts 20 = .ok (.iload_n 1, 1) := by decide +kernel
theorem dX0_acts_21 : decode cX0_acts 21 = .ok (.invokevirtual 91, 3) := by decide +kernel
theorem dX0_acts_24 : decode cX0_acts 24 = .ok (.ireturn, 1) := by decide +kernel
theorem dX0_acts_25 : decode cX0_acts 25 = .ok (.iload_n 2, 1) := by decide +kernel
theorem dX0_acts_26 : decode cX0_acts 26 = .ok (.aload_n 0, 1) := by decide +kernel
theorem dX0_acts_27 : decode cX0_acts 27 = .ok (.getfield 9, 3) := by decide +kernel
theorem dX0_acts_30 : decode cX0_acts 30 = .ok (.if_icmp .ge 12, 3) := by decide +kernel
theorem dX0_acts_33 : decode cX0_acts 33 = .ok (.aload_n 0, 1) := by decide +kernel
theorem dX0_acts_34 : decode cX0_acts 34 = .ok (.iload_n 1, 1) := by decide +kernel
theorem dX0_acts_35 : decode cX0_acts 35 = .ok (.iload_n 2, 1) := by decide +kernel
theorem dX0_acts_36 : decode cX0_acts 36 = .ok (.invokevirtual 95, 3) := by decide +kernel
theorem dX0_acts_39 : decode cX0_acts 39 = .ok (.ifCond .ne 5, 3) := by decide +kernel
theorem dX0_acts_42 : decode cX0_acts 42 = .ok (.iconst 0, 1) := by decide +kernel
theorem dX0_acts_43 : decode cX0_acts 43 = .ok (.ireturn, 1) := by decide +kernel
theorem dX0_acts_44 : decode cX0_acts 44 = .ok (.aload_n 0, 1) := by decide +kernel
theorem dX0_acts_45 : decode cX0_acts 45 = .ok (.iload_n 1, 1) := by decide +kernel
theorem dX0_acts_46 : decode cX0_acts 46 = .ok (.iload_n 2, 1) := by decide +kernel
theorem dX0_acts_47 : decode cX0_acts 47 = .ok (.invokevirtual 98, 3) := by decide +kernel
theorem dX0_acts_50 : decode cX0_acts 50 = .ok (.iconst 1, 1) := by decide +kernel
theorem dX0_acts_51 : decode cX0_acts 51 = .ok (.ireturn, 1) := by decide +kernel
theorem dX0_openHoles_0 : decode cX0_openHoles 0 = .ok (.iconst 0, 1) := by decide +kernel
theorem dX0_openHoles_1 : decode cX0_openHoles 1 = .ok (.istore_n 1, 1) := by decide +kernel
theorem dX0_openHoles_2 : decode cX0_openHoles 2 = .ok (.iconst 0, 1) := by decide +kernel
theorem dX0_openHoles_3 : decode cX0_openHoles 3 = .ok (.istore_n 2, 1) := by decide +kernel
theorem dX0_openHoles_4 : decode cX0_openHoles 4 = .ok (.iload_n 2, 1) := by decide +kernel
theorem dX0_openHoles_5 : decode cX0_openHoles 5 = .ok (.aload_n 0, 1) := by decide +kernel
theorem dX0_openHoles_6 : decode cX0_openHoles 6 = .ok (.invokevirtual 66, 3) := by decide +kernel
theorem dX0_openHoles_9 : decode cX0_openHoles 9 = .ok (.if_icmp .ge 26, 3) := by decide +kernel
theorem dX0_openHoles_12 : decode cX0_openHoles 12 = .ok (.iload_n 1, 1) := by decide +kernel
theorem dX0_openHoles_13 : decode cX0_openHoles 13 = .ok (.aload_n 0, 1) := by decide +kernel
theorem dX0_openHoles_14 : decode cX0_openHoles 14 = .ok (.getfield 21, 3) := by decide +kernel
theorem dX0_openHoles_17 : decode cX0_openHoles 17 = .ok (.iload_n 2, 1) := by decide +kernel
theorem dX0_openHoles_18 : decode cX0_openHoles 18 = .ok (.iaload, 1) := by decide +kernel
theorem dX0_openHoles_19 : decode cX0_openHoles 19 = .ok (.ifCond .le 7, 3) := by decide +kernel
theorem dX0_openHoles_22 : decode cX0_openHoles 22 = .ok (.iconst 1, 1) := by decide +kernel
theorem dX0_openHoles_23 : decode cX0_openHoles 23 = .ok (.goto 4, 3) := by decide +kernel
theorem dX0_openHoles_26 : decode cX0_openHoles 26 = .ok (.iconst 0, 1) := by decide +kernel
theorem dX0_openHoles_27 : decode cX0_openHoles 27 = .ok (.iadd, 1) := by decide +kernel
theorem dX0_openHoles_28 : decode cX0_openHoles 28 = .ok (.istore_n 1, 1) := by decide +kernel
theorem dX0_openHoles_29 : decode cX0_openHoles 29 = .ok (.iinc 2 1, 3) := by decide +kernel
theorem dX0_openHoles_32 : decode cX0_openHoles 32 = .ok (.goto (-28), 3) := by decide +kernel
theorem dX0_openHoles_35 : decode cX0_openHoles 35 = .ok (.iload_n 1, 1) := by decide +kernel
theorem dX0_openHoles_36 : decode cX0_openHoles 36 = .ok (.ireturn, 1) := by decide +kernel
theorem dX0_peopled_0 : decode cX0_peopled 0 = .ok (.iconst 0, 1) := by decide +kernel
theorem dX0_peopled_1 : decode cX0_peopled 1 = .ok (.istore_n 1, 1) := by decide +kernel
theorem dX0_peopled_2 : decode cX0_peopled 2 = .ok (.iconst 0, 1) := by decide +kernel
theorem dX0_peopled_3 : decode cX0_peopled 3 = .ok (.istore_n 2, 1) := by decide +kernel
theorem dX0_peopled_4 : decode cX0_peopled 4 = .ok (.iload_n 2, 1) := by decide +kernel
theorem dX0_peopled_5 : decode cX0_peopled 5 = .ok (.aload_n 0, 1) := by decide +kernel
theorem dX0_peopled_6 : decode cX0_peopled 6 = .ok (.getfield 15, 3) := by decide +kernel
theorem dX0_peopled_9 : decode cX0_peopled 9 = .ok (.if_icmp .ge 20, 3) := by decide +kernel
theorem dX0_peopled_12 : decode cX0_peopled 12 = .ok (.iload_n 1, 1) := by decide +kernel
theorem dX0_peopled_13 : decode cX0_peopled 13 = .ok (.iconst 1, 1) := by decide +kernel
theorem dX0_peopled_14 : decode cX0_peopled 14 = .ok (.aload_n 0, 1) := by decide +kernel
theorem dX0_peopled_15 : decode cX0_peopled 15 = .ok (.getfield 31, 3) := by decide +kernel
theorem dX0_peopled_18 : decode cX0_peopled 18 = .ok (.iload_n 2, 1) := by decide +kernel
theorem dX0_peopled_19 : decode cX0_peopled 19 = .ok (.iaload, 1) := by decide +kernel
theorem dX0_peopled_20 : decode cX0_peopled 20 = .ok (.ishl, 1) := by decide +kernel
theorem dX0_peopled_21 : decode cX0_peopled 21 = .ok (.ior, 1) := by decide +kernel
theorem dX0_peopled_22 : decode cX0_peopled 22 = .ok (.istore_n 1, 1) := by decide +kernel
theorem dX0_peopled_23 : decode cX0_peopled 23 = .ok (.iinc 2 1, 3) := by decide +kernel
theorem dX0_peopled_26 : decode cX0_peopled 26 = .ok (.goto (-22), 3) := by decide +kernel
theorem dX0_peopled_29 : decode cX0_peopled 29 = .ok (.iload_n 1, 1) := by decide +kernel
theorem dX0_peopled_30 : decode cX0_peopled 30 = .ok (.ireturn, 1) := by decide +kernel
theorem dX0_reachOf_0 : decode cX0_reachOf 0 = .ok (.iconst 1, 1) := by decide +kernel
theorem dX0_reachOf_1 : decode cX0_reachOf 1 = .ok (.iload_n 1, 1) := by decide +kernel
theorem dX0_reachOf_2 : decode cX0_reachOf 2 = .ok (.ishl, 1) := by decide +kernel
theorem dX0_reachOf_3 : decode cX0_reachOf 3 = .ok (.istore_n 3, 1) := by decide +kernel
theorem dX0_reachOf_4 : decode cX0_reachOf 4 = .ok (.iconst 1, 1) := by decide +kernel
theorem dX0_reachOf_5 : decode cX0_reachOf 5 = .ok (.istore 4, 2) := by decide +kernel
theorem dX0_reachOf_7 : decode cX0_reachOf 7 = .ok (.iload 4, 2) := by decide +kernel
theorem dX0_reachOf_9 : decode cX0_reachOf 9 = .ok (.aload_n 0, 1) := by decide +kernel
theorem dX0_reachOf_10 : decode cX0_reachOf 10 = .ok (.getfield 9, 3) := by decide +kernel
theorem dX0_reachOf_13 : decode cX0_reachOf 13 = .ok (.if_icmp .ge 73, 3) := by decide +kernel
theorem dX0_reachOf_16 : decode cX0_reachOf 16 = .ok (.iconst 0, 1) := by decide +kernel
theorem dX0_reachOf_17 : decode cX0_reachOf 17 = .ok (.istore 5, 2) := by decide +kernel
theorem dX0_reachOf_19 : decode cX0_reachOf 19 = .ok (.iload 5, 2) := by decide +kernel
theorem dX0_reachOf_21 : decode cX0_reachOf 21 = .ok (.aload_n 0, 1) := by decide +kernel
theorem dX0_reachOf_22 : decode cX0_reachOf 22 = .ok (.getfield 9, 3) := by decide +kernel
theorem dX0_reachOf_25 : decode cX0_reachOf 25 = .ok (.if_icmp .ge 55, 3) := by decide +kernel
theorem dX0_reachOf_28 : decode cX0_reachOf 28 = .ok (.iconst 0, 1) := by decide +kernel
theorem dX0_reachOf_29 : decode cX0_reachOf 29 = .ok (.istore 6, 2) := by decide +kernel
theorem dX0_reachOf_31 : decode cX0_reachOf 31 = .ok (.iload 6, 2) := by decide +kernel
theorem dX0_reachOf_33 : decode cX0_reachOf 33 = .ok (.aload_n 0, 1) := by decide +kernel
theorem dX0_reachOf_34 : decode cX0_reachOf 34 = .ok (.getfield 9, 3) := by decide +kernel
theorem dX0_reachOf_37 : decode cX0_reachOf 37 = .ok (.if_icmp .ge 37, 3) := by decide +kernel
theorem dX0_reachOf_40 : decode cX0_reachOf 40 = .ok (.iload_n 3, 1) := by decide +kernel
theorem dX0_reachOf_41 : decode cX0_reachOf 41 = .ok (.iload 5, 2) := by decide +kernel
theorem dX0_reachOf_43 : decode cX0_reachOf 43 = .ok (.invokestatic 84, 3) := by decide +kernel
theorem dX0_reachOf_46 : decode cX0_reachOf 46 = .ok (.ifCond .eq 22, 3) := by decide +kernel
theorem dX0_reachOf_49 : decode cX0_reachOf 49 = .ok (.aload_n 0, 1) := by decide +kernel
theorem dX0_reachOf_50 : decode cX0_reachOf 50 = .ok (.iload 5, 2) := by decide +kernel
theorem dX0_reachOf_52 : decode cX0_reachOf 52 = .ok (.iload 6, 2) := by decide +kernel
theorem dX0_reachOf_54 : decode cX0_reachOf 54 = .ok (.iload_n 2, 1) := by decide +kernel
theorem dX0_reachOf_55 : decode cX0_reachOf 55 = .ok (.invokevirtual 81, 3) := by decide +kernel
theorem dX0_reachOf_58 : decode cX0_reachOf 58 = .ok (.ifCond .eq 10, 3) := by decide +kernel
theorem dX0_reachOf_61 : decode cX0_reachOf 61 = .ok (.iload_n 3, 1) := by decide +kernel
theorem dX0_reachOf_62 : decode cX0_reachOf 62 = .ok (.iconst 1, 1) := by decide +kernel
theorem dX0_reachOf_63 : decode cX0_reachOf 63 = .ok (.iload 6, 2) := by decide +kernel
theorem dX0_reachOf_65 : decode cX0_reachOf 65 = .ok (.ishl, 1) := by decide +kernel
theorem dX0_reachOf_66 : decode cX0_reachOf 66 = .ok (.ior, 1) := by decide +kernel
theorem dX0_reachOf_67 : decode cX0_reachOf 67 = .ok (.istore_n 3, 1) := by decide +kernel
theorem dX0_reachOf_68 : decode cX0_reachOf 68 = .ok (.iinc 6 1, 3) := by decide +kernel
theorem dX0_reachOf_71 : decode cX0_reachOf 71 = .ok (.goto (-40), 3) := by decide +kernel
theorem dX0_reachOf_74 : decode cX0_reachOf 74 = .ok (.iinc 5 1, 3) := by decide +kernel
theorem dX0_reachOf_77 : decode cX0_reachOf 77 = .ok (.goto (-58), 3) := by decide +kernel
theorem dX0_reachOf_80 : decode cX0_reachOf 80 = .ok (.iinc 4 1, 3) := by decide +kernel
theorem dX0_reachOf_83 : decode cX0_reachOf 83 = .ok (.goto (-76), 3) := by decide +kernel
theorem dX0_reachOf_86 : decode cX0_reachOf 86 = .ok (.iload_n 3, 1) := by decide +kernel
theorem dX0_reachOf_87 : decode cX0_reachOf 87 = .ok (.ireturn, 1) := by decide +kernel
theorem dX0_comersTo_0 : decode cX0_comersTo 0 = .ok (.iconst 0, 1) := by decide +kernel
theorem dX0_comersTo_1 : decode cX0_comersTo 1 = .ok (.istore_n 2, 1) := by decide +kernel
theorem dX0_comersTo_2 : decode cX0_comersTo 2 = .ok (.iconst 0, 1) := by decide +kernel
theorem dX0_comersTo_3 : decode cX0_comersTo 3 = .ok (.istore_n 3, 1) := by decide +kernel
theorem dX0_comersTo_4 : decode cX0_comersTo 4 = .ok (.iload_n 3, 1) := by decide +kernel
theorem dX0_comersTo_5 : decode cX0_comersTo 5 = .ok (.aload_n 0, 1) := by decide +kernel
theorem dX0_comersTo_6 : decode cX0_comersTo 6 = .ok (.getfield 15, 3) := by decide +kernel
theorem dX0_comersTo_9 : decode cX0_comersTo 9 = .ok (.if_icmp .ge 41, 3) := by decide +kernel
theorem dX0_comersTo_12 : decode cX0_comersTo 12 = .ok (.iload_n 2, 1) := by decide +kernel
theorem dX0_comersTo_13 : decode cX0_comersTo 13 = .ok (.aload_n 0, 1) := by decide +kernel
theorem dX0_comersTo_14 : decode cX0_comersTo 14 = .ok (.aload_n 0, 1) := by decide +kernel
theorem dX0_comersTo_15 : decode cX0_comersTo 15 = .ok (.getfield 31, 3) := by decide +kernel
theorem dX0_comersTo_18 : decode cX0_comersTo 18 = .ok (.iload_n 3, 1) := by decide +kernel
theorem dX0_comersTo_19 : decode cX0_comersTo 19 = .ok (.iaload, 1) := by decide +kernel
theorem dX0_comersTo_20 : decode cX0_comersTo 20 = .ok (.aload_n 0, 1) := by decide +kernel
theorem dX0_comersTo_21 : decode cX0_comersTo 21 = .ok (.iload_n 3, 1) := by decide +kernel
theorem dX0_comersTo_22 : decode cX0_comersTo 22 = .ok (.invokevirtual 78, 3) := by decide +kernel
theorem dX0_comersTo_25 : decode cX0_comersTo 25 = .ok (.invokevirtual 102, 3) := by decide +kernel
theorem dX0_comersTo_28 : decode cX0_comersTo 28 = .ok (.iload_n 1, 1) := by decide +kernel
theorem dX0_comersTo_29 : decode cX0_comersTo 29 = .ok (.invokestatic 84, 3) := by decide +kernel
theorem dX0_comersTo_32 : decode cX0_comersTo 32 = .ok (.ifCond .eq 9, 3) := by decide +kernel
theorem dX0_comersTo_35 : decode cX0_comersTo 35 = .ok (.iconst 1, 1) := by decide +kernel
theorem dX0_comersTo_36 : decode cX0_comersTo 36 = .ok (.iload_n 3, 1) := by decide +kernel
theorem dX0_comersTo_37 : decode cX0_comersTo 37 = .ok (.ishl, 1) := by decide +kernel
theorem dX0_comersTo_38 : decode cX0_comersTo 38 = .ok (.goto 4, 3) := by decide +kernel
theorem dX0_comersTo_41 : decode cX0_comersTo 41 = .ok (.iconst 0, 1) := by decide +kernel
theorem dX0_comersTo_42 : decode cX0_comersTo 42 = .ok (.ior, 1) := by decide +kernel
theorem dX0_comersTo_43 : decode cX0_comersTo 43 = .ok (.istore_n 2, 1) := by decide +kernel
theorem dX0_comersTo_44 : decode cX0_comersTo 44 = .ok (.iinc 3 1, 3) := by decide +kernel
theorem dX0_comersTo_47 : decode cX0_comersTo 47 = .ok (.goto (-43), 3) := by decide +kernel
theorem dX0_comersTo_50 : decode cX0_comersTo 50 = .ok (.iload_n 2, 1) := by decide +kernel
theorem dX0_comersTo_51 : decode cX0_comersTo 51 = .ok (.ireturn, 1) := by decide +kernel
theorem dX0_measureTo_0 : decode cX0_measureTo 0 = .ok (.iconst 0, 1) := by decide +kernel
theorem dX0_measureTo_1 : decode cX0_measureTo 1 = .ok (.istore 5, 2) := by decide +kernel
theorem dX0_measureTo_3 : decode cX0_measureTo 3 = .ok (.iload 5, 2) := by decide +kernel
theorem dX0_measureTo_5 : decode cX0_measureTo 5 = .ok (.aload_n 0, 1) := by decide +kernel
theorem dX0_measureTo_6 : decode cX0_measureTo 6 = .ok (.getfield 9, 3) := by decide +kernel
theorem dX0_measureTo_9 : decode cX0_measureTo 9 = .ok (.if_icmp .ge 29, 3) := by decide +kernel
theorem dX0_measureTo_12 : decode cX0_measureTo 12 = .ok (.aload_n 0, 1) := by decide +kernel
theorem dX0_measureTo_13 : decode cX0_measureTo 13 = .ok (.getfield 34, 3) := by decide +kernel
theorem dX0_measureTo_16 : decode cX0_measureTo 16 = .ok (.iload 5, 2) := by decide +kernel
theorem dX0_measureTo_18 : decode cX0_measureTo 18 = .ok (.iload 5, 2) := by decide +kernel
theorem dX0_measureTo_20 : decode cX0_measureTo 20 = .ok (.iload_n 1, 1) := by decide +kernel
theorem dX0_measureTo_21 : decode cX0_measureTo 21 = .ok (.if_icmp .ne 7, 3) := by decide +kernel
theorem dX0_measureTo_24 : decode cX0_measureTo 24 = .ok (.iconst 0, 1) := by decide +kernel
theorem dX0_measureTo_25 : decode cX0_measureTo 25 = .ok (.goto 6, 3) := by decide +kernel
theorem dX0_measureTo_28 : decode cX0_measureTo 28 = .ok (.sipush 1000, 3) := by decide +kernel
theorem dX0_measureTo_31 : decode cX0_measureTo 31 = .ok (.iastore, 1) := by decide +kernel
theorem dX0_measureTo_32 : decode cX0_measureTo 32 = .ok (.iinc 5 1, 3) := by decide +kernel
theorem dX0_measureTo_35 : decode cX0_measureTo 35 = .ok (.goto (-32), 3) := by decide +kernel
theorem dX0_measureTo_38 : decode cX0_measureTo 38 = .ok (.iconst 1, 1) := by decide +kernel
theorem dX0_measureTo_39 : decode cX0_measureTo 39 = .ok (.istore 5, 2) := by decide +kernel
theorem dX0_measureTo_41 : decode cX0_measureTo 41 = .ok (.iload 5, 2) := by decide +kernel
theorem dX0_measureTo_43 : decode cX0_measureTo 43 = .ok (.aload_n 0, 1) := by decide +kernel
theorem dX0_measureTo_44 : decode cX0_measureTo 44 = .ok (.getfield 9, 3) := by decide +kernel
theorem dX0_measureTo_47 : decode cX0_measureTo 47 = .ok (.if_icmp .ge 115, 3) := by decide +kernel
theorem dX0_measureTo_50 : decode cX0_measureTo 50 = .ok (.iconst 0, 1) := by decide +kernel
theorem dX0_measureTo_51 : decode cX0_measureTo 51 = .ok (.istore 6, 2) := by decide +kernel
theorem dX0_measureTo_53 : decode cX0_measureTo 53 = .ok (.iload 6, 2) := by decide +kernel
theorem dX0_measureTo_55 : decode cX0_measureTo 55 = .ok (.aload_n 0, 1) := by decide +kernel
theorem dX0_measureTo_56 : decode cX0_measureTo 56 = .ok (.getfield 9, 3) := by decide +kernel
theorem dX0_measureTo_59 : decode cX0_measureTo 59 = .ok (.if_icmp .ge 97, 3) := by decide +kernel
theorem dX0_measureTo_62 : decode cX0_measureTo 62 = .ok (.iconst 0, 1) := by decide +kernel
theorem dX0_measureTo_63 : decode cX0_measureTo 63 = .ok (.istore 7, 2) := by decide +kernel
theorem dX0_measureTo_65 : decode cX0_measureTo 65 = .ok (.iload 7, 2) := by decide +kernel
theorem dX0_measureTo_67 : decode cX0_measureTo 67 = .ok (.aload_n 0, 1) := by decide +kernel
theorem dX0_measureTo_68 : decode cX0_measureTo 68 = .ok (.getfield 9, 3) := by decide +kernel
theorem dX0_measureTo_71 : decode cX0_measureTo 71 = .ok (.if_icmp .ge 79, 3) := by decide +kernel
theorem dX0_measureTo_74 : decode cX0_measureTo 74 = .ok (.iload 6, 2) := by decide +kernel
theorem dX0_measureTo_76 : decode cX0_measureTo 76 = .ok (.iload 7, 2) := by decide +kernel
theorem dX0_measureTo_78 : decode cX0_measureTo 78 = .ok (.if_icmp .eq 66, 3) := by decide +kernel
theorem dX0_measureTo_81 : decode cX0_measureTo 81 = .ok (.aload_n 0, 1) := by decide +kernel
theorem dX0_measureTo_82 : decode cX0_measureTo 82 = .ok (.getfield 21, 3) := by decide +kernel
theorem dX0_measureTo_85 : decode cX0_measureTo 85 = .ok (.aload_n 0, 1) := by decide +kernel
theorem dX0_measureTo_86 : decode cX0_measureTo 86 = .ok (.iload 6, 2) := by decide +kernel
theorem dX0_measureTo_88 : decode cX0_measureTo 88 = .ok (.iload 7, 2) := by decide +kernel
theorem dX0_measureTo_90 : decode cX0_measureTo 90 = .ok (.invokevirtual 55, 3) := by decide +kernel
theorem dX0_measureTo_93 : decode cX0_measureTo 93 = .ok (.iaload, 1) := by decide +kernel
theorem dX0_measureTo_94 : decode cX0_measureTo 94 = .ok (.ifCond .le 50, 3) := by decide +kernel
theorem dX0_measureTo_97 : decode cX0_measureTo 97 = .ok (.aload_n 0, 1) := by decide +kernel
theorem dX0_measureTo_98 : decode cX0_measureTo 98 = .ok (.iload 6, 2) := by decide +kernel
theorem dX0_measureTo_100 : decode cX0_measureTo 100 = .ok (.iload 7, 2) := by decide +kernel
theorem dX0_measureTo_102 : decode cX0_measureTo 102 = .ok (.iload_n 2, 1) := by decide +kernel
theorem dX0_measureTo_103 : decode cX0_measureTo 103 = .ok (.invokevirtual 81, 3) := by decide +kernel
theorem dX0_measureTo_106 : decode cX0_measureTo 106 = .ok (.ifCond .eq 7, 3) := by decide +kernel
theorem dX0_measureTo_109 : decode cX0_measureTo 109 = .ok (.iload_n 3, 1) := by decide +kernel
theorem dX0_measureTo_110 : decode cX0_measureTo 110 = .ok (.goto 5, 3) := by decide +kernel
theorem dX0_measureTo_113 : decode cX0_measureTo 113 = .ok (.iload 4, 2) := by decide +kernel
theorem dX0_measureTo_115 : decode cX0_measureTo 115 = .ok (.istore 8, 2) := by decide +kernel
theorem dX0_measureTo_117 : decode cX0_measureTo 117 = .ok (.aload_n 0, 1) := by decide +kernel
theorem dX0_measureTo_118 : decode cX0_measureTo 118 = .ok (.getfield 34, 3) := by decide +kernel
theorem dX0_measureTo_121 : decode cX0_measureTo 121 = .ok (.iload 6, 2) := by decide +kernel
theorem dX0_measureTo_123 : decode cX0_measureTo 123 = .ok (.aload_n 0, 1) := by decide +kernel
theorem dX0_measureTo_124 : decode cX0_measureTo 124 = .ok (.getfield 34, 3) := by decide +kernel
theorem dX0_measureTo_127 : decode cX0_measureTo 127 = .ok (.iload 6, 2) := by decide +kernel
theorem dX0_measureTo_129 : decode cX0_measureTo 129 = .ok (.iaload, 1) := by decide +kernel
theorem dX0_measureTo_130 : decode cX0_measureTo 130 = .ok (.aload_n 0, 1) := by decide +kernel
theorem dX0_measureTo_131 : decode cX0_measureTo 131 = .ok (.getfield 34, 3) := by decide +kernel
theorem dX0_measureTo_134 : decode cX0_measureTo 134 = .ok (.iload 7, 2) := by decide +kernel
theorem dX0_measureTo_136 : decode cX0_measureTo 136 = .ok (.iaload, 1) := by decide +kernel
theorem dX0_measureTo_137 : decode cX0_measureTo 137 = .ok (.iload 8, 2) := by decide +kernel
theorem dX0_measureTo_139 : decode cX0_measureTo 139 = .ok (.iadd, 1) := by decide +kernel
theorem dX0_measureTo_140 : decode cX0_measureTo 140 = .ok (.invokestatic 43, 3) := by decide +kernel
theorem dX0_measureTo_143 : decode cX0_measureTo 143 = .ok (.iastore, 1) := by decide +kernel
theorem dX0_measureTo_144 : decode cX0_measureTo 144 = .ok (.iinc 7 1, 3) := by decide +kernel
theorem dX0_measureTo_147 : decode cX0_measureTo 147 = .ok (.goto (-82), 3) := by decide +kernel
theorem dX0_measureTo_150 : decode cX0_measureTo 150 = .ok (.iinc 6 1, 3) := by decide +kernel
theorem dX0_measureTo_153 : decode cX0_measureTo 153 = .ok (.goto (-100), 3) := by decide +kernel
theorem dX0_measureTo_156 : decode cX0_measureTo 156 = .ok (.iinc 5 1, 3) := by decide +kernel
theorem dX0_measureTo_159 : decode cX0_measureTo 159 = .ok (.goto (-118), 3) := by decide +kernel
theorem dX0_measureTo_162 : decode cX0_measureTo 162 = .ok (.return_, 1) := by decide +kernel
theorem dX0_fieldOnWay_0 : decode cX0_fieldOnWay 0 = .ok (.aload_n 0, 1) := by decide +kernel
theorem dX0_fieldOnWay_1 : decode cX0_fieldOnWay 1 = .ok (.getfield 31, 3) := by decide +kernel
theorem dX0_fieldOnWay_4 : decode cX0_fieldOnWay 4 = .ok (.iload_n 1, 1) := by decide +kernel
theorem dX0_fieldOnWay_5 : decode cX0_fieldOnWay 5 = .ok (.iaload, 1) := by decide +kernel
theorem dX0_fieldOnWay_6 : decode cX0_fieldOnWay 6 = .ok (.istore_n 3, 1) := by decide +kernel
theorem dX0_fieldOnWay_7 : decode cX0_fieldOnWay 7 = .ok (.iconst 0, 1) := by decide +kernel
theorem dX0_fieldOnWay_8 : decode cX0_fieldOnWay 8 = .ok (.istore 4, 2) := by decide +kernel
theorem dX0_fieldOnWay_10 : decode cX0_fieldOnWay 10 = .ok (.iload 4, 2) := by decide +kernel
theorem dX0_fieldOnWay_12 : decode cX0_fieldOnWay 12 = .ok (.iload_n 2, 1) := by decide +kernel
theorem dX0_fieldOnWay_13 : decode cX0_fieldOnWay 13 = .ok (.if_icmp .ge 20, 3) := by decide +kernel
theorem dX0_fieldOnWay_16 : decode cX0_fieldOnWay 16 = .ok (.aload_n 0, 1) := by decide +kernel
theorem dX0_fieldOnWay_17 : decode cX0_fieldOnWay 17 = .ok (.iload_n 3, 1) := by decide +kernel
theorem dX0_fieldOnWay_18 : decode cX0_fieldOnWay 18 = .ok (.aload_n 0, 1) := by decide +kernel
theorem dX0_fieldOnWay_19 : decode cX0_fieldOnWay 19 = .ok (.iload_n 1, 1) := by decide +kernel
theorem dX0_fieldOnWay_20 : decode cX0_fieldOnWay 20 = .ok (.invokevirtual 78, 3) := by decide +kernel
theorem dX0_fieldOnWay_23 : decode cX0_fieldOnWay 23 = .ok (.invokevirtual 105, 3) := by decide +kernel
theorem dX0_fieldOnWay_26 : decode cX0_fieldOnWay 26 = .ok (.istore_n 3, 1) := by decide +kernel
theorem dX0_fieldOnWay_27 : decode cX0_fieldOnWay 27 = .ok (.iinc 4 1, 3) := by decide +kernel
theorem dX0_fieldOnWay_30 : decode cX0_fieldOnWay 30 = .ok (.goto (-20), 3) := by decide +kernel
theorem dX0_fieldOnWay_33 : decode cX0_fieldOnWay 33 = .ok (.iload_n 3, 1) := by decide +kernel
theorem dX0_fieldOnWay_34 : decode cX0_fieldOnWay 34 = .ok (.ireturn, 1) := by decide +kernel
theorem dX0_nearerThan_0 : decode cX0_nearerThan 0 = .ok (.iconst 0, 1) := by decide +kernel
theorem dX0_nearerThan_1 : decode cX0_nearerThan 1 = .ok (.istore_n 3, 1) := by decide +kernel
theorem dX0_nearerThan_2 : decode cX0_nearerThan 2 = .ok (.iload_n 3, 1) := by decide +kernel
theorem dX0_nearerThan_3 : decode cX0_nearerThan 3 = .ok (.aload_n 0, 1) := by decide +kernel
theorem dX0_nearerThan_4 : decode cX0_nearerThan 4 = .ok (.getfield 9, 3) := by decide +kernel
theorem dX0_nearerThan_7 : decode cX0_nearerThan 7 = .ok (.if_icmp .ge 36, 3) := by decide +kernel
theorem dX0_nearerThan_10 : decode cX0_nearerThan 10 = .ok (.aload_n 0, 1) := by decide +kernel
theorem dX0_nearerThan_11 : decode cX0_nearerThan 11 = .ok (.iload_n 1, 1) := by decide +kernel
theorem dX0_nearerThan_12 : decode cX0_nearerThan 12 = .ok (.iload_n 3, 1) := by decide +kernel
theorem dX0_nearerThan_13 : decode cX0_nearerThan 13 = .ok (.iload_n 2, 1) := by decide +kernel
theorem dX0_nearerThan_14 : decode cX0_nearerThan 14 = .ok (.invokevirtual 81, 3) := by decide +kernel
theorem dX0_nearerThan_17 : decode cX0_nearerThan 17 = .ok (.ifCond .eq 20, 3) := by decide +kernel
theorem dX0_nearerThan_20 : decode cX0_nearerThan 20 = .ok (.aload_n 0, 1) := by decide +kernel
theorem dX0_nearerThan_21 : decode cX0_nearerThan 21 = .ok (.getfield 34, 3) := by decide +kernel
theorem dX0_nearerThan_24 : decode cX0_nearerThan 24 = .ok (.iload_n 3, 1) := by decide +kernel
theorem dX0_nearerThan_25 : decode cX0_nearerThan 25 = .ok (.iaload, 1) := by decide +kernel
theorem dX0_nearerThan_26 : decode cX0_nearerThan 26 = .ok (.aload_n 0, 1) := by decide +kernel
theorem dX0_nearerThan_27 : decode cX0_nearerThan 27 = .ok (.getfield 34, 3) := by decide +kernel
theorem dX0_nearerThan_30 : decode cX0_nearerThan 30 = .ok (.iload_n 1, 1) := by decide +kernel
theorem dX0_nearerThan_31 : decode cX0_nearerThan 31 = .ok (.iaload, 1) := by decide +kernel
theorem dX0_nearerThan_32 : decode cX0_nearerThan 32 = .ok (.if_icmp .ge 5, 3) := by decide +kernel
theorem dX0_nearerThan_35 : decode cX0_nearerThan 35 = .ok (.iload_n 3, 1) := by decide +kernel
theorem dX0_nearerThan_36 : decode cX0_nearerThan 36 = .ok (.ireturn, 1) := by decide +kernel
theorem dX0_nearerThan_37 : decode cX0_nearerThan 37 = .ok (.iinc 3 1, 3) := by decide +kernel
theorem dX0_nearerThan_40 : decode cX0_nearerThan 40 = .ok (.goto (-38), 3) := by decide +kernel
theorem dX0_nearerThan_43 : decode cX0_nearerThan 43 = .ok (.iload_n 1, 1) := by decide +kernel
theorem dX0_nearerThan_44 : decode cX0_nearerThan 44 = .ok (.ireturn, 1) := by decide +kernel
theorem dX0_fewestToShut_0 : decode cX0_fewestToShut 0 = .ok (.sipush 1023, 3) := by decide +kernel
theorem dX0_fewestToShut_3 : decode cX0_fewestToShut 3 = .ok (.istore_n 3, 1) := by decide +kernel
theorem dX0_fewestToShut_4 : decode cX0_fewestToShut 4 = .ok (.iconst 0, 1) := by decide +kernel
theorem dX0_fewestToShut_5 : decode cX0_fewestToShut 5 = .ok (.istore 4, 2) := by decide +kernel
theorem dX0_fewestToShut_7 : decode cX0_fewestToShut 7 = .ok (.iload 4, 2) := by decide +kernel
theorem dX0_fewestToShut_9 : decode cX0_fewestToShut 9 = .ok (.iconst 1, 1) := by decide +kernel
theorem dX0_fewestToShut_10 : decode cX0_fewestToShut 10 = .ok (.aload_n 0, 1) := by decide +kernel
theorem dX0_fewestToShut_11 : decode cX0_fewestToShut 11 = .ok (.getfield 9, 3) := by decide +kernel
theorem dX0_fewestToShut_14 : decode cX0_fewestToShut 14 = .ok (.ishl, 1) := by decide +kernel
theorem dX0_fewestToShut_15 : decode cX0_fewestToShut 15 = .ok (.if_icmp .ge 61, 3) := by decide +kernel
theorem dX0_fewestToShut_18 : decode cX0_fewestToShut 18 = .ok (.iload 4, 2) := by decide +kernel
theorem dX0_fewestToShut_20 : decode cX0_fewestToShut 20 = .ok (.aload_n 0, 1) := by decide +kernel
theorem dX0_fewestToShut_21 : decode cX0_fewestToShut 21 = .ok (.getfield 31, 3) := by decide +kernel
theorem dX0_fewestToShut_24 : decode cX0_fewestToShut 24 = .ok (.iload_n 1, 1) := by decide +kernel
theorem dX0_fewestToShut_25 : decode cX0_fewestToShut 25 = .ok (.iaload, 1) := by decide +kernel
theorem dX0_fewestToShut_26 : decode cX0_fewestToShut 26 = .ok (.invokestatic 84, 3) := by decide +kernel
theorem dX0_fewestToShut_29 : decode cX0_fewestToShut 29 = .ok (.ifCond .eq 41, 3) := by decide +kernel
theorem dX0_fewestToShut_32 : decode cX0_fewestToShut 32 = .ok (.iload 4, 2) := by decide +kernel
theorem dX0_fewestToShut_34 : decode cX0_fewestToShut 34 = .ok (.iload_n 2, 1) := by decide +kernel
theorem dX0_fewestToShut_35 : decode cX0_fewestToShut 35 = .ok (.invokestatic 84, 3) := by decide +kernel
theorem dX0_fewestToShut_38 : decode cX0_fewestToShut 38 = .ok (.ifCond .ne 32, 3) := by decide +kernel
theorem dX0_fewestToShut_41 : decode cX0_fewestToShut 41 = .ok (.aload_n 0, 1) := by decide +kernel
theorem dX0_fewestToShut_42 : decode cX0_fewestToShut 42 = .ok (.iload 4, 2) := by decide +kernel
theorem dX0_fewestToShut_44 : decode cX0_fewestToShut 44 = .ok (.aload_n 0, 1) := by decide +kernel
theorem dX0_fewestToShut_45 : decode cX0_fewestToShut 45 = .ok (.iload_n 1, 1) := by decide +kernel
theorem dX0_fewestToShut_46 : decode cX0_fewestToShut 46 = .ok (.invokevirtual 78, 3) := by decide +kernel
theorem dX0_fewestToShut_49 : decode cX0_fewestToShut 49 = .ok (.invokevirtual 108, 3) := by decide +kernel
theorem dX0_fewestToShut_52 : decode cX0_fewestToShut 52 = .ok (.istore 5, 2) := by decide +kernel
theorem dX0_fewestToShut_54 : decode cX0_fewestToShut 54 = .ok (.iload 5, 2) := by decide +kernel
theorem dX0_fewestToShut_56 : decode cX0_fewestToShut 56 = .ok (.iload_n 3, 1) := by decide +kernel
theorem dX0_fewestToShut_57 : decode cX0_fewestToShut 57 = .ok (.invokestatic 111, 3) := by decide +kernel
theorem dX0_fewestToShut_60 : decode cX0_fewestToShut 60 = .ok (.ifCond .eq 8, 3) := by decide +kernel
theorem dX0_fewestToShut_63 : decode cX0_fewestToShut 63 = .ok (.iload 5, 2) := by decide +kernel
theorem dX0_fewestToShut_65 : decode cX0_fewestToShut 65 = .ok (.goto 4, 3) := by decide +kernel
theorem dX0_fewestToShut_68 : decode cX0_fewestToShut 68 = .ok (.iload_n 3, 1) := by decide +kernel
theorem dX0_fewestToShut_69 : decode cX0_fewestToShut 69 = .ok (.istore_n 3, 1) := by decide +kernel
theorem dX0_fewestToShut_70 : decode cX0_fewestToShut 70 = .ok (.iinc 4 1, 3) := by decide +kernel
theorem dX0_fewestToShut_73 : decode cX0_fewestToShut 73 = .ok (.goto (-66), 3) := by decide +kernel
theorem dX0_fewestToShut_76 : decode cX0_fewestToShut 76 = .ok (.iload_n 3, 1) := by decide +kernel
theorem dX0_fewestToShut_77 : decode cX0_fewestToShut 77 = .ok (.ireturn, 1) := by decide +kernel
theorem dX0_fittedAround_0 : decode cX0_fittedAround 0 = .ok (.iconst 0, 1) := by decide +kernel
theorem dX0_fittedAround_1 : decode cX0_fittedAround 1 = .ok (.istore_n 3, 1) := by decide +kernel
theorem dX0_fittedAround_2 : decode cX0_fittedAround 2 = .ok (.iconst 0, 1) := by decide +kernel
theorem dX0_fittedAround_3 : decode cX0_fittedAround 3 = .ok (.istore 4, 2) := by decide +kernel
theorem dX0_fittedAround_5 : decode cX0_fittedAround 5 = .ok (.iload 4, 2) := by decide +kernel
theorem dX0_fittedAround_7 : decode cX0_fittedAround 7 = .ok (.aload_n 0, 1) := by decide +kernel
theorem dX0_fittedAround_8 : decode cX0_fittedAround 8 = .ok (.getfield 9, 3) := by decide +kernel
theorem dX0_fittedAround_11 : decode cX0_fittedAround 11 = .ok (.if_icmp .ge 70, 3) := by decide +kernel
theorem dX0_fittedAround_14 : decode cX0_fittedAround 14 = .ok (.iconst 0, 1) := by decide +kernel
theorem dX0_fittedAround_15 : decode cX0_fittedAround 15 = .ok (.istore 5, 2) := by decide +kernel
theorem dX0_fittedAround_17 : decode cX0_fittedAround 17 = .ok (.iload 5, 2) := by decide +kernel
theorem dX0_fittedAround_19 : decode cX0_fittedAround 19 = .ok (.aload_n 0, 1) := by decide +kernel
theorem dX0_fittedAround_20 : decode cX0_fittedAround 20 = .ok (.getfield 9, 3) := by decide +kernel
theorem dX0_fittedAround_23 : decode cX0_fittedAround 23 = .ok (.if_icmp .ge 52, 3) := by decide +kernel
theorem dX0_fittedAround_26 : decode cX0_fittedAround 26 = .ok (.iload_n 1, 1) := by decide +kernel
theorem dX0_fittedAround_27 : decode cX0_fittedAround 27 = .ok (.iload 4, 2) := by decide +kernel
theorem dX0_fittedAround_29 : decode cX0_fittedAround 29 = .ok (.invokestatic 84, 3) := by decide +kernel
theorem dX0_fittedAround_32 : decode cX0_fittedAround 32 = .ok (.ifCond .eq 37, 3) := by decide +kernel
theorem dX0_fittedAround_35 : decode cX0_fittedAround 35 = .ok (.iload_n 1, 1) := by decide +kernel
theorem dX0_fittedAround_36 : decode cX0_fittedAround 36 = .ok (.iload 5, 2) := by decide +kernel
theorem dX0_fittedAround_38 : decode cX0_fittedAround 38 = .ok (.invokestatic 84, 3) := by decide +kernel
theorem dX0_fittedAround_41 : decode cX0_fittedAround 41 = .ok (.ifCond .ne 28, 3) := by decide +kernel
theorem dX0_fittedAround_44 : decode cX0_fittedAround 44 = .ok (.aload_n 0, 1) := by decide +kernel
theorem dX0_fittedAround_45 : decode cX0_fittedAround 45 = .ok (.iload 4, 2) := by decide +kernel
theorem dX0_fittedAround_47 : decode cX0_fittedAround 47 = .ok (.iload 5, 2) := by decide +kernel
theorem dX0_fittedAround_49 : decode cX0_fittedAround 49 = .ok (.iload_n 2, 1) := by decide +kernel
theorem dX0_fittedAround_50 : decode cX0_fittedAround 50 = .ok (.invokevirtual 81, 3) := by decide +kernel
theorem dX0_fittedAround_53 : decode cX0_fittedAround 53 = .ok (.ifCond .eq 16, 3) := by decide +kernel
theorem dX0_fittedAround_56 : decode cX0_fittedAround 56 = .ok (.iload_n 3, 1) := by decide +kernel
theorem dX0_fittedAround_57 : decode cX0_fittedAround 57 = .ok (.iconst 1, 1) := by decide +kernel
theorem dX0_fittedAround_58 : decode cX0_fittedAround 58 = .ok (.aload_n 0, 1) := by decide +kernel
theorem dX0_fittedAround_59 : decode cX0_fittedAround 59 = .ok (.iload 4, 2) := by decide +kernel
theorem dX0_fittedAround_61 : decode cX0_fittedAround 61 = .ok (.iload 5, 2) := by decide +kernel
theorem dX0_fittedAround_63 : decode cX0_fittedAround 63 = .ok (.invokevirtual 55, 3) := by decide +kernel
theorem dX0_fittedAround_66 : decode cX0_fittedAround 66 = .ok (.ishl, 1) := by decide +kernel
theorem dX0_fittedAround_67 : decode cX0_fittedAround 67 = .ok (.ior, 1) := by decide +kernel
theorem dX0_fittedAround_68 : decode cX0_fittedAround 68 = .ok (.istore_n 3, 1) := by decide +kernel
theorem dX0_fittedAround_69 : decode cX0_fittedAround 69 = .ok (.iinc 5 1, 3) := by decide +kernel
theorem dX0_fittedAround_72 : decode cX0_fittedAround 72 = .ok (.goto (-55), 3) := by decide +kernel
theorem dX0_fittedAround_75 : decode cX0_fittedAround 75 = .ok (.iinc 4 1, 3) := by decide +kernel
theorem dX0_fittedAround_78 : decode cX0_fittedAround 78 = .ok (.goto (-73), 3) := by decide +kernel
theorem dX0_fittedAround_81 : decode cX0_fittedAround 81 = .ok (.iload_n 3, 1) := by decide +kernel
theorem dX0_fittedAround_82 : decode cX0_fittedAround 82 = .ok (.ireturn, 1) := by decide +kernel
theorem dX0_isFewer_0 : decode cX0_isFewer 0 = .ok (.iload_n 0, 1) := by decide +kernel
theorem dX0_isFewer_1 : decode cX0_isFewer 1 = .ok (.invokestatic 114, 3) := by decide +kernel
theorem dX0_isFewer_4 : decode cX0_isFewer 4 = .ok (.iload_n 1, 1) := by decide +kernel
theorem dX0_isFewer_5 : decode cX0_isFewer 5 = .ok (.invokestatic 114, 3) := by decide +kernel
theorem dX0_isFewer_8 : decode cX0_isFewer 8 = .ok (.isub, 1) := by decide +kernel
theorem dX0_isFewer_9 : decode cX0_isFewer 9 = .ok (.istore_n 2, 1) := by decide +kernel
theorem dX0_isFewer_10 : decode cX0_isFewer 10 = .ok (.iload_n 2, 1) := by decide +kernel
theorem dX0_isFewer_11 : decode cX0_isFewer 11 = .ok (.ifCond .lt 12, 3) := by decide +kernel
theorem dX0_isFewer_14 : decode cX0_isFewer 14 = .ok (.iload_n 2, 1) := by decide +kernel
theorem dX0_isFewer_15 : decode cX0_isFewer 15 = .ok (.ifCond .ne 12, 3) := by decide +kernel
theorem dX0_isFewer_18 : decode cX0_isFewer 18 = .ok (.iload_n 0, 1) := by decide +kernel
theorem dX0_isFewer_19 : decode cX0_isFewer 19 = .ok (.iload_n 1, 1) := by decide +kernel
theorem dX0_isFewer_20 : decode cX0_isFewer 20 = .ok (.if_icmp .ge 7, 3) := by decide +kernel
theorem dX0_isFewer_23 : decode cX0_isFewer 23 = .ok (.iconst 1, 1) := by decide +kernel
theorem dX0_isFewer_24 : decode cX0_isFewer 24 = .ok (.goto 4, 3) := by decide +kernel
theorem dX0_isFewer_27 : decode cX0_isFewer 27 = .ok (.iconst 0, 1) := by decide +kernel
theorem dX0_isFewer_28 : decode cX0_isFewer 28 = .ok (.ireturn, 1) := by decide +kernel
theorem dX1_init_0 : decode cX1_init 0 = .ok (.aload_n 0, 1) := by decide +kernel
theorem dX1_init_1 : decode cX1_init 1 = .ok (.invokespecial 3, 3) := by decide +kernel
theorem dX1_init_4 : decode cX1_init 4 = .ok (.aload_n 0, 1) := by decide +kernel
theorem dX1_init_5 : decode cX1_init 5 = .ok (.bipush 8, 2) := by decide +kernel
theorem dX1_init_7 : decode cX1_init 7 = .ok (.newarray .int, 2) := by decide +kernel
theorem dX1_init_9 : decode cX1_init 9 = .ok (.putfield 9, 3) := by decide +kernel
theorem dX1_init_12 : decode cX1_init 12 = .ok (.aload_n 0, 1) := by decide +kernel
theorem dX1_init_13 : decode cX1_init 13 = .ok (.bipush 8, 2) := by decide +kernel
theorem dX1_init_15 : decode cX1_init 15 = .ok (.newarray .int, 2) := by decide +kernel
theorem dX1_init_17 : decode cX1_init 17 = .ok (.putfield 15, 3) := by decide +kernel
theorem dX1_init_20 : decode cX1_init 20 = .ok (.aload_n 0, 1) := by decide +kernel
theorem dX1_init_21 : decode cX1_init 21 = .ok (.bipush 8, 2) := by decide +kernel
theorem dX1_init_23 : decode cX1_init 23 = .ok (.newarray .boolean, 2) := by decide +kernel
theorem dX1_init_25 : decode cX1_init 25 = .ok (.putfield 18, 3) := by decide +kernel
theorem dX1_init_28 : decode cX1_init 28 = .ok (.aload_n 0, 1) := by decide +kernel
theorem dX1_init_29 : decode cX1_init 29 = .ok (.iconst 0, 1) := by decide +kernel
theorem dX1_init_30 : decode cX1_init 30 = .ok (.putfield 22, 3) := by decide +kernel
theorem dX1_init_33 : decode cX1_init 33 = .ok (.return_, 1) := by decide +kernel
theorem dX1_write_0 : decode cX1_write 0 = .ok (.aload_n 0, 1) := by decide +kernel
theorem dX1_write_1 : decode cX1_write 1 = .ok (.getfield 22, 3) := by decide +kernel
theorem dX1_write_4 : decode cX1_write 4 = .ok (.bipush 8, 2) := by decide +kernel
theorem dX1_write_6 : decode cX1_write 6 = .ok (.if_icmp .ge 43, 3) := by decide +kernel
theorem dX1_write_9 : decode cX1_write 9 = .ok (.aload_n 0, 1) := by decide +kernel
theorem dX1_write_10 : decode cX1_write 10 = .ok (.getfield 9, 3) := by decide +kernel
theorem dX1_write_13 : decode cX1_write 13 = .ok (.aload_n 0, 1) := by decide +kernel
theorem dX1_write_14 : decode cX1_write 14 = .ok (.getfield 22, 3) := by decide +kernel
theorem dX1_write_17 : decode cX1_write 17 = .ok (.iload_n 1, 1) := by decide +kernel
theorem dX1_write_18 : decode cX1_write 18 = .ok (.iastore, 1) := by decide +kernel
theorem dX1_write_19 : decode cX1_write 19 = .ok (.aload_n 0, 1) := by decide +kernel
theorem dX1_write_20 : decode cX1_write 20 = .ok (.getfield 15, 3) := by decide +kernel
theorem dX1_write_23 : decode cX1_write 23 = .ok (.aload_n 0, 1) := by decide +kernel
theorem dX1_write_24 : decode cX1_write 24 = .ok (.getfield 22, 3) := by decide +kernel
theorem dX1_write_27 : decode cX1_write 27 = .ok (.iload_n 2, 1) := by decide +kernel
theorem dX1_write_28 : decode cX1_write 28 = .ok (.iastore, 1) := by decide +kernel
theorem dX1_write_29 : decode cX1_write 29 = .ok (.aload_n 0, 1) := by decide +kernel
theorem dX1_write_30 : decode cX1_write 30 = .ok (.getfield 18, 3) := by decide +kernel
theorem dX1_write_33 : decode cX1_write 33 = .ok (.aload_n 0, 1) := by decide +kernel
theorem dX1_write_34 : decode cX1_write 34 = .ok (.getfield 22, 3) := by decide +kernel
theorem dX1_write_37 : decode cX1_write 37 = .ok (.iload_n 3, 1) := by decide +kernel
theorem dX1_write_38 : decode cX1_write 38 = .ok (.bastore, 1) := by decide +kernel
theorem dX1_write_39 : decode cX1_write 39 = .ok (.aload_n 0, 1) := by decide +kernel
theorem dX1_write_40 : decode cX1_write 40 = .ok (.dup, 1) := by decide +kernel
theorem dX1_write_41 : decode cX1_write 41 = .ok (.getfield 22, 3) := by decide +kernel
theorem dX1_write_44 : decode cX1_write 44 = .ok (.iconst 1, 1) := by decide +kernel
theorem dX1_write_45 : decode cX1_write 45 = .ok (.iadd, 1) := by decide +kernel
theorem dX1_write_46 : decode cX1_write 46 = .ok (.putfield 22, 3) := by decide +kernel
theorem dX1_write_49 : decode cX1_write 49 = .ok (.return_, 1) := by decide +kernel
theorem dX1_agrees_0 : decode cX1_agrees 0 = .ok (.iconst 0, 1) := by decide +kernel
theorem dX1_agrees_1 : decode cX1_agrees 1 = .ok (.istore_n 2, 1) := by decide +kernel
theorem dX1_agrees_2 : decode cX1_agrees 2 = .ok (.iload_n 2, 1) := by decide +kernel
theorem dX1_agrees_3 : decode cX1_agrees 3 = .ok (.aload_n 0, 1) := by decide +kernel
theorem dX1_agrees_4 : decode cX1_agrees 4 = .ok (.getfield 22, 3) := by decide +kernel
theorem dX1_agrees_7 : decode cX1_agrees 7 = .ok (.if_icmp .ge 44, 3) := by decide +kernel
theorem dX1_agrees_10 : decode cX1_agrees 10 = .ok (.aload_n 1, 1) := by decide +kernel
theorem dX1_agrees_11 : decode cX1_agrees 11 = .ok (.getfield 26, 3) := by decide +kernel
theorem dX1_agrees_14 : decode cX1_agrees 14 = .ok (.aload_n 0, 1) := by decide +kernel
theorem dX1_agrees_15 : decode cX1_agrees 15 = .ok (.getfield 15, 3) := by decide +kernel
theorem dX1_agrees_18 : decode cX1_agrees 18 = .ok (.iload_n 2, 1) := by decide +kernel
theorem dX1_agrees_19 : decode cX1_agrees 19 = .ok (.iaload, 1) := by decide +kernel
theorem dX1_agrees_20 : decode cX1_agrees 20 = .ok (.iaload, 1) := by decide +kernel
theorem dX1_agrees_21 : decode cX1_agrees 21 = .ok (.aload_n 1, 1) := by decide +kernel
theorem dX1_agrees_22 : decode cX1_agrees 22 = .ok (.aload_n 0, 1) := by decide +kernel
theorem dX1_agrees_23 : decode cX1_agrees 23 = .ok (.getfield 9, 3) := by decide +kernel
theorem dX1_agrees_26 : decode cX1_agrees 26 = .ok (.iload_n 2, 1) := by decide +kernel
theorem dX1_agrees_27 : decode cX1_agrees 27 = .ok (.iaload, 1) := by decide +kernel
theorem dX1_agrees_28 : decode cX1_agrees 28 = .ok (.invokevirtual 31, 3) := by decide +kernel
theorem dX1_agrees_31 : decode cX1_agrees 31 = .ok (.invokestatic 35, 3) := by decide +kernel
theorem dX1_agrees_34 : decode cX1_agrees 34 = .ok (.aload_n 0, 1) := by decide +kernel
theorem dX1_agrees_35 : decode cX1_agrees 35 = .ok (.getfield 18, 3) := by decide +kernel
theorem dX1_agrees_38 : decode cX1_agrees 38 = .ok (.iload_n 2, 1) := by decide +kernel
theorem dX1_agrees_39 : decode cX1_agrees 39 = .ok (.baload, 1) := by decide +kernel
theorem dX1_agrees_40 : decode cX1_agrees 40 = .ok (.if_icmp .eq 5, 3) := by decide +kernel
theorem dX1_agrees_43 : decode cX1_agrees 43 = .ok (.iconst 0, 1) := by decide +kernel
theorem dX1_agrees_44 : decode cX1_agrees 44 = .ok (.ireturn, 1) := by decide +kernel
theorem dX1_agrees_45 : decode cX1_agrees 45 = .ok (.iinc 2 1, 3) := by decide +kernel
theorem dX1_agrees_48 : decode cX1_agrees 48 = .ok (.goto (-46), 3) := by decide +kernel
theorem dX1_agrees_51 : decode cX1_agrees 51 = .ok (.iconst 1, 1) := by decide +kernel
theorem dX1_agrees_52 : decode cX1_agrees 52 = .ok (.ireturn, 1) := by decide +kernel
theorem dX2_init_0 : decode cX2_init 0 = .ok (.aload_n 0, 1) := by decide +kernel
theorem dX2_init_1 : decode cX2_init 1 = .ok (.invokespecial 3, 3) := by decide +kernel
theorem dX2_init_4 : decode cX2_init 4 = .ok (.aload_n 0, 1) := by decide +kernel
theorem dX2_init_5 : decode cX2_init 5 = .ok (.bipush 60, 2) := by decide +kernel
theorem dX2_init_7 : decode cX2_init 7 = .ok (.newarray .int, 2) := by decide +kernel
theorem dX2_init_9 : decode cX2_init 9 = .ok (.putfield 9, 3) := by decide +kernel
theorem dX2_init_12 : decode cX2_init 12 = .ok (.aload_n 0, 1) := by decide +kernel
theorem dX2_init_13 : decode cX2_init 13 = .ok (.iconst 0, 1) := by decide +kernel
theorem dX2_init_14 : decode cX2_init 14 = .ok (.putfield 15, 3) := by decide +kernel
theorem dX2_init_17 : decode cX2_init 17 = .ok (.aload_n 0, 1) := by decide +kernel
theorem dX2_init_18 : decode cX2_init 18 = .ok (.iconst 0, 1) := by decide +kernel
theorem dX2_init_19 : decode cX2_init 19 = .ok (.putfield 19, 3) := by decide +kernel
theorem dX2_init_22 : decode cX2_init 22 = .ok (.aload_n 0, 1) := by decide +kernel
theorem dX2_init_23 : decode cX2_init 23 = .ok (.iconst 0, 1) := by decide +kernel
theorem dX2_init_24 : decode cX2_init 24 = .ok (.putfield 23, 3) := by decide +kernel
theorem dX2_init_27 : decode cX2_init 27 = .ok (.return_, 1) := by decide +kernel
theorem dX2_begin_0 : decode cX2_begin 0 = .ok (.aload_n 0, 1) := by decide +kernel
theorem dX2_begin_1 : decode cX2_begin 1 = .ok (.getfield 9, 3) := by decide +kernel
theorem dX2_begin_4 : decode cX2_begin 4 = .ok (.iconst 0, 1) := by decide +kernel
theorem dX2_begin_5 : decode cX2_begin 5 = .ok (.invokestatic 26, 3) := by decide +kernel
theorem dX2_begin_8 : decode cX2_begin 8 = .ok (.aload_n 0, 1) := by decide +kernel
theorem dX2_begin_9 : decode cX2_begin 9 = .ok (.iconst 1, 1) := by decide +kernel
theorem dX2_begin_10 : decode cX2_begin 10 = .ok (.putfield 15, 3) := by decide +kernel
theorem dX2_begin_13 : decode cX2_begin 13 = .ok (.aload_n 0, 1) := by decide +kernel
theorem dX2_begin_14 : decode cX2_begin 14 = .ok (.iload_n 1, 1) := by decide +kernel
theorem dX2_begin_15 : decode cX2_begin 15 = .ok (.putfield 19, 3) := by decide +kernel
theorem dX2_begin_18 : decode cX2_begin 18 = .ok (.aload_n 0, 1) := by decide +kernel
theorem dX2_begin_19 : decode cX2_begin 19 = .ok (.iload_n 2, 1) := by decide +kernel
theorem dX2_begin_20 : decode cX2_begin 20 = .ok (.putfield 23, 3) := by decide +kernel
theorem dX2_begin_23 : decode cX2_begin 23 = .ok (.return_, 1) := by decide +kernel
theorem dX2_faultAs_0 : decode cX2_faultAs 0 = .ok (.aload_n 0, 1) := by decide +kernel
theorem dX2_faultAs_1 : decode cX2_faultAs 1 = .ok (.getfield 15, 3) := by decide +kernel
theorem dX2_faultAs_4 : decode cX2_faultAs 4 = .ok (.ifCond .ne 5, 3) := by decide +kernel
theorem dX2_faultAs_7 : decode cX2_faultAs 7 = .ok (.iconst 1, 1) := by decide +kernel
theorem dX2_faultAs_8 : decode cX2_faultAs 8 = .ok (.ireturn, 1) := by decide +kernel
theorem dX2_faultAs_9 : decode cX2_faultAs 9 = .ok (.aload_n 0, 1) := by decide +kernel
theorem dX2_faultAs_10 : decode cX2_faultAs 10 = .ok (.getfield 19, 3) := by decide +kernel
theorem dX2_faultAs_13 : decode cX2_faultAs 13 = .ok (.iload_n 1, 1) := by decide +kernel
theorem dX2_faultAs_14 : decode cX2_faultAs 14 = .ok (.if_icmp .ne 7, 3) := by decide +kernel
theorem dX2_faultAs_17 : decode cX2_faultAs 17 = .ok (.iconst 0, 1) := by decide +kernel
theorem dX2_faultAs_18 : decode cX2_faultAs 18 = .ok (.goto 4, 3) := by decide +kernel
theorem dX2_faultAs_21 : decode cX2_faultAs 21 = .ok (.iconst 2, 1) := by decide +kernel
theorem dX2_faultAs_22 : decode cX2_faultAs 22 = .ok (.ireturn, 1) := by decide +kernel
theorem dX2_spans_0 : decode cX2_spans 0 = .ok (.iload_n 1, 1) := by decide +kernel
theorem dX2_spans_1 : decode cX2_spans 1 = .ok (.ifCond .lt 29, 3) := by decide +kernel
theorem dX2_spans_4 : decode cX2_spans 4 = .ok (.iload_n 1, 1) := by decide +kernel
theorem dX2_spans_5 : decode cX2_spans 5 = .ok (.aload_n 0, 1) := by decide +kernel
theorem dX2_spans_6 : decode cX2_spans 6 = .ok (.getfield 23, 3) := by decide +kernel
theorem dX2_spans_9 : decode cX2_spans 9 = .ok (.if_icmp .gt 21, 3) := by decide +kernel
theorem dX2_spans_12 : decode cX2_spans 12 = .ok (.iload_n 2, 1) := by decide +kernel
theorem dX2_spans_13 : decode cX2_spans 13 = .ok (.ifCond .lt 17, 3) := by decide +kernel
theorem dX2_spans_16 : decode cX2_spans 16 = .ok (.iload_n 2, 1) := by decide +kernel
theorem dX2_spans_17 : decode cX2_spans 17 = .ok (.aload_n 0, 1) := by decide +kernel
theorem dX2_spans_18 : decode cX2_spans 18 = .ok (.getfield 23, 3) := by decide +kernel
theorem dX2_spans_21 : decode cX2_spans 21 = .ok (.iload_n 1, 1) := by decide +kernel
theorem dX2_spans_22 : decode cX2_spans 22 = .ok (.isub, 1) := by decide +kernel
theorem dX2_spans_23 : decode cX2_spans 23 = .ok (.if_icmp .gt 7, 3) := by decide +kernel
theorem dX2_spans_26 : decode cX2_spans 26 = .ok (.iconst 1, 1) := by decide +kernel
theorem dX2_spans_27 : decode cX2_spans 27 = .ok (.goto 4, 3) := by decide +kernel
theorem dX2_spans_30 : decode cX2_spans 30 = .ok (.iconst 0, 1) := by decide +kernel
theorem dX2_spans_31 : decode cX2_spans 31 = .ok (.ireturn, 1) := by decide +kernel
theorem dX3_init_0 : decode cX3_init 0 = .ok (.aload_n 0, 1) := by decide +kernel
theorem dX3_init_1 : decode cX3_init 1 = .ok (.invokespecial 3, 3) := by decide +kernel
theorem dX3_init_4 : decode cX3_init 4 = .ok (.aload_n 0, 1) := by decide +kernel
theorem dX3_init_5 : decode cX3_init 5 = .ok (.iconst 4, 1) := by decide +kernel
theorem dX3_init_6 : decode cX3_init 6 = .ok (.anewarray 11, 3) := by decide +kernel
theorem dX3_init_9 : decode cX3_init 9 = .ok (.putfield 13, 3) := by decide +kernel
theorem dX3_init_12 : decode cX3_init 12 = .ok (.aload_n 0, 1) := by decide +kernel
theorem dX3_init_13 : decode cX3_init 13 = .ok (.new 17, 3) := by decide +kernel
theorem dX3_init_16 : decode cX3_init 16 = .ok (.dup, 1) := by decide +kernel
theorem dX3_init_17 : decode cX3_init 17 = .ok (.invokespecial 19, 3) := by decide +kernel
theorem dX3_init_20 : decode cX3_init 20 = .ok (.putfield 20, 3) := by decide +kernel
theorem dX3_init_23 : decode cX3_init 23 = .ok (.aload_n 0, 1) := by decide +kernel
theorem dX3_init_24 : decode cX3_init 24 = .ok (.new 17, 3) := by decide +kernel
theorem dX3_init_27 : decode cX3_init 27 = .ok (.dup, 1) := by decide +kernel
theorem dX3_init_28 : decode cX3_init 28 = .ok (.invokespecial 19, 3) := by decide +kernel
theorem dX3_init_31 : decode cX3_init 31 = .ok (.putfield 24, 3) := by decide +kernel
theorem dX3_init_34 : decode cX3_init 34 = .ok (.aload_n 0, 1) := by decide +kernel
theorem dX3_init_35 : decode cX3_init 35 = .ok (.new 27, 3) := by decide +kernel
theorem dX3_init_38 : decode cX3_init 38 = .ok (.dup, 1) := by decide +kernel
theorem dX3_init_39 : decode cX3_init 39 = .ok (.invokespecial 29, 3) := by decide +kernel
theorem dX3_init_42 : decode cX3_init 42 = .ok (.putfield 30, 3) := by decide +kernel
theorem dX3_init_45 : decode cX3_init 45 = .ok (.aload_n 0, 1) := by decide +kernel
theorem dX3_init_46 : decode cX3_init 46 = .ok (.iconst 0, 1) := by decide +kernel
theorem dX3_init_47 : decode cX3_init 47 = .ok (.putfield 34, 3) := by decide +kernel
theorem dX3_init_50 : decode cX3_init 50 = .ok (.aload_n 0, 1) := by decide +kernel
theorem dX3_init_51 : decode cX3_init 51 = .ok (.iconst 0, 1) := by decide +kernel
theorem dX3_init_52 : decode cX3_init 52 = .ok (.putfield 38, 3) := by decide +kernel
theorem dX3_init_55 : decode cX3_init 55 = .ok (.aload_n 0, 1) := by decide +kernel
theorem dX3_init_56 : decode cX3_init 56 = .ok (.iconst 0, 1) := by decide +kernel
theorem dX3_init_57 : decode cX3_init 57 = .ok (.putfield 41, 3) := by decide +kernel
theorem dX3_init_60 : decode cX3_init 60 = .ok (.aload_n 0, 1) := by decide +kernel
theorem dX3_init_61 : decode cX3_init 61 = .ok (.iconst 0, 1) := by decide +kernel
theorem dX3_init_62 : decode cX3_init 62 = .ok (.putfield 44, 3) := by decide +kernel
theorem dX3_init_65 : decode cX3_init 65 = .ok (.iconst 0, 1) := by decide +kernel
theorem dX3_init_66 : decode cX3_init 66 = .ok (.istore_n 1, 1) := by decide +kernel
theorem dX3_init_67 : decode cX3_init 67 = .ok (.iload_n 1, 1) := by decide +kernel
theorem dX3_init_68 : decode cX3_init 68 = .ok (.iconst 4, 1) := by decide +kernel
theorem dX3_init_69 : decode cX3_init 69 = .ok (.if_icmp .ge 22, 3) := by decide +kernel
theorem dX3_init_72 : decode cX3_init 72 = .ok (.aload_n 0, 1) := by decide +kernel
theorem dX3_init_73 : decode cX3_init 73 = .ok (.getfield 13, 3) := by decide +kernel
theorem dX3_init_76 : decode cX3_init 76 = .ok (.iload_n 1, 1) := by decide +kernel
theorem dX3_init_77 : decode cX3_init 77 = .ok (.new 11, 3) := by decide +kernel
theorem dX3_init_80 : decode cX3_init 80 = .ok (.dup, 1) := by decide +kernel
theorem dX3_init_81 : decode cX3_init 81 = .ok (.invokespecial 47, 3) := by decide +kernel
theorem dX3_init_84 : decode cX3_init 84 = .ok (.aastore, 1) := by decide +kernel
theorem dX3_init_85 : decode cX3_init 85 = .ok (.iinc 1 1, 3) := by decide +kernel
theorem dX3_init_88 : decode cX3_init 88 = .ok (.goto (-21), 3) := by decide +kernel
theorem dX3_init_91 : decode cX3_init 91 = .ok (.return_, 1) := by decide +kernel
theorem dX3_county_0 : decode cX3_county 0 = .ok (.aload_n 0, 1) := by decide +kernel
theorem dX3_county_1 : decode cX3_county 1 = .ok (.iconst 0, 1) := by decide +kernel
theorem dX3_county_2 : decode cX3_county 2 = .ok (.putfield 44, 3) := by decide +kernel
theorem dX3_county_5 : decode cX3_county 5 = .ok (.iload_n 1, 1) := by decide +kernel
theorem dX3_county_6 : decode cX3_county 6 = .ok (.invokestatic 48, 3) := by decide +kernel
theorem dX3_county_9 : decode cX3_county 9 = .ok (.ifCond .ne 5, 3) := by decide +kernel
theorem dX3_county_12 : decode cX3_county 12 = .ok (.iconst (-1), 1) := by decide +kernel
theorem dX3_county_13 : decode cX3_county 13 = .ok (.ireturn, 1) := by decide +kernel
theorem dX3_county_14 : decode cX3_county 14 = .ok (.iload_n 2, 1) := by decide +kernel
theorem dX3_county_15 : decode cX3_county 15 = .ok (.invokestatic 52, 3) := by decide +kernel
theorem dX3_county_18 : decode cX3_county 18 = .ok (.ifCond .ne 6, 3) := by decide +kernel
theorem dX3_county_21 : decode cX3_county 21 = .ok (.bipush (-2), 2) := by decide +kernel
theorem dX3_county_23 : decode cX3_county 23 = .ok (.ireturn, 1) := by decide +kernel
theorem dX3_county_24 : decode cX3_county 24 = .ok (.aload_n 0, 1) := by decide +kernel
theorem dX3_county_25 : decode cX3_county 25 = .ok (.getfield 13, 3) := by decide +kernel
theorem dX3_county_28 : decode cX3_county 28 = .ok (.iload_n 1, 1) := by decide +kernel
theorem dX3_county_29 : decode cX3_county 29 = .ok (.aaload, 1) := by decide +kernel
theorem dX3_county_30 : decode cX3_county 30 = .ok (.iload_n 2, 1) := by decide +kernel
theorem dX3_county_31 : decode cX3_county 31 = .ok (.invokevirtual 55, 3) := by decide +kernel
theorem dX3_county_34 : decode cX3_county 34 = .ok (.istore 5, 2) := by decide +kernel
theorem dX3_county_36 : decode cX3_county 36 = .ok (.iload 5, 2) := by decide +kernel
theorem dX3_county_38 : decode cX3_county 38 = .ok (.ifCond .ne 11, 3) := by decide +kernel
theorem dX3_county_41 : decode cX3_county 41 = .ok (.iload 4, 2) := by decide +kernel
theorem dX3_county_43 : decode cX3_county 43 = .ok (.ifCond .ge 6, 3) := by decide +kernel
theorem dX3_county_46 : decode cX3_county 46 = .ok (.iconst 4, 1) := by decide +kernel
theorem dX3_county_47 : decode cX3_county 47 = .ok (.istore 5, 2) := by decide +kernel
theorem dX3_county_49 : decode cX3_county 49 = .ok (.iload 5, 2) := by decide +kernel
theorem dX3_county_51 : decode cX3_county 51 = .ok (.ifCond .ne 21, 3) := by decide +kernel
theorem dX3_county_54 : decode cX3_county 54 = .ok (.aload_n 0, 1) := by decide +kernel
theorem dX3_county_55 : decode cX3_county 55 = .ok (.getfield 13, 3) := by decide +kernel
theorem dX3_county_58 : decode cX3_county 58 = .ok (.iload_n 1, 1) := by decide +kernel
theorem dX3_county_59 : decode cX3_county 59 = .ok (.aaload, 1) := by decide +kernel
theorem dX3_county_60 : decode cX3_county 60 = .ok (.iload_n 3, 1) := by decide +kernel
theorem dX3_county_61 : decode cX3_county 61 = .ok (.iload 4, 2) := by decide +kernel
theorem dX3_county_63 : decode cX3_county 63 = .ok (.invokevirtual 59, 3) := by decide +kernel
theorem dX3_county_66 : decode cX3_county 66 = .ok (.ifCond .ne 6, 3) := by decide +kernel
theorem dX3_county_69 : decode cX3_county 69 = .ok (.iconst 3, 1) := by decide +kernel
theorem dX3_county_70 : decode cX3_county 70 = .ok (.istore 5, 2) := by decide +kernel
theorem dX3_county_72 : decode cX3_county 72 = .ok (.iload 5, 2) := by decide +kernel
theorem dX3_county_74 : decode cX3_county 74 = .ok (.ifCond .eq 10, 3) := by decide +kernel
theorem dX3_county_77 : decode cX3_county 77 = .ok (.aload_n 0, 1) := by decide +kernel
theorem dX3_county_78 : decode cX3_county 78 = .ok (.iload 5, 2) := by decide +kernel
theorem dX3_county_80 : decode cX3_county 80 = .ok (.invokevirtual 63, 3) := by decide +kernel
theorem dX3_county_83 : decode cX3_county 83 = .ok (.ireturn, 1) := by decide +kernel
theorem dX3_county_84 : decode cX3_county 84 = .ok (.aload_n 0, 1) := by decide +kernel
theorem dX3_county_85 : decode cX3_county 85 = .ok (.aload_n 0, 1) := by decide +kernel
theorem dX3_county_86 : decode cX3_county 86 = .ok (.getfield 13, 3) := by decide +kernel
theorem dX3_county_89 : decode cX3_county 89 = .ok (.iload_n 1, 1) := by decide +kernel
theorem dX3_county_90 : decode cX3_county 90 = .ok (.aaload, 1) := by decide +kernel
theorem dX3_county_91 : decode cX3_county 91 = .ok (.iload_n 3, 1) := by decide +kernel
theorem dX3_county_92 : decode cX3_county 92 = .ok (.iload 4, 2) := by decide +kernel
theorem dX3_county_94 : decode cX3_county 94 = .ok (.invokevirtual 66, 3) := by decide +kernel
theorem dX3_county_97 : decode cX3_county 97 = .ok (.istore 6, 2) := by decide +kernel
theorem dX3_county_99 : decode cX3_county 99 = .ok (.iload 6, 2) := by decide +kernel
theorem dX3_county_101 : decode cX3_county 101 = .ok (.bipush (-9), 2) := by decide +kernel
theorem dX3_county_103 : decode cX3_county 103 = .ok (.if_icmp .eq 9, 3) := by decide +kernel
theorem dX3_county_106 : decode cX3_county 106 = .ok (.bipush (-100), 2) := by decide +kernel
theorem dX3_county_108 : decode cX3_county 108 = .ok (.iload 6, 2) := by decide +kernel
theorem dX3_county_110 : decode cX3_county 110 = .ok (.isub, 1) := by decide +kernel
theorem dX3_county_111 : decode cX3_county 111 = .ok (.ireturn, 1) := by decide +kernel
theorem dX3_county_112 : decode cX3_county 112 = .ok (.aload_n 0, 1) := by decide +kernel
theorem dX3_county_113 : decode cX3_county 113 = .ok (.getfield 20, 3) := by decide +kernel
theorem dX3_county_116 : decode cX3_county 116 = .ok (.aload_n 0, 1) := by decide +kernel
theorem dX3_county_117 : decode cX3_county 117 = .ok (.getfield 24, 3) := by decide +kernel
theorem dX3_county_120 : decode cX3_county 120 = .ok (.invokevirtual 70, 3) := by decide +kernel
theorem dX3_county_123 : decode cX3_county 123 = .ok (.aload_n 0, 1) := by decide +kernel
theorem dX3_county_124 : decode cX3_county 124 = .ok (.getfield 30, 3) := by decide +kernel
theorem dX3_county_127 : decode cX3_county 127 = .ok (.iconst 0, 1) := by decide +kernel
theorem dX3_county_128 : decode cX3_county 128 = .ok (.putfield 74, 3) := by decide +kernel
theorem dX3_county_131 : decode cX3_county 131 = .ok (.aload_n 0, 1) := by decide +kernel
theorem dX3_county_132 : decode cX3_county 132 = .ok (.iconst 0, 1) := by decide +kernel
theorem dX3_county_133 : decode cX3_county 133 = .ok (.putfield 34, 3) := by decide +kernel
theorem dX3_county_136 : decode cX3_county 136 = .ok (.aload_n 0, 1) := by decide +kernel
theorem dX3_county_137 : decode cX3_county 137 = .ok (.iconst 0, 1) := by decide +kernel
theorem dX3_county_138 : decode cX3_county 138 = .ok (.putfield 38, 3) := by decide +kernel
theorem dX3_county_141 : decode cX3_county 141 = .ok (.aload_n 0, 1) := by decide +kernel
theorem dX3_county_142 : decode cX3_county 142 = .ok (.getfield 20, 3) := by decide +kernel
theorem dX3_county_145 : decode cX3_county 145 = .ok (.getfield 77, 3) := by decide +kernel
theorem dX3_county_148 : decode cX3_county 148 = .ok (.ireturn, 1) := by decide +kernel
theorem dX3_ofGoer_0 : decode cX3_ofGoer 0 = .ok (.aload_n 0, 1) := by decide +kernel
theorem dX3_ofGoer_1 : decode cX3_ofGoer 1 = .ok (.iload_n 1, 1) := by decide +kernel
theorem dX3_ofGoer_2 : decode cX3_ofGoer 2 = .ok (.invokevirtual 80, 3) := by decide +kernel
theorem dX3_ofGoer_5 : decode cX3_ofGoer 5 = .ok (.ifCond .ne 5, 3) := by decide +kernel
theorem dX3_ofGoer_8 : decode cX3_ofGoer 8 = .ok (.iconst (-1), 1) := by decide +kernel
theorem dX3_ofGoer_9 : decode cX3_ofGoer 9 = .ok (.ireturn, 1) := by decide +kernel
theorem dX3_ofGoer_10 : decode cX3_ofGoer 10 = .ok (.iload_n 2, 1) := by decide +kernel
theorem dX3_ofGoer_11 : decode cX3_ofGoer 11 = .ok (.tableswitch 68 0 3 #[29, 39, 49, 58], 29) := by decide +kernel
theorem dX3_ofGoer_40 : decode cX3_ofGoer 40 = .ok (.aload_n 0, 1) := by decide +kernel
theorem dX3_ofGoer_41 : decode cX3_ofGoer 41 = .ok (.getfield 20, 3) := by decide +kernel
theorem dX3_ofGoer_44 : decode cX3_ofGoer 44 = .ok (.getfield 83, 3) := by decide +kernel
theorem dX3_ofGoer_47 : decode cX3_ofGoer 47 = .ok (.iload_n 1, 1) := by decide +kernel
theorem dX3_ofGoer_48 : decode cX3_ofGoer 48 = .ok (.iaload, 1) := by decide +kernel
theorem dX3_ofGoer_49 : decode cX3_ofGoer 49 = .ok (.ireturn, 1) := by decide +kernel
theorem dX3_ofGoer_50 : decode cX3_ofGoer 50 = .ok (.aload_n 0, 1) := by decide +kernel
theorem dX3_ofGoer_51 : decode cX3_ofGoer 51 = .ok (.getfield 20, 3) := by decide +kernel
theorem dX3_ofGoer_54 : decode cX3_ofGoer 54 = .ok (.getfield 87, 3) := by decide +kernel
theorem dX3_ofGoer_57 : decode cX3_ofGoer 57 = .ok (.iload_n 1, 1) := by decide +kernel
theorem dX3_ofGoer_58 : decode cX3_ofGoer 58 = .ok (.iaload, 1) := by decide +kernel
theorem dX3_ofGoer_59 : decode cX3_ofGoer 59 = .ok (.ireturn, 1) := by decide +kernel
theorem dX3_ofGoer_60 : decode cX3_ofGoer 60 = .ok (.aload_n 0, 1) := by decide +kernel
theorem dX3_ofGoer_61 : decode cX3_ofGoer 61 = .ok (.getfield 20, 3) := by decide +kernel
theorem dX3_ofGoer_64 : decode cX3_ofGoer 64 = .ok (.iload_n 1, 1) := by decide +kernel
theorem dX3_ofGoer_65 : decode cX3_ofGoer 65 = .ok (.invokevirtual 90, 3) := by decide +kernel
theorem dX3_ofGoer_68 : decode cX3_ofGoer 68 = .ok (.ireturn, 1) := by decide +kernel
theorem dX3_ofGoer_69 : decode cX3_ofGoer 69 = .ok (.aload_n 0, 1) := by decide +kernel
theorem dX3_ofGoer_70 : decode cX3_ofGoer 70 = .ok (.getfield 20, 3) := by decide +kernel
theorem dX3_ofGoer_73 : decode cX3_ofGoer 73 = .ok (.getfield 93, 3) := by decide +kernel
theorem dX3_ofGoer_76 : decode cX3_ofGoer 76 = .ok (.iload_n 1, 1) := by decide +kernel
theorem dX3_ofGoer_77 : decode cX3_ofGoer 77 = .ok (.iaload, 1) := by decide +kernel
theorem dX3_ofGoer_78 : decode cX3_ofGoer 78 = .ok (.ireturn, 1) := by decide +kernel
theorem dX3_ofGoer_79 : decode cX3_ofGoer 79 = .ok (.bipush (-2), 2) := by decide +kernel
theorem dX3_ofGoer_81 : decode cX3_ofGoer 81 = .ok (.ireturn, 1) := by decide +kernel
theorem dX3_hole_0 : decode cX3_hole 0 = .ok (.aload_n 0, 1) := by decide +kernel
theorem dX3_hole_1 : decode cX3_hole 1 = .ok (.iload_n 1, 1) := by decide +kernel
theorem dX3_hole_2 : decode cX3_hole 2 = .ok (.iload_n 2, 1) := by decide +kernel
theorem dX3_hole_3 : decode cX3_hole 3 = .ok (.invokevirtual 96, 3) := by decide +kernel
theorem dX3_hole_6 : decode cX3_hole 6 = .ok (.ifCond .ne 5, 3) := by decide +kernel
theorem dX3_hole_9 : decode cX3_hole 9 = .ok (.iconst (-1), 1) := by decide +kernel
theorem dX3_hole_10 : decode cX3_hole 10 = .ok (.ireturn, 1) := by decide +kernel
theorem dX3_hole_11 : decode cX3_hole 11 = .ok (.aload_n 0, 1) := by decide +kernel
theorem dX3_hole_12 : decode cX3_hole 12 = .ok (.getfield 20, 3) := by decide +kernel
theorem dX3_hole_15 : decode cX3_hole 15 = .ok (.iload_n 1, 1) := by decide +kernel
theorem dX3_hole_16 : decode cX3_hole 16 = .ok (.iload_n 2, 1) := by decide +kernel
theorem dX3_hole_17 : decode cX3_hole 17 = .ok (.invokevirtual 99, 3) := by decide +kernel
theorem dX3_hole_20 : decode cX3_hole 20 = .ok (.istore 4, 2) := by decide +kernel
theorem dX3_hole_22 : decode cX3_hole 22 = .ok (.iload_n 3, 1) := by decide +kernel
theorem dX3_hole_23 : decode cX3_hole 23 = .ok (.tableswitch 60 0 2 #[25, 36, 57], 25) := by decide +kernel
theorem dX3_hole_48 : decode cX3_hole 48 = .ok (.aload_n 0, 1) := by decide +kernel
theorem dX3_hole_49 : decode cX3_hole 49 = .ok (.getfield 20, 3) := by decide +kernel
theorem dX3_hole_52 : decode cX3_hole 52 = .ok (.getfield 103, 3) := by decide +kernel
theorem dX3_hole_55 : decode cX3_hole 55 = .ok (.iload 4, 2) := by decide +kernel
theorem dX3_hole_57 : decode cX3_hole 57 = .ok (.iaload, 1) := by decide +kernel
theorem dX3_hole_58 : decode cX3_hole 58 = .ok (.ireturn, 1) := by decide +kernel
theorem dX3_hole_59 : decode cX3_hole 59 = .ok (.aload_n 0, 1) := by decide +kernel
theorem dX3_hole_60 : decode cX3_hole 60 = .ok (.getfield 20, 3) := by decide +kernel
theorem dX3_hole_63 : decode cX3_hole 63 = .ok (.getfield 106, 3) := by decide +kernel
theorem dX3_hole_66 : decode cX3_hole 66 = .ok (.iload 4, 2) := by decide +kernel
theorem dX3_hole_68 : decode cX3_hole 68 = .ok (.invokestatic 109, 3) := by decide +kernel
theorem dX3_hole_71 : decode cX3_hole 71 = .ok (.ifCond .eq 7, 3) := by decide +kernel
theorem dX3_hole_74 : decode cX3_hole 74 = .ok (.iconst 1, 1) := by decide +kernel
theorem dX3_hole_75 : decode cX3_hole 75 = .ok (.goto 4, 3) := by decide +kernel
theorem dX3_hole_78 : decode cX3_hole 78 = .ok (.iconst 0, 1) := by decide +kernel
theorem dX3_hole_79 : decode cX3_hole 79 = .ok (.ireturn, 1) := by decide +kernel
theorem dX3_hole_80 : decode cX3_hole 80 = .ok (.iload 4, 2) := by decide +kernel
theorem dX3_hole_82 : decode cX3_hole 82 = .ok (.ireturn, 1) := by decide +kernel
theorem dX3_hole_83 : decode cX3_hole 83 = .ok (.bipush (-2), 2) := by decide +kernel
theorem dX3_hole_85 : decode cX3_hole 85 = .ok (.ireturn, 1) := by decide +kernel
theorem dX3_hoop_0 : decode cX3_hoop 0 = .ok (.aload_n 0, 1) := by decide +kernel
theorem dX3_hoop_1 : decode cX3_hoop 1 = .ok (.iload_n 1, 1) := by decide +kernel
theorem dX3_hoop_2 : decode cX3_hoop 2 = .ok (.iload_n 2, 1) := by decide +kernel
theorem dX3_hoop_3 : decode cX3_hoop 3 = .ok (.invokevirtual 96, 3) := by decide +kernel
theorem dX3_hoop_6 : decode cX3_hoop 6 = .ok (.ifCond .ne 5, 3) := by decide +kernel
theorem dX3_hoop_9 : decode cX3_hoop 9 = .ok (.iconst (-1), 1) := by decide +kernel
theorem dX3_hoop_10 : decode cX3_hoop 10 = .ok (.ireturn, 1) := by decide +kernel
theorem dX3_hoop_11 : decode cX3_hoop 11 = .ok (.iload_n 3, 1) := by decide +kernel
theorem dX3_hoop_12 : decode cX3_hoop 12 = .ok (.ifCond .lt 9, 3) := by decide +kernel
theorem dX3_hoop_15 : decode cX3_hoop 15 = .ok (.iload_n 3, 1) := by decide +kernel
theorem dX3_hoop_16 : decode cX3_hoop 16 = .ok (.bipush 9, 2) := by decide +kernel
theorem dX3_hoop_18 : decode cX3_hoop 18 = .ok (.if_icmp .le 6, 3) := by decide +kernel
theorem dX3_hoop_21 : decode cX3_hoop 21 = .ok (.bipush (-2), 2) := by decide +kernel
theorem dX3_hoop_23 : decode cX3_hoop 23 = .ok (.ireturn, 1) := by decide +kernel
theorem dX3_hoop_24 : decode cX3_hoop 24 = .ok (.aload_n 0, 1) := by decide +kernel
theorem dX3_hoop_25 : decode cX3_hoop 25 = .ok (.getfield 20, 3) := by decide +kernel
theorem dX3_hoop_28 : decode cX3_hoop 28 = .ok (.iload_n 1, 1) := by decide +kernel
theorem dX3_hoop_29 : decode cX3_hoop 29 = .ok (.iload_n 2, 1) := by decide +kernel
theorem dX3_hoop_30 : decode cX3_hoop 30 = .ok (.invokevirtual 99, 3) := by decide +kernel
theorem dX3_hoop_33 : decode cX3_hoop 33 = .ok (.istore 4, 2) := by decide +kernel
theorem dX3_hoop_35 : decode cX3_hoop 35 = .ok (.aload_n 0, 1) := by decide +kernel
theorem dX3_hoop_36 : decode cX3_hoop 36 = .ok (.getfield 20, 3) := by decide +kernel
theorem dX3_hoop_39 : decode cX3_hoop 39 = .ok (.getfield 103, 3) := by decide +kernel
theorem dX3_hoop_42 : decode cX3_hoop 42 = .ok (.iload 4, 2) := by decide +kernel
theorem dX3_hoop_44 : decode cX3_hoop 44 = .ok (.iaload, 1) := by decide +kernel
theorem dX3_hoop_45 : decode cX3_hoop 45 = .ok (.istore 5, 2) := by decide +kernel
theorem dX3_hoop_47 : decode cX3_hoop 47 = .ok (.aload_n 0, 1) := by decide +kernel
theorem dX3_hoop_48 : decode cX3_hoop 48 = .ok (.getfield 20, 3) := by decide +kernel
theorem dX3_hoop_51 : decode cX3_hoop 51 = .ok (.getfield 103, 3) := by decide +kernel
theorem dX3_hoop_54 : decode cX3_hoop 54 = .ok (.iload 4, 2) := by decide +kernel
theorem dX3_hoop_56 : decode cX3_hoop 56 = .ok (.iload_n 3, 1) := by decide +kernel
theorem dX3_hoop_57 : decode cX3_hoop 57 = .ok (.iastore, 1) := by decide +kernel
theorem dX3_hoop_58 : decode cX3_hoop 58 = .ok (.aload_n 0, 1) := by decide +kernel
theorem dX3_hoop_59 : decode cX3_hoop 59 = .ok (.getfield 20, 3) := by decide +kernel
theorem dX3_hoop_62 : decode cX3_hoop 62 = .ok (.dup, 1) := by decide +kernel
theorem dX3_hoop_63 : decode cX3_hoop 63 = .ok (.getfield 106, 3) := by decide +kernel
theorem dX3_hoop_66 : decode cX3_hoop 66 = .ok (.iconst 1, 1) := by decide +kernel
theorem dX3_hoop_67 : decode cX3_hoop 67 = .ok (.iload 4, 2) := by decide +kernel
theorem dX3_hoop_69 : decode cX3_hoop 69 = .ok (.ishl, 1) := by decide +kernel
theorem dX3_hoop_70 : decode cX3_hoop 70 = .ok (.iconst (-1), 1) := by decide +kernel
theorem dX3_hoop_71 : decode cX3_hoop 71 = .ok (.ixor, 1) := by decide +kernel
theorem dX3_hoop_72 : decode cX3_hoop 72 = .ok (.iand, 1) := by decide +kernel
theorem dX3_hoop_73 : decode cX3_hoop 73 = .ok (.putfield 106, 3) := by decide +kernel
theorem dX3_hoop_76 : decode cX3_hoop 76 = .ok (.iload 5, 2) := by decide +kernel
theorem dX3_hoop_78 : decode cX3_hoop 78 = .ok (.ireturn, 1) := by decide +kernel
theorem dX3_fatten_0 : decode cX3_fatten 0 = .ok (.aload_n 0, 1) := by decide +kernel
theorem dX3_fatten_1 : decode cX3_fatten 1 = .ok (.iload_n 1, 1) := by decide +kernel
theorem dX3_fatten_2 : decode cX3_fatten 2 = .ok (.invokevirtual 80, 3) := by decide +kernel
theorem dX3_fatten_5 : decode cX3_fatten 5 = .ok (.ifCond .ne 5, 3) := by decide +kernel
theorem dX3_fatten_8 : decode cX3_fatten 8 = .ok (.iconst (-1), 1) := by decide +kernel
theorem dX3_fatten_9 : decode cX3_fatten 9 = .ok (.ireturn, 1) := by decide +kernel
theorem dX3_fatten_10 : decode cX3_fatten 10 = .ok (.iload_n 2, 1) := by decide +kernel
theorem dX3_fatten_11 : decode cX3_fatten 11 = .ok (.iconst 1, 1) := by decide +kernel
theorem dX3_fatten_12 : decode cX3_fatten 12 = .ok (.if_icmp .lt 9, 3) := by decide +kernel
theorem dX3_fatten_15 : decode cX3_fatten 15 = .ok (.iload_n 2, 1) := by decide +kernel
theorem dX3_fatten_16 : decode cX3_fatten 16 = .ok (.bipush 9, 2) := by decide +kernel
theorem dX3_fatten_18 : decode cX3_fatten 18 = .ok (.if_icmp .le 6, 3) := by decide +kernel
theorem dX3_fatten_21 : decode cX3_fatten 21 = .ok (.bipush (-2), 2) := by decide +kernel
theorem dX3_fatten_23 : decode cX3_fatten 23 = .ok (.ireturn, 1) := by decide +kernel
theorem dX3_fatten_24 : decode cX3_fatten 24 = .ok (.aload_n 0, 1) := by decide +kernel
theorem dX3_fatten_25 : decode cX3_fatten 25 = .ok (.getfield 20, 3) := by decide +kernel
theorem dX3_fatten_28 : decode cX3_fatten 28 = .ok (.getfield 87, 3) := by decide +kernel
theorem dX3_fatten_31 : decode cX3_fatten 31 = .ok (.iload_n 1, 1) := by decide +kernel
theorem dX3_fatten_32 : decode cX3_fatten 32 = .ok (.iaload, 1) := by decide +kernel
theorem dX3_fatten_33 : decode cX3_fatten 33 = .ok (.istore_n 3, 1) := by decide +kernel
theorem dX3_fatten_34 : decode cX3_fatten 34 = .ok (.aload_n 0, 1) := by decide +kernel
theorem dX3_fatten_35 : decode cX3_fatten 35 = .ok (.getfield 20, 3) := by decide +kernel
theorem dX3_fatten_38 : decode cX3_fatten 38 = .ok (.getfield 87, 3) := by decide +kernel
theorem dX3_fatten_41 : decode cX3_fatten 41 = .ok (.iload_n 1, 1) := by decide +kernel
theorem dX3_fatten_42 : decode cX3_fatten 42 = .ok (.iload_n 2, 1) := by decide +kernel
theorem dX3_fatten_43 : decode cX3_fatten 43 = .ok (.iastore, 1) := by decide +kernel
theorem dX3_fatten_44 : decode cX3_fatten 44 = .ok (.iload_n 3, 1) := by decide +kernel
theorem dX3_fatten_45 : decode cX3_fatten 45 = .ok (.ireturn, 1) := by decide +kernel
theorem dX3_go_0 : decode cX3_go 0 = .ok (.aload_n 0, 1) := by decide +kernel
theorem dX3_go_1 : decode cX3_go 1 = .ok (.iload_n 1, 1) := by decide +kernel
theorem dX3_go_2 : decode cX3_go 2 = .ok (.invokevirtual 80, 3) := by decide +kernel
theorem dX3_go_5 : decode cX3_go 5 = .ok (.ifCond .eq 11, 3) := by decide +kernel
theorem dX3_go_8 : decode cX3_go 8 = .ok (.aload_n 0, 1) := by decide +kernel
theorem dX3_go_9 : decode cX3_go 9 = .ok (.iload_n 2, 1) := by decide +kernel
theorem dX3_go_10 : decode cX3_go 10 = .ok (.invokevirtual 112, 3) := by decide +kernel
theorem dX3_go_13 : decode cX3_go 13 = .ok (.ifCond .ne 5, 3) := by decide +kernel
theorem dX3_go_16 : decode cX3_go 16 = .ok (.iconst (-1), 1) := by decide +kernel
theorem dX3_go_17 : decode cX3_go 17 = .ok (.ireturn, 1) := by decide +kernel
theorem dX3_go_18 : decode cX3_go 18 = .ok (.aload_n 0, 1) := by decide +kernel
theorem dX3_go_19 : decode cX3_go 19 = .ok (.getfield 20, 3) := by decide +kernel
theorem dX3_go_22 : decode cX3_go 22 = .ok (.iload_n 1, 1) := by decide +kernel
theorem dX3_go_23 : decode cX3_go 23 = .ok (.iload_n 2, 1) := by decide +kernel
theorem dX3_go_24 : decode cX3_go 24 = .ok (.invokevirtual 115, 3) := by decide +kernel
theorem dX3_go_27 : decode cX3_go 27 = .ok (.ifCond .ne 6, 3) := by decide +kernel
theorem dX3_go_30 : decode cX3_go 30 = .ok (.bipush (-3), 2) := by decide +kernel
theorem dX3_go_32 : decode cX3_go 32 = .ok (.ireturn, 1) := by decide +kernel
theorem dX3_go_33 : decode cX3_go 33 = .ok (.aload_n 0, 1) := by decide +kernel
theorem dX3_go_34 : decode cX3_go 34 = .ok (.getfield 20, 3) := by decide +kernel
theorem dX3_go_37 : decode cX3_go 37 = .ok (.getfield 103, 3) := by decide +kernel
theorem dX3_go_40 : decode cX3_go 40 = .ok (.aload_n 0, 1) := by decide +kernel
theorem dX3_go_41 : decode cX3_go 41 = .ok (.getfield 20, 3) := by decide +kernel
theorem dX3_go_44 : decode cX3_go 44 = .ok (.aload_n 0, 1) := by decide +kernel
theorem dX3_go_45 : decode cX3_go 45 = .ok (.getfield 20, 3) := by decide +kernel
theorem dX3_go_48 : decode cX3_go 48 = .ok (.getfield 93, 3) := by decide +kernel
theorem dX3_go_51 : decode cX3_go 51 = .ok (.iload_n 1, 1) := by decide +kernel
theorem dX3_go_52 : decode cX3_go 52 = .ok (.iaload, 1) := by decide +kernel
theorem dX3_go_53 : decode cX3_go 53 = .ok (.iload_n 2, 1) := by decide +kernel
theorem dX3_go_54 : decode cX3_go 54 = .ok (.invokevirtual 99, 3) := by decide +kernel
theorem dX3_go_57 : decode cX3_go 57 = .ok (.iaload, 1) := by decide +kernel
theorem dX3_go_58 : decode cX3_go 58 = .ok (.aload_n 0, 1) := by decide +kernel
theorem dX3_go_59 : decode cX3_go 59 = .ok (.getfield 20, 3) := by decide +kernel
theorem dX3_go_62 : decode cX3_go 62 = .ok (.iload_n 1, 1) := by decide +kernel
theorem dX3_go_63 : decode cX3_go 63 = .ok (.invokevirtual 90, 3) := by decide +kernel
theorem dX3_go_66 : decode cX3_go 66 = .ok (.isub, 1) := by decide +kernel
theorem dX3_go_67 : decode cX3_go 67 = .ok (.istore_n 3, 1) := by decide +kernel
theorem dX3_go_68 : decode cX3_go 68 = .ok (.aload_n 0, 1) := by decide +kernel
theorem dX3_go_69 : decode cX3_go 69 = .ok (.getfield 20, 3) := by decide +kernel
theorem dX3_go_72 : decode cX3_go 72 = .ok (.iload_n 1, 1) := by decide +kernel
theorem dX3_go_73 : decode cX3_go 73 = .ok (.iload_n 2, 1) := by decide +kernel
theorem dX3_go_74 : decode cX3_go 74 = .ok (.invokevirtual 118, 3) := by decide +kernel
theorem dX3_go_77 : decode cX3_go 77 = .ok (.aload_n 0, 1) := by decide +kernel
theorem dX3_go_78 : decode cX3_go 78 = .ok (.dup, 1) := by decide +kernel
theorem dX3_go_79 : decode cX3_go 79 = .ok (.getfield 38, 3) := by decide +kernel
theorem dX3_go_82 : decode cX3_go 82 = .ok (.iconst 1, 1) := by decide +kernel
theorem dX3_go_83 : decode cX3_go 83 = .ok (.iadd, 1) := by decide +kernel
theorem dX3_go_84 : decode cX3_go 84 = .ok (.putfield 38, 3) := by decide +kernel
theorem dX3_go_87 : decode cX3_go 87 = .ok (.iload_n 3, 1) := by decide +kernel
theorem dX3_go_88 : decode cX3_go 88 = .ok (.ireturn, 1) := by decide +kernel
theorem dX3_years_0 : decode cX3_years 0 = .ok (.iload_n 1, 1) := by decide +kernel
theorem dX3_years_1 : decode cX3_years 1 = .ok (.iconst 1, 1) := by decide +kernel
theorem dX3_years_2 : decode cX3_years 2 = .ok (.if_icmp .lt 9, 3) := by decide +kernel
theorem dX3_years_5 : decode cX3_years 5 = .ok (.iload_n 1, 1) := by decide +kernel
theorem dX3_years_6 : decode cX3_years 6 = .ok (.bipush 60, 2) := by decide +kernel
theorem dX3_years_8 : decode cX3_years 8 = .ok (.if_icmp .le 6, 3) := by decide +kernel
theorem dX3_years_11 : decode cX3_years 11 = .ok (.bipush (-2), 2) := by decide +kernel
theorem dX3_years_13 : decode cX3_years 13 = .ok (.ireturn, 1) := by decide +kernel
theorem dX3_years_14 : decode cX3_years 14 = .ok (.aload_n 0, 1) := by decide +kernel
theorem dX3_years_15 : decode cX3_years 15 = .ok (.invokevirtual 122, 3) := by decide +kernel
theorem dX3_years_18 : decode cX3_years 18 = .ok (.ifCond .ne 6, 3) := by decide +kernel
theorem dX3_years_21 : decode cX3_years 21 = .ok (.bipush (-3), 2) := by decide +kernel
theorem dX3_years_23 : decode cX3_years 23 = .ok (.ireturn, 1) := by decide +kernel
theorem dX3_years_24 : decode cX3_years 24 = .ok (.aload_n 0, 1) := by decide +kernel
theorem dX3_years_25 : decode cX3_years 25 = .ok (.getfield 20, 3) := by decide +kernel
theorem dX3_years_28 : decode cX3_years 28 = .ok (.iload_n 1, 1) := by decide +kernel
theorem dX3_years_29 : decode cX3_years 29 = .ok (.invokevirtual 126, 3) := by decide +kernel
theorem dX3_years_32 : decode cX3_years 32 = .ok (.aload_n 0, 1) := by decide +kernel
theorem dX3_years_33 : decode cX3_years 33 = .ok (.dup, 1) := by decide +kernel
theorem dX3_years_34 : decode cX3_years 34 = .ok (.getfield 34, 3) := by decide +kernel
theorem dX3_years_37 : decode cX3_years 37 = .ok (.iload_n 1, 1) := by decide +kernel
theorem dX3_years_38 : decode cX3_years 38 = .ok (.iadd, 1) := by decide +kernel
theorem dX3_years_39 : decode cX3_years 39 = .ok (.putfield 34, 3) := by decide +kernel
theorem dX3_years_42 : decode cX3_years 42 = .ok (.aload_n 0, 1) := by decide +kernel
theorem dX3_years_43 : decode cX3_years 43 = .ok (.getfield 20, 3) := by decide +kernel
theorem dX3_years_46 : decode cX3_years 46 = .ok (.invokevirtual 130, 3) := by decide +kernel
theorem dX3_years_49 : decode cX3_years 49 = .ok (.ireturn, 1) := by decide +kernel
theorem dX3_stop_0 : decode cX3_stop 0 = .ok (.aload_n 0, 1) := by decide +kernel
theorem dX3_stop_1 : decode cX3_stop 1 = .ok (.iload_n 1, 1) := by decide +kernel
theorem dX3_stop_2 : decode cX3_stop 2 = .ok (.iload_n 2, 1) := by decide +kernel
theorem dX3_stop_3 : decode cX3_stop 3 = .ok (.invokevirtual 96, 3) := by decide +kernel
theorem dX3_stop_6 : decode cX3_stop 6 = .ok (.ifCond .ne 5, 3) := by decide +kernel
theorem dX3_stop_9 : decode cX3_stop 9 = .ok (.iconst (-1), 1) := by decide +kernel
theorem dX3_stop_10 : decode cX3_stop 10 = .ok (.ireturn, 1) := by decide +kernel
theorem dX3_stop_11 : decode cX3_stop 11 = .ok (.aload_n 0, 1) := by decide +kernel
theorem dX3_stop_12 : decode cX3_stop 12 = .ok (.getfield 20, 3) := by decide +kernel
theorem dX3_stop_15 : decode cX3_stop 15 = .ok (.iload_n 1, 1) := by decide +kernel
theorem dX3_stop_16 : decode cX3_stop 16 = .ok (.iload_n 2, 1) := by decide +kernel
theorem dX3_stop_17 : decode cX3_stop 17 = .ok (.invokevirtual 99, 3) := by decide +kernel
theorem dX3_stop_20 : decode cX3_stop 20 = .ok (.istore_n 3, 1) := by decide +kernel
theorem dX3_stop_21 : decode cX3_stop 21 = .ok (.aload_n 0, 1) := by decide +kernel
theorem dX3_stop_22 : decode cX3_stop 22 = .ok (.getfield 20, 3) := by decide +kernel
theorem dX3_stop_25 : decode cX3_stop 25 = .ok (.getfield 103, 3) := by decide +kernel
theorem dX3_stop_28 : decode cX3_stop 28 = .ok (.iload_n 3, 1) := by decide +kernel
theorem dX3_stop_29 : decode cX3_stop 29 = .ok (.iaload, 1) := by decide +kernel
theorem dX3_stop_30 : decode cX3_stop 30 = .ok (.istore 4, 2) := by decide +kernel
theorem dX3_stop_32 : decode cX3_stop 32 = .ok (.aload_n 0, 1) := by decide +kernel
theorem dX3_stop_33 : decode cX3_stop 33 = .ok (.getfield 20, 3) := by decide +kernel
theorem dX3_stop_36 : decode cX3_stop 36 = .ok (.iload_n 3, 1) := by decide +kernel
theorem dX3_stop_37 : decode cX3_stop 37 = .ok (.invokevirtual 134, 3) := by decide +kernel
theorem dX3_stop_40 : decode cX3_stop 40 = .ok (.ifCond .eq 8, 3) := by decide +kernel
theorem dX3_stop_43 : decode cX3_stop 43 = .ok (.iload 4, 2) := by decide +kernel
theorem dX3_stop_45 : decode cX3_stop 45 = .ok (.goto 5, 3) := by decide +kernel
theorem dX3_stop_48 : decode cX3_stop 48 = .ok (.bipush (-3), 2) := by decide +kernel
theorem dX3_stop_50 : decode cX3_stop 50 = .ok (.ireturn, 1) := by decide +kernel
theorem dX3_season_0 : decode cX3_season 0 = .ok (.aload_n 0, 1) := by decide +kernel
theorem dX3_season_1 : decode cX3_season 1 = .ok (.iconst 0, 1) := by decide +kernel
theorem dX3_season_2 : decode cX3_season 2 = .ok (.putfield 44, 3) := by decide +kernel
theorem dX3_season_5 : decode cX3_season 5 = .ok (.iload_n 1, 1) := by decide +kernel
theorem dX3_season_6 : decode cX3_season 6 = .ok (.invokestatic 48, 3) := by decide +kernel
theorem dX3_season_9 : decode cX3_season 9 = .ok (.ifCond .ne 5, 3) := by decide +kernel
theorem dX3_season_12 : decode cX3_season 12 = .ok (.iconst (-1), 1) := by decide +kernel
theorem dX3_season_13 : decode cX3_season 13 = .ok (.ireturn, 1) := by decide +kernel
theorem dX3_season_14 : decode cX3_season 14 = .ok (.iload_n 2, 1) := by decide +kernel
theorem dX3_season_15 : decode cX3_season 15 = .ok (.invokestatic 52, 3) := by decide +kernel
theorem dX3_season_18 : decode cX3_season 18 = .ok (.ifCond .eq 23, 3) := by decide +kernel
theorem dX3_season_21 : decode cX3_season 21 = .ok (.iload 4, 2) := by decide +kernel
theorem dX3_season_23 : decode cX3_season 23 = .ok (.ifCond .lt 18, 3) := by decide +kernel
theorem dX3_season_26 : decode cX3_season 26 = .ok (.iload 4, 2) := by decide +kernel
theorem dX3_season_28 : decode cX3_season 28 = .ok (.bipush 20, 2) := by decide +kernel
theorem dX3_season_30 : decode cX3_season 30 = .ok (.if_icmp .gt 11, 3) := by decide +kernel
theorem dX3_season_33 : decode cX3_season 33 = .ok (.iload 5, 2) := by decide +kernel
theorem dX3_season_35 : decode cX3_season 35 = .ok (.invokestatic 137, 3) := by decide +kernel
theorem dX3_season_38 : decode cX3_season 38 = .ok (.ifCond .ne 6, 3) := by decide +kernel
theorem dX3_season_41 : decode cX3_season 41 = .ok (.bipush (-2), 2) := by decide +kernel
theorem dX3_season_43 : decode cX3_season 43 = .ok (.ireturn, 1) := by decide +kernel
theorem dX3_season_44 : decode cX3_season 44 = .ok (.aload_n 0, 1) := by decide +kernel
theorem dX3_season_45 : decode cX3_season 45 = .ok (.getfield 13, 3) := by decide +kernel
theorem dX3_season_48 : decode cX3_season 48 = .ok (.iload_n 1, 1) := by decide +kernel
theorem dX3_season_49 : decode cX3_season 49 = .ok (.aaload, 1) := by decide +kernel
theorem dX3_season_50 : decode cX3_season 50 = .ok (.iload_n 2, 1) := by decide +kernel
theorem dX3_season_51 : decode cX3_season 51 = .ok (.invokevirtual 55, 3) := by decide +kernel
theorem dX3_season_54 : decode cX3_season 54 = .ok (.istore 6, 2) := by decide +kernel
theorem dX3_season_56 : decode cX3_season 56 = .ok (.iload 6, 2) := by decide +kernel
theorem dX3_season_58 : decode cX3_season 58 = .ok (.ifCond .ne 23, 3) := by decide +kernel
theorem dX3_season_61 : decode cX3_season 61 = .ok (.aload_n 0, 1) := by decide +kernel
theorem dX3_season_62 : decode cX3_season 62 = .ok (.getfield 13, 3) := by decide +kernel
theorem dX3_season_65 : decode cX3_season 65 = .ok (.iload_n 1, 1) := by decide +kernel
theorem dX3_season_66 : decode cX3_season 66 = .ok (.aaload, 1) := by decide +kernel
theorem dX3_season_67 : decode cX3_season 67 = .ok (.iload_n 3, 1) := by decide +kernel
theorem dX3_season_68 : decode cX3_season 68 = .ok (.iconst 2, 1) := by decide +kernel
theorem dX3_season_69 : decode cX3_season 69 = .ok (.iload 4, 2) := by decide +kernel
theorem dX3_season_71 : decode cX3_season 71 = .ok (.imul, 1) := by decide +kernel
theorem dX3_season_72 : decode cX3_season 72 = .ok (.invokevirtual 59, 3) := by decide +kernel
theorem dX3_season_75 : decode cX3_season 75 = .ok (.ifCond .ne 6, 3) := by decide +kernel
theorem dX3_season_78 : decode cX3_season 78 = .ok (.iconst 3, 1) := by decide +kernel
theorem dX3_season_79 : decode cX3_season 79 = .ok (.istore 6, 2) := by decide +kernel
theorem dX3_season_81 : decode cX3_season 81 = .ok (.iload 6, 2) := by decide +kernel
theorem dX3_season_83 : decode cX3_season 83 = .ok (.ifCond .eq 10, 3) := by decide +kernel
theorem dX3_season_86 : decode cX3_season 86 = .ok (.aload_n 0, 1) := by decide +kernel
theorem dX3_season_87 : decode cX3_season 87 = .ok (.iload 6, 2) := by decide +kernel
theorem dX3_season_89 : decode cX3_season 89 = .ok (.invokevirtual 63, 3) := by decide +kernel
theorem dX3_season_92 : decode cX3_season 92 = .ok (.ireturn, 1) := by decide +kernel
theorem dX3_season_93 : decode cX3_season 93 = .ok (.aload_n 0, 1) := by decide +kernel
theorem dX3_season_94 : decode cX3_season 94 = .ok (.invokevirtual 122, 3) := by decide +kernel
theorem dX3_season_97 : decode cX3_season 97 = .ok (.ifCond .ne 6, 3) := by decide +kernel
theorem dX3_season_100 : decode cX3_season 100 = .ok (.bipush (-3), 2) := by decide +kernel
theorem dX3_season_102 : decode cX3_season 102 = .ok (.ireturn, 1) := by decide +kernel
theorem dX3_season_103 : decode cX3_season 103 = .ok (.aload_n 0, 1) := by decide +kernel
theorem dX3_season_104 : decode cX3_season 104 = .ok (.aload_n 0, 1) := by decide +kernel
theorem dX3_season_105 : decode cX3_season 105 = .ok (.getfield 13, 3) := by decide +kernel
theorem dX3_season_108 : decode cX3_season 108 = .ok (.iload_n 1, 1) := by decide +kernel
theorem dX3_season_109 : decode cX3_season 109 = .ok (.aaload, 1) := by decide +kernel
theorem dX3_season_110 : decode cX3_season 110 = .ok (.iload_n 3, 1) := by decide +kernel
theorem dX3_season_111 : decode cX3_season 111 = .ok (.iload 4, 2) := by decide +kernel
theorem dX3_season_113 : decode cX3_season 113 = .ok (.invokevirtual 140, 3) := by decide +kernel
theorem dX3_season_116 : decode cX3_season 116 = .ok (.istore 7, 2) := by decide +kernel
theorem dX3_season_118 : decode cX3_season 118 = .ok (.iload 7, 2) := by decide +kernel
theorem dX3_season_120 : decode cX3_season 120 = .ok (.ifCond .eq 6, 3) := by decide +kernel
theorem dX3_season_123 : decode cX3_season 123 = .ok (.iload 7, 2) := by decide +kernel
theorem dX3_season_125 : decode cX3_season 125 = .ok (.ireturn, 1) := by decide +kernel
theorem dX3_season_126 : decode cX3_season 126 = .ok (.aload_n 0, 1) := by decide +kernel
theorem dX3_season_127 : decode cX3_season 127 = .ok (.aload_n 0, 1) := by decide +kernel
theorem dX3_season_128 : decode cX3_season 128 = .ok (.getfield 13, 3) := by decide +kernel
theorem dX3_season_131 : decode cX3_season 131 = .ok (.iload_n 1, 1) := by decide +kernel
theorem dX3_season_132 : decode cX3_season 132 = .ok (.aaload, 1) := by decide +kernel
theorem dX3_season_133 : decode cX3_season 133 = .ok (.iload_n 3, 1) := by decide +kernel
theorem dX3_season_134 : decode cX3_season 134 = .ok (.iload 4, 2) := by decide +kernel
theorem dX3_season_136 : decode cX3_season 136 = .ok (.invokevirtual 143, 3) := by decide +kernel
theorem dX3_season_139 : decode cX3_season 139 = .ok (.istore 8, 2) := by decide +kernel
theorem dX3_season_141 : decode cX3_season 141 = .ok (.iload 5, 2) := by decide +kernel
theorem dX3_season_143 : decode cX3_season 143 = .ok (.iconst 1, 1) := by decide +kernel
theorem dX3_season_144 : decode cX3_season 144 = .ok (.if_icmp .ne 6, 3) := by decide +kernel
theorem dX3_season_147 : decode cX3_season 147 = .ok (.iload 8, 2) := by decide +kernel
theorem dX3_season_149 : decode cX3_season 149 = .ok (.ireturn, 1) := by decide +kernel
theorem dX3_season_150 : decode cX3_season 150 = .ok (.iload 8, 2) := by decide +kernel
theorem dX3_season_152 : decode cX3_season 152 = .ok (.bipush (-9), 2) := by decide +kernel
theorem dX3_season_154 : decode cX3_season 154 = .ok (.if_icmp .eq 9, 3) := by decide +kernel
theorem dX3_season_157 : decode cX3_season 157 = .ok (.bipush (-100), 2) := by decide +kernel
theorem dX3_season_159 : decode cX3_season 159 = .ok (.iload 8, 2) := by decide +kernel
theorem dX3_season_161 : decode cX3_season 161 = .ok (.isub, 1) := by decide +kernel
theorem dX3_season_162 : decode cX3_season 162 = .ok (.ireturn, 1) := by decide +kernel
theorem dX3_season_163 : decode cX3_season 163 = .ok (.iload 5, 2) := by decide +kernel
theorem dX3_season_165 : decode cX3_season 165 = .ok (.iconst 3, 1) := by decide +kernel
theorem dX3_season_166 : decode cX3_season 166 = .ok (.if_icmp .ne 18, 3) := by decide +kernel
theorem dX3_season_169 : decode cX3_season 169 = .ok (.aload_n 0, 1) := by decide +kernel
theorem dX3_season_170 : decode cX3_season 170 = .ok (.getfield 13, 3) := by decide +kernel
theorem dX3_season_173 : decode cX3_season 173 = .ok (.iload_n 1, 1) := by decide +kernel
theorem dX3_season_174 : decode cX3_season 174 = .ok (.aaload, 1) := by decide +kernel
theorem dX3_season_175 : decode cX3_season 175 = .ok (.iload_n 3, 1) := by decide +kernel
theorem dX3_season_176 : decode cX3_season 176 = .ok (.iload 4, 2) := by decide +kernel
theorem dX3_season_178 : decode cX3_season 178 = .ok (.invokestatic 146, 3) := by decide +kernel
theorem dX3_season_181 : decode cX3_season 181 = .ok (.goto 9, 3) := by decide +kernel
theorem dX3_season_184 : decode cX3_season 184 = .ok (.aload_n 0, 1) := by decide +kernel
theorem dX3_season_185 : decode cX3_season 185 = .ok (.iload 5, 2) := by decide +kernel
theorem dX3_season_187 : decode cX3_season 187 = .ok (.invokevirtual 149, 3) := by decide +kernel
theorem dX3_season_190 : decode cX3_season 190 = .ok (.ireturn, 1) := by decide +kernel
theorem dX3_widest_0 : decode cX3_widest 0 = .ok (.aload_n 0, 1) := by decide +kernel
theorem dX3_widest_1 : decode cX3_widest 1 = .ok (.iload_n 1, 1) := by decide +kernel
theorem dX3_widest_2 : decode cX3_widest 2 = .ok (.iload_n 2, 1) := by decide +kernel
theorem dX3_widest_3 : decode cX3_widest 3 = .ok (.invokevirtual 96, 3) := by decide +kernel
theorem dX3_widest_6 : decode cX3_widest 6 = .ok (.ifCond .ne 5, 3) := by decide +kernel
theorem dX3_widest_9 : decode cX3_widest 9 = .ok (.iconst (-1), 1) := by decide +kernel
theorem dX3_widest_10 : decode cX3_widest 10 = .ok (.ireturn, 1) := by decide +kernel
theorem dX3_widest_11 : decode cX3_widest 11 = .ok (.bipush 9, 2) := by decide +kernel
theorem dX3_widest_13 : decode cX3_widest 13 = .ok (.istore_n 3, 1) := by decide +kernel
theorem dX3_widest_14 : decode cX3_widest 14 = .ok (.iload_n 3, 1) := by decide +kernel
theorem dX3_widest_15 : decode cX3_widest 15 = .ok (.ifCond .le 27, 3) := by decide +kernel
theorem dX3_widest_18 : decode cX3_widest 18 = .ok (.aload_n 0, 1) := by decide +kernel
theorem dX3_widest_19 : decode cX3_widest 19 = .ok (.getfield 20, 3) := by decide +kernel
theorem dX3_widest_22 : decode cX3_widest 22 = .ok (.iload_n 1, 1) := by decide +kernel
theorem dX3_widest_23 : decode cX3_widest 23 = .ok (.iload_n 3, 1) := by decide +kernel
theorem dX3_widest_24 : decode cX3_widest 24 = .ok (.invokevirtual 152, 3) := by decide +kernel
theorem dX3_widest_27 : decode cX3_widest 27 = .ok (.iload_n 2, 1) := by decide +kernel
theorem dX3_widest_28 : decode cX3_widest 28 = .ok (.invokestatic 109, 3) := by decide +kernel
theorem dX3_widest_31 : decode cX3_widest 31 = .ok (.ifCond .eq 5, 3) := by decide +kernel
theorem dX3_widest_34 : decode cX3_widest 34 = .ok (.iload_n 3, 1) := by decide +kernel
theorem dX3_widest_35 : decode cX3_widest 35 = .ok (.ireturn, 1) := by decide +kernel
theorem dX3_widest_36 : decode cX3_widest 36 = .ok (.iinc 3 (-1), 3) := by decide +kernel
theorem dX3_widest_39 : decode cX3_widest 39 = .ok (.goto (-25), 3) := by decide +kernel
theorem dX3_widest_42 : decode cX3_widest 42 = .ok (.iconst 0, 1) := by decide +kernel
theorem dX3_widest_43 : decode cX3_widest 43 = .ok (.ireturn, 1) := by decide +kernel
theorem dX3_way_0 : decode cX3_way 0 = .ok (.aload_n 0, 1) := by decide +kernel
theorem dX3_way_1 : decode cX3_way 1 = .ok (.iload_n 1, 1) := by decide +kernel
theorem dX3_way_2 : decode cX3_way 2 = .ok (.invokevirtual 80, 3) := by decide +kernel
theorem dX3_way_5 : decode cX3_way 5 = .ok (.ifCond .eq 11, 3) := by decide +kernel
theorem dX3_way_8 : decode cX3_way 8 = .ok (.aload_n 0, 1) := by decide +kernel
theorem dX3_way_9 : decode cX3_way 9 = .ok (.iload_n 2, 1) := by decide +kernel
theorem dX3_way_10 : decode cX3_way 10 = .ok (.invokevirtual 112, 3) := by decide +kernel
theorem dX3_way_13 : decode cX3_way 13 = .ok (.ifCond .ne 5, 3) := by decide +kernel
theorem dX3_way_16 : decode cX3_way 16 = .ok (.iconst (-1), 1) := by decide +kernel
theorem dX3_way_17 : decode cX3_way 17 = .ok (.ireturn, 1) := by decide +kernel
theorem dX3_way_18 : decode cX3_way 18 = .ok (.iload_n 3, 1) := by decide +kernel
theorem dX3_way_19 : decode cX3_way 19 = .ok (.iconst (-1), 1) := by decide +kernel
theorem dX3_way_20 : decode cX3_way 20 = .ok (.if_icmp .lt 8, 3) := by decide +kernel
theorem dX3_way_23 : decode cX3_way 23 = .ok (.iload_n 3, 1) := by decide +kernel
theorem dX3_way_24 : decode cX3_way 24 = .ok (.iconst 5, 1) := by decide +kernel
theorem dX3_way_25 : decode cX3_way 25 = .ok (.if_icmp .lt 6, 3) := by decide +kernel
theorem dX3_way_28 : decode cX3_way 28 = .ok (.bipush (-2), 2) := by decide +kernel
theorem dX3_way_30 : decode cX3_way 30 = .ok (.ireturn, 1) := by decide +kernel
theorem dX3_way_31 : decode cX3_way 31 = .ok (.aload_n 0, 1) := by decide +kernel
theorem dX3_way_32 : decode cX3_way 32 = .ok (.getfield 20, 3) := by decide +kernel
theorem dX3_way_35 : decode cX3_way 35 = .ok (.iload_n 2, 1) := by decide +kernel
theorem dX3_way_36 : decode cX3_way 36 = .ok (.aload_n 0, 1) := by decide +kernel
theorem dX3_way_37 : decode cX3_way 37 = .ok (.getfield 20, 3) := by decide +kernel
theorem dX3_way_40 : decode cX3_way 40 = .ok (.iload_n 1, 1) := by decide +kernel
theorem dX3_way_41 : decode cX3_way 41 = .ok (.invokevirtual 90, 3) := by decide +kernel
theorem dX3_way_44 : decode cX3_way 44 = .ok (.iconst 1, 1) := by decide +kernel
theorem dX3_way_45 : decode cX3_way 45 = .ok (.sipush 1000, 3) := by decide +kernel
theorem dX3_way_48 : decode cX3_way 48 = .ok (.invokevirtual 155, 3) := by decide +kernel
theorem dX3_way_51 : decode cX3_way 51 = .ok (.aload_n 0, 1) := by decide +kernel
theorem dX3_way_52 : decode cX3_way 52 = .ok (.getfield 20, 3) := by decide +kernel
theorem dX3_way_55 : decode cX3_way 55 = .ok (.getfield 159, 3) := by decide +kernel
theorem dX3_way_58 : decode cX3_way 58 = .ok (.aload_n 0, 1) := by decide +kernel
theorem dX3_way_59 : decode cX3_way 59 = .ok (.getfield 20, 3) := by decide +kernel
theorem dX3_way_62 : decode cX3_way 62 = .ok (.getfield 93, 3) := by decide +kernel
theorem dX3_way_65 : decode cX3_way 65 = .ok (.iload_n 1, 1) := by decide +kernel
theorem dX3_way_66 : decode cX3_way 66 = .ok (.iaload, 1) := by decide +kernel
theorem dX3_way_67 : decode cX3_way 67 = .ok (.iaload, 1) := by decide +kernel
theorem dX3_way_68 : decode cX3_way 68 = .ok (.istore 4, 2) := by decide +kernel
theorem dX3_way_70 : decode cX3_way 70 = .ok (.iload 4, 2) := by decide +kernel
theorem dX3_way_72 : decode cX3_way 72 = .ok (.sipush 1000, 3) := by decide +kernel
theorem dX3_way_75 : decode cX3_way 75 = .ok (.if_icmp .ge 9, 3) := by decide +kernel
theorem dX3_way_78 : decode cX3_way 78 = .ok (.iload_n 3, 1) := by decide +kernel
theorem dX3_way_79 : decode cX3_way 79 = .ok (.iload 4, 2) := by decide +kernel
theorem dX3_way_81 : decode cX3_way 81 = .ok (.if_icmp .le 6, 3) := by decide +kernel
theorem dX3_way_84 : decode cX3_way 84 = .ok (.bipush (-9), 2) := by decide +kernel
theorem dX3_way_86 : decode cX3_way 86 = .ok (.ireturn, 1) := by decide +kernel
theorem dX3_way_87 : decode cX3_way 87 = .ok (.iload_n 3, 1) := by decide +kernel
theorem dX3_way_88 : decode cX3_way 88 = .ok (.iconst (-1), 1) := by decide +kernel
theorem dX3_way_89 : decode cX3_way 89 = .ok (.if_icmp .ne 10, 3) := by decide +kernel
theorem dX3_way_92 : decode cX3_way 92 = .ok (.iload 4, 2) := by decide +kernel
theorem dX3_way_94 : decode cX3_way 94 = .ok (.iconst 1, 1) := by decide +kernel
theorem dX3_way_95 : decode cX3_way 95 = .ok (.iadd, 1) := by decide +kernel
theorem dX3_way_96 : decode cX3_way 96 = .ok (.goto 12, 3) := by decide +kernel
theorem dX3_way_99 : decode cX3_way 99 = .ok (.aload_n 0, 1) := by decide +kernel
theorem dX3_way_100 : decode cX3_way 100 = .ok (.getfield 20, 3) := by decide +kernel
theorem dX3_way_103 : decode cX3_way 103 = .ok (.iload_n 1, 1) := by decide +kernel
theorem dX3_way_104 : decode cX3_way 104 = .ok (.iload_n 3, 1) := by decide +kernel
theorem dX3_way_105 : decode cX3_way 105 = .ok (.invokevirtual 162, 3) := by decide +kernel
theorem dX3_way_108 : decode cX3_way 108 = .ok (.ireturn, 1) := by decide +kernel
theorem dX3_market_0 : decode cX3_market 0 = .ok (.iload_n 1, 1) := by decide +kernel
theorem dX3_market_1 : decode cX3_market 1 = .ok (.ifCond .lt 8, 3) := by decide +kernel
theorem dX3_market_4 : decode cX3_market 4 = .ok (.iload_n 1, 1) := by decide +kernel
theorem dX3_market_5 : decode cX3_market 5 = .ok (.iconst 1, 1) := by decide +kernel
theorem dX3_market_6 : decode cX3_market 6 = .ok (.if_icmp .le 6, 3) := by decide +kernel
theorem dX3_market_9 : decode cX3_market 9 = .ok (.bipush (-2), 2) := by decide +kernel
theorem dX3_market_11 : decode cX3_market 11 = .ok (.ireturn, 1) := by decide +kernel
theorem dX3_market_12 : decode cX3_market 12 = .ok (.aload_n 0, 1) := by decide +kernel
theorem dX3_market_13 : decode cX3_market 13 = .ok (.invokevirtual 122, 3) := by decide +kernel
theorem dX3_market_16 : decode cX3_market 16 = .ok (.ifCond .ne 6, 3) := by decide +kernel
theorem dX3_market_19 : decode cX3_market 19 = .ok (.bipush (-3), 2) := by decide +kernel
theorem dX3_market_21 : decode cX3_market 21 = .ok (.ireturn, 1) := by decide +kernel
theorem dX3_market_22 : decode cX3_market 22 = .ok (.iconst 0, 1) := by decide +kernel
theorem dX3_market_23 : decode cX3_market 23 = .ok (.istore_n 2, 1) := by decide +kernel
theorem dX3_market_24 : decode cX3_market 24 = .ok (.aload_n 0, 1) := by decide +kernel
theorem dX3_market_25 : decode cX3_market 25 = .ok (.getfield 20, 3) := by decide +kernel
theorem dX3_market_28 : decode cX3_market 28 = .ok (.iconst 0, 1) := by decide +kernel
theorem dX3_market_29 : decode cX3_market 29 = .ok (.invokevirtual 165, 3) := by decide +kernel
theorem dX3_market_32 : decode cX3_market 32 = .ok (.istore_n 3, 1) := by decide +kernel
theorem dX3_market_33 : decode cX3_market 33 = .ok (.iconst 1, 1) := by decide +kernel
theorem dX3_market_34 : decode cX3_market 34 = .ok (.istore 4, 2) := by decide +kernel
theorem dX3_market_36 : decode cX3_market 36 = .ok (.iload 4, 2) := by decide +kernel
theorem dX3_market_38 : decode cX3_market 38 = .ok (.aload_n 0, 1) := by decide +kernel
theorem dX3_market_39 : decode cX3_market 39 = .ok (.getfield 20, 3) := by decide +kernel
theorem dX3_market_42 : decode cX3_market 42 = .ok (.getfield 168, 3) := by decide +kernel
theorem dX3_market_45 : decode cX3_market 45 = .ok (.if_icmp .ge 38, 3) := by decide +kernel
theorem dX3_market_48 : decode cX3_market 48 = .ok (.aload_n 0, 1) := by decide +kernel
theorem dX3_market_49 : decode cX3_market 49 = .ok (.getfield 20, 3) := by decide +kernel
theorem dX3_market_52 : decode cX3_market 52 = .ok (.iload 4, 2) := by decide +kernel
theorem dX3_market_54 : decode cX3_market 54 = .ok (.invokevirtual 165, 3) := by decide +kernel
theorem dX3_market_57 : decode cX3_market 57 = .ok (.istore 5, 2) := by decide +kernel
theorem dX3_market_59 : decode cX3_market 59 = .ok (.iload 5, 2) := by decide +kernel
theorem dX3_market_61 : decode cX3_market 61 = .ok (.invokestatic 171, 3) := by decide +kernel
theorem dX3_market_64 : decode cX3_market 64 = .ok (.iload_n 3, 1) := by decide +kernel
theorem dX3_market_65 : decode cX3_market 65 = .ok (.invokestatic 171, 3) := by decide +kernel
theorem dX3_market_68 : decode cX3_market 68 = .ok (.if_icmp .le 9, 3) := by decide +kernel
theorem dX3_market_71 : decode cX3_market 71 = .ok (.iload 4, 2) := by decide +kernel
theorem dX3_market_73 : decode cX3_market 73 = .ok (.istore_n 2, 1) := by decide +kernel
theorem dX3_market_74 : decode cX3_market 74 = .ok (.iload 5, 2) := by decide +kernel
theorem dX3_market_76 : decode cX3_market 76 = .ok (.istore_n 3, 1) := by decide +kernel
theorem dX3_market_77 : decode cX3_market 77 = .ok (.iinc 4 1, 3) := by decide +kernel
theorem dX3_market_80 : decode cX3_market 80 = .ok (.goto (-44), 3) := by decide +kernel
theorem dX3_market_83 : decode cX3_market 83 = .ok (.iload_n 1, 1) := by decide +kernel
theorem dX3_market_84 : decode cX3_market 84 = .ok (.ifCond .ne 7, 3) := by decide +kernel
theorem dX3_market_87 : decode cX3_market 87 = .ok (.iload_n 2, 1) := by decide +kernel
theorem dX3_market_88 : decode cX3_market 88 = .ok (.goto 4, 3) := by decide +kernel
theorem dX3_market_91 : decode cX3_market 91 = .ok (.iload_n 3, 1) := by decide +kernel
theorem dX3_market_92 : decode cX3_market 92 = .ok (.ireturn, 1) := by decide +kernel
theorem dX3_widen_0 : decode cX3_widen 0 = .ok (.aload_n 0, 1) := by decide +kernel
theorem dX3_widen_1 : decode cX3_widen 1 = .ok (.iload_n 1, 1) := by decide +kernel
theorem dX3_widen_2 : decode cX3_widen 2 = .ok (.invokevirtual 80, 3) := by decide +kernel
theorem dX3_widen_5 : decode cX3_widen 5 = .ok (.ifCond .eq 11, 3) := by decide +kernel
theorem dX3_widen_8 : decode cX3_widen 8 = .ok (.aload_n 0, 1) := by decide +kernel
theorem dX3_widen_9 : decode cX3_widen 9 = .ok (.iload_n 2, 1) := by decide +kernel
theorem dX3_widen_10 : decode cX3_widen 10 = .ok (.invokevirtual 112, 3) := by decide +kernel
theorem dX3_widen_13 : decode cX3_widen 13 = .ok (.ifCond .ne 5, 3) := by decide +kernel
theorem dX3_widen_16 : decode cX3_widen 16 = .ok (.iconst (-1), 1) := by decide +kernel
theorem dX3_widen_17 : decode cX3_widen 17 = .ok (.ireturn, 1) := by decide +kernel
theorem dX3_widen_18 : decode cX3_widen 18 = .ok (.aload_n 0, 1) := by decide +kernel
theorem dX3_widen_19 : decode cX3_widen 19 = .ok (.getfield 20, 3) := by decide +kernel
theorem dX3_widen_22 : decode cX3_widen 22 = .ok (.iload_n 2, 1) := by decide +kernel
theorem dX3_widen_23 : decode cX3_widen 23 = .ok (.aload_n 0, 1) := by decide +kernel
theorem dX3_widen_24 : decode cX3_widen 24 = .ok (.getfield 20, 3) := by decide +kernel
theorem dX3_widen_27 : decode cX3_widen 27 = .ok (.iload_n 1, 1) := by decide +kernel
theorem dX3_widen_28 : decode cX3_widen 28 = .ok (.invokevirtual 90, 3) := by decide +kernel
theorem dX3_widen_31 : decode cX3_widen 31 = .ok (.iconst 0, 1) := by decide +kernel
theorem dX3_widen_32 : decode cX3_widen 32 = .ok (.iconst 1, 1) := by decide +kernel
theorem dX3_widen_33 : decode cX3_widen 33 = .ok (.invokevirtual 155, 3) := by decide +kernel
theorem dX3_widen_36 : decode cX3_widen 36 = .ok (.aload_n 0, 1) := by decide +kernel
theorem dX3_widen_37 : decode cX3_widen 37 = .ok (.getfield 20, 3) := by decide +kernel
theorem dX3_widen_40 : decode cX3_widen 40 = .ok (.getfield 159, 3) := by decide +kernel
theorem dX3_widen_43 : decode cX3_widen 43 = .ok (.aload_n 0, 1) := by decide +kernel
theorem dX3_widen_44 : decode cX3_widen 44 = .ok (.getfield 20, 3) := by decide +kernel
theorem dX3_widen_47 : decode cX3_widen 47 = .ok (.getfield 93, 3) := by decide +kernel
theorem dX3_widen_50 : decode cX3_widen 50 = .ok (.iload_n 1, 1) := by decide +kernel
theorem dX3_widen_51 : decode cX3_widen 51 = .ok (.iaload, 1) := by decide +kernel
theorem dX3_widen_52 : decode cX3_widen 52 = .ok (.iaload, 1) := by decide +kernel
theorem dX3_widen_53 : decode cX3_widen 53 = .ok (.istore_n 3, 1) := by decide +kernel
theorem dX3_widen_54 : decode cX3_widen 54 = .ok (.iload_n 3, 1) := by decide +kernel
theorem dX3_widen_55 : decode cX3_widen 55 = .ok (.sipush 1000, 3) := by decide +kernel
theorem dX3_widen_58 : decode cX3_widen 58 = .ok (.if_icmp .lt 8, 3) := by decide +kernel
theorem dX3_widen_61 : decode cX3_widen 61 = .ok (.bipush (-9), 2) := by decide +kernel
theorem dX3_widen_63 : decode cX3_widen 63 = .ok (.goto 4, 3) := by decide +kernel
theorem dX3_widen_66 : decode cX3_widen 66 = .ok (.iload_n 3, 1) := by decide +kernel
theorem dX3_widen_67 : decode cX3_widen 67 = .ok (.ireturn, 1) := by decide +kernel
theorem dX3_keep_0 : decode cX3_keep 0 = .ok (.aload_n 0, 1) := by decide +kernel
theorem dX3_keep_1 : decode cX3_keep 1 = .ok (.iload_n 1, 1) := by decide +kernel
theorem dX3_keep_2 : decode cX3_keep 2 = .ok (.invokevirtual 80, 3) := by decide +kernel
theorem dX3_keep_5 : decode cX3_keep 5 = .ok (.ifCond .eq 11, 3) := by decide +kernel
theorem dX3_keep_8 : decode cX3_keep 8 = .ok (.aload_n 0, 1) := by decide +kernel
theorem dX3_keep_9 : decode cX3_keep 9 = .ok (.iload_n 2, 1) := by decide +kernel
theorem dX3_keep_10 : decode cX3_keep 10 = .ok (.invokevirtual 112, 3) := by decide +kernel
theorem dX3_keep_13 : decode cX3_keep 13 = .ok (.ifCond .ne 5, 3) := by decide +kernel
theorem dX3_keep_16 : decode cX3_keep 16 = .ok (.iconst (-1), 1) := by decide +kernel
theorem dX3_keep_17 : decode cX3_keep 17 = .ok (.ireturn, 1) := by decide +kernel
theorem dX3_keep_18 : decode cX3_keep 18 = .ok (.aload_n 0, 1) := by decide +kernel
theorem dX3_keep_19 : decode cX3_keep 19 = .ok (.getfield 20, 3) := by decide +kernel
theorem dX3_keep_22 : decode cX3_keep 22 = .ok (.getfield 93, 3) := by decide +kernel
theorem dX3_keep_25 : decode cX3_keep 25 = .ok (.iload_n 1, 1) := by decide +kernel
theorem dX3_keep_26 : decode cX3_keep 26 = .ok (.iaload, 1) := by decide +kernel
theorem dX3_keep_27 : decode cX3_keep 27 = .ok (.iload_n 2, 1) := by decide +kernel
theorem dX3_keep_28 : decode cX3_keep 28 = .ok (.if_icmp .ne 8, 3) := by decide +kernel
theorem dX3_keep_31 : decode cX3_keep 31 = .ok (.bipush (-9), 2) := by decide +kernel
theorem dX3_keep_33 : decode cX3_keep 33 = .ok (.goto 12, 3) := by decide +kernel
theorem dX3_keep_36 : decode cX3_keep 36 = .ok (.aload_n 0, 1) := by decide +kernel
theorem dX3_keep_37 : decode cX3_keep 37 = .ok (.getfield 20, 3) := by decide +kernel
theorem dX3_keep_40 : decode cX3_keep 40 = .ok (.iload_n 1, 1) := by decide +kernel
theorem dX3_keep_41 : decode cX3_keep 41 = .ok (.iload_n 2, 1) := by decide +kernel
theorem dX3_keep_42 : decode cX3_keep 42 = .ok (.invokevirtual 176, 3) := by decide +kernel
theorem dX3_keep_45 : decode cX3_keep 45 = .ok (.ireturn, 1) := by decide +kernel
theorem dX3_reading_0 : decode cX3_reading 0 = .ok (.aload_n 0, 1) := by decide +kernel
theorem dX3_reading_1 : decode cX3_reading 1 = .ok (.iload_n 1, 1) := by decide +kernel
theorem dX3_reading_2 : decode cX3_reading 2 = .ok (.invokevirtual 80, 3) := by decide +kernel
theorem dX3_reading_5 : decode cX3_reading 5 = .ok (.ifCond .eq 12, 3) := by decide +kernel
theorem dX3_reading_8 : decode cX3_reading 8 = .ok (.aload_n 0, 1) := by decide +kernel
theorem dX3_reading_9 : decode cX3_reading 9 = .ok (.iload_n 2, 1) := by decide +kernel
theorem dX3_reading_10 : decode cX3_reading 10 = .ok (.iload_n 3, 1) := by decide +kernel
theorem dX3_reading_11 : decode cX3_reading 11 = .ok (.invokevirtual 96, 3) := by decide +kernel
theorem dX3_reading_14 : decode cX3_reading 14 = .ok (.ifCond .ne 5, 3) := by decide +kernel
theorem dX3_reading_17 : decode cX3_reading 17 = .ok (.iconst (-1), 1) := by decide +kernel
theorem dX3_reading_18 : decode cX3_reading 18 = .ok (.ireturn, 1) := by decide +kernel
theorem dX3_reading_19 : decode cX3_reading 19 = .ok (.iload 4, 2) := by decide +kernel
theorem dX3_reading_21 : decode cX3_reading 21 = .ok (.ifCond .lt 9, 3) := by decide +kernel
theorem dX3_reading_24 : decode cX3_reading 24 = .ok (.iload 4, 2) := by decide +kernel
theorem dX3_reading_26 : decode cX3_reading 26 = .ok (.iconst 1, 1) := by decide +kernel
theorem dX3_reading_27 : decode cX3_reading 27 = .ok (.if_icmp .le 6, 3) := by decide +kernel
theorem dX3_reading_30 : decode cX3_reading 30 = .ok (.bipush (-2), 2) := by decide +kernel
theorem dX3_reading_32 : decode cX3_reading 32 = .ok (.ireturn, 1) := by decide +kernel
theorem dX3_reading_33 : decode cX3_reading 33 = .ok (.aload_n 0, 1) := by decide +kernel
theorem dX3_reading_34 : decode cX3_reading 34 = .ok (.getfield 30, 3) := by decide +kernel
theorem dX3_reading_37 : decode cX3_reading 37 = .ok (.getfield 74, 3) := by decide +kernel
theorem dX3_reading_40 : decode cX3_reading 40 = .ok (.bipush 8, 2) := by decide +kernel
theorem dX3_reading_42 : decode cX3_reading 42 = .ok (.if_icmp .lt 6, 3) := by decide +kernel
theorem dX3_reading_45 : decode cX3_reading 45 = .ok (.bipush (-4), 2) := by decide +kernel
theorem dX3_reading_47 : decode cX3_reading 47 = .ok (.ireturn, 1) := by decide +kernel
theorem dX3_reading_48 : decode cX3_reading 48 = .ok (.aload_n 0, 1) := by decide +kernel
theorem dX3_reading_49 : decode cX3_reading 49 = .ok (.getfield 30, 3) := by decide +kernel
theorem dX3_reading_52 : decode cX3_reading 52 = .ok (.iload_n 1, 1) := by decide +kernel
theorem dX3_reading_53 : decode cX3_reading 53 = .ok (.aload_n 0, 1) := by decide +kernel
theorem dX3_reading_54 : decode cX3_reading 54 = .ok (.getfield 20, 3) := by decide +kernel
theorem dX3_reading_57 : decode cX3_reading 57 = .ok (.iload_n 2, 1) := by decide +kernel
theorem dX3_reading_58 : decode cX3_reading 58 = .ok (.iload_n 3, 1) := by decide +kernel
theorem dX3_reading_59 : decode cX3_reading 59 = .ok (.invokevirtual 99, 3) := by decide +kernel
theorem dX3_reading_62 : decode cX3_reading 62 = .ok (.iload 4, 2) := by decide +kernel
theorem dX3_reading_64 : decode cX3_reading 64 = .ok (.iconst 1, 1) := by decide +kernel
theorem dX3_reading_65 : decode cX3_reading 65 = .ok (.if_icmp .ne 7, 3) := by decide +kernel
theorem dX3_reading_68 : decode cX3_reading 68 = .ok (.iconst 1, 1) := by decide +kernel
theorem dX3_reading_69 : decode cX3_reading 69 = .ok (.goto 4, 3) := by decide +kernel
theorem dX3_reading_72 : decode cX3_reading 72 = .ok (.iconst 0, 1) := by decide +kernel
theorem dX3_reading_73 : decode cX3_reading 73 = .ok (.invokevirtual 179, 3) := by decide +kernel
theorem dX3_reading_76 : decode cX3_reading 76 = .ok (.aload_n 0, 1) := by decide +kernel
theorem dX3_reading_77 : decode cX3_reading 77 = .ok (.getfield 30, 3) := by decide +kernel
theorem dX3_reading_80 : decode cX3_reading 80 = .ok (.getfield 74, 3) := by decide +kernel
theorem dX3_reading_83 : decode cX3_reading 83 = .ok (.iconst 1, 1) := by decide +kernel
theorem dX3_reading_84 : decode cX3_reading 84 = .ok (.isub, 1) := by decide +kernel
theorem dX3_reading_85 : decode cX3_reading 85 = .ok (.ireturn, 1) := by decide +kernel
theorem dX3_back_0 : decode cX3_back 0 = .ok (.iload_n 1, 1) := by decide +kernel
theorem dX3_back_1 : decode cX3_back 1 = .ok (.ifCond .lt 14, 3) := by decide +kernel
theorem dX3_back_4 : decode cX3_back 4 = .ok (.iload_n 1, 1) := by decide +kernel
theorem dX3_back_5 : decode cX3_back 5 = .ok (.aload_n 0, 1) := by decide +kernel
theorem dX3_back_6 : decode cX3_back 6 = .ok (.getfield 30, 3) := by decide +kernel
theorem dX3_back_9 : decode cX3_back 9 = .ok (.getfield 74, 3) := by decide +kernel
theorem dX3_back_12 : decode cX3_back 12 = .ok (.if_icmp .le 6, 3) := by decide +kernel
theorem dX3_back_15 : decode cX3_back 15 = .ok (.bipush (-2), 2) := by decide +kernel
theorem dX3_back_17 : decode cX3_back 17 = .ok (.ireturn, 1) := by decide +kernel
theorem dX3_back_18 : decode cX3_back 18 = .ok (.aload_n 0, 1) := by decide +kernel
theorem dX3_back_19 : decode cX3_back 19 = .ok (.getfield 30, 3) := by decide +kernel
theorem dX3_back_22 : decode cX3_back 22 = .ok (.dup, 1) := by decide +kernel
theorem dX3_back_23 : decode cX3_back 23 = .ok (.getfield 74, 3) := by decide +kernel
theorem dX3_back_26 : decode cX3_back 26 = .ok (.iload_n 1, 1) := by decide +kernel
theorem dX3_back_27 : decode cX3_back 27 = .ok (.isub, 1) := by decide +kernel
theorem dX3_back_28 : decode cX3_back 28 = .ok (.putfield 74, 3) := by decide +kernel
theorem dX3_back_31 : decode cX3_back 31 = .ok (.aload_n 0, 1) := by decide +kernel
theorem dX3_back_32 : decode cX3_back 32 = .ok (.getfield 30, 3) := by decide +kernel
theorem dX3_back_35 : decode cX3_back 35 = .ok (.getfield 74, 3) := by decide +kernel
theorem dX3_back_38 : decode cX3_back 38 = .ok (.ireturn, 1) := by decide +kernel
theorem dX3_girths_0 : decode cX3_girths 0 = .ok (.aload_n 0, 1) := by decide +kernel
theorem dX3_girths_1 : decode cX3_girths 1 = .ok (.iload_n 1, 1) := by decide +kernel
theorem dX3_girths_2 : decode cX3_girths 2 = .ok (.invokevirtual 80, 3) := by decide +kernel
theorem dX3_girths_5 : decode cX3_girths 5 = .ok (.ifCond .ne 5, 3) := by decide +kernel
theorem dX3_girths_8 : decode cX3_girths 8 = .ok (.iconst (-1), 1) := by decide +kernel
theorem dX3_girths_9 : decode cX3_girths 9 = .ok (.ireturn, 1) := by decide +kernel
theorem dX3_girths_10 : decode cX3_girths 10 = .ok (.aload_n 0, 1) := by decide +kernel
theorem dX3_girths_11 : decode cX3_girths 11 = .ok (.getfield 24, 3) := by decide +kernel
theorem dX3_girths_14 : decode cX3_girths 14 = .ok (.aload_n 0, 1) := by decide +kernel
theorem dX3_girths_15 : decode cX3_girths 15 = .ok (.getfield 20, 3) := by decide +kernel
theorem dX3_girths_18 : decode cX3_girths 18 = .ok (.invokevirtual 70, 3) := by decide +kernel
theorem dX3_girths_21 : decode cX3_girths 21 = .ok (.iconst 0, 1) := by decide +kernel
theorem dX3_girths_22 : decode cX3_girths 22 = .ok (.istore_n 2, 1) := by decide +kernel
theorem dX3_girths_23 : decode cX3_girths 23 = .ok (.iconst 1, 1) := by decide +kernel
theorem dX3_girths_24 : decode cX3_girths 24 = .ok (.istore_n 3, 1) := by decide +kernel
theorem dX3_girths_25 : decode cX3_girths 25 = .ok (.iload_n 3, 1) := by decide +kernel
theorem dX3_girths_26 : decode cX3_girths 26 = .ok (.bipush 9, 2) := by decide +kernel
theorem dX3_girths_28 : decode cX3_girths 28 = .ok (.if_icmp .gt 43, 3) := by decide +kernel
theorem dX3_girths_31 : decode cX3_girths 31 = .ok (.aload_n 0, 1) := by decide +kernel
theorem dX3_girths_32 : decode cX3_girths 32 = .ok (.getfield 24, 3) := by decide +kernel
theorem dX3_girths_35 : decode cX3_girths 35 = .ok (.getfield 87, 3) := by decide +kernel
theorem dX3_girths_38 : decode cX3_girths 38 = .ok (.iload_n 1, 1) := by decide +kernel
theorem dX3_girths_39 : decode cX3_girths 39 = .ok (.iload_n 3, 1) := by decide +kernel
theorem dX3_girths_40 : decode cX3_girths 40 = .ok (.iastore, 1) := by decide +kernel
theorem dX3_girths_41 : decode cX3_girths 41 = .ok (.iload_n 2, 1) := by decide +kernel
theorem dX3_girths_42 : decode cX3_girths 42 = .ok (.aload_n 0, 1) := by decide +kernel
theorem dX3_girths_43 : decode cX3_girths 43 = .ok (.getfield 30, 3) := by decide +kernel
theorem dX3_girths_46 : decode cX3_girths 46 = .ok (.aload_n 0, 1) := by decide +kernel
theorem dX3_girths_47 : decode cX3_girths 47 = .ok (.getfield 24, 3) := by decide +kernel
theorem dX3_girths_50 : decode cX3_girths 50 = .ok (.invokevirtual 183, 3) := by decide +kernel
theorem dX3_girths_53 : decode cX3_girths 53 = .ok (.ifCond .eq 9, 3) := by decide +kernel
theorem dX3_girths_56 : decode cX3_girths 56 = .ok (.iconst 1, 1) := by decide +kernel
theorem dX3_girths_57 : decode cX3_girths 57 = .ok (.iload_n 3, 1) := by decide +kernel
theorem dX3_girths_58 : decode cX3_girths 58 = .ok (.ishl, 1) := by decide +kernel
theorem dX3_girths_59 : decode cX3_girths 59 = .ok (.goto 4, 3) := by decide +kernel
theorem dX3_girths_62 : decode cX3_girths 62 = .ok (.iconst 0, 1) := by decide +kernel
theorem dX3_girths_63 : decode cX3_girths 63 = .ok (.ior, 1) := by decide +kernel
theorem dX3_girths_64 : decode cX3_girths 64 = .ok (.istore_n 2, 1) := by decide +kernel
theorem dX3_girths_65 : decode cX3_girths 65 = .ok (.iinc 3 1, 3) := by decide +kernel
theorem dX3_girths_68 : decode cX3_girths 68 = .ok (.goto (-43), 3) := by decide +kernel
theorem dX3_girths_71 : decode cX3_girths 71 = .ok (.iload_n 2, 1) := by decide +kernel
theorem dX3_girths_72 : decode cX3_girths 72 = .ok (.ireturn, 1) := by decide +kernel
theorem dX3_kinds_0 : decode cX3_kinds 0 = .ok (.aload_n 0, 1) := by decide +kernel
theorem dX3_kinds_1 : decode cX3_kinds 1 = .ok (.iload_n 1, 1) := by decide +kernel
theorem dX3_kinds_2 : decode cX3_kinds 2 = .ok (.invokevirtual 80, 3) := by decide +kernel
theorem dX3_kinds_5 : decode cX3_kinds 5 = .ok (.ifCond .ne 5, 3) := by decide +kernel
theorem dX3_kinds_8 : decode cX3_kinds 8 = .ok (.iconst (-1), 1) := by decide +kernel
theorem dX3_kinds_9 : decode cX3_kinds 9 = .ok (.ireturn, 1) := by decide +kernel
theorem dX3_kinds_10 : decode cX3_kinds 10 = .ok (.aload_n 0, 1) := by decide +kernel
theorem dX3_kinds_11 : decode cX3_kinds 11 = .ok (.getfield 24, 3) := by decide +kernel
theorem dX3_kinds_14 : decode cX3_kinds 14 = .ok (.aload_n 0, 1) := by decide +kernel
theorem dX3_kinds_15 : decode cX3_kinds 15 = .ok (.getfield 20, 3) := by decide +kernel
theorem dX3_kinds_18 : decode cX3_kinds 18 = .ok (.invokevirtual 70, 3) := by decide +kernel
theorem dX3_kinds_21 : decode cX3_kinds 21 = .ok (.iconst 0, 1) := by decide +kernel
theorem dX3_kinds_22 : decode cX3_kinds 22 = .ok (.istore_n 2, 1) := by decide +kernel
theorem dX3_kinds_23 : decode cX3_kinds 23 = .ok (.iconst 0, 1) := by decide +kernel
theorem dX3_kinds_24 : decode cX3_kinds 24 = .ok (.istore_n 3, 1) := by decide +kernel
theorem dX3_kinds_25 : decode cX3_kinds 25 = .ok (.iload_n 3, 1) := by decide +kernel
theorem dX3_kinds_26 : decode cX3_kinds 26 = .ok (.iconst 2, 1) := by decide +kernel
theorem dX3_kinds_27 : decode cX3_kinds 27 = .ok (.if_icmp .gt 43, 3) := by decide +kernel
theorem dX3_kinds_30 : decode cX3_kinds 30 = .ok (.aload_n 0, 1) := by decide +kernel
theorem dX3_kinds_31 : decode cX3_kinds 31 = .ok (.getfield 24, 3) := by decide +kernel
theorem dX3_kinds_34 : decode cX3_kinds 34 = .ok (.getfield 83, 3) := by decide +kernel
theorem dX3_kinds_37 : decode cX3_kinds 37 = .ok (.iload_n 1, 1) := by decide +kernel
theorem dX3_kinds_38 : decode cX3_kinds 38 = .ok (.iload_n 3, 1) := by decide +kernel
theorem dX3_kinds_39 : decode cX3_kinds 39 = .ok (.iastore, 1) := by decide +kernel
theorem dX3_kinds_40 : decode cX3_kinds 40 = .ok (.iload_n 2, 1) := by decide +kernel
theorem dX3_kinds_41 : decode cX3_kinds 41 = .ok (.aload_n 0, 1) := by decide +kernel
theorem dX3_kinds_42 : decode cX3_kinds 42 = .ok (.getfield 30, 3) := by decide +kernel
theorem dX3_kinds_45 : decode cX3_kinds 45 = .ok (.aload_n 0, 1) := by decide +kernel
theorem dX3_kinds_46 : decode cX3_kinds 46 = .ok (.getfield 24, 3) := by decide +kernel
theorem dX3_kinds_49 : decode cX3_kinds 49 = .ok (.invokevirtual 183, 3) := by decide +kernel
theorem dX3_kinds_52 : decode cX3_kinds 52 = .ok (.ifCond .eq 9, 3) := by decide +kernel
theorem dX3_kinds_55 : decode cX3_kinds 55 = .ok (.iconst 1, 1) := by decide +kernel
theorem dX3_kinds_56 : decode cX3_kinds 56 = .ok (.iload_n 3, 1) := by decide +kernel
theorem dX3_kinds_57 : decode cX3_kinds 57 = .ok (.ishl, 1) := by decide +kernel
theorem dX3_kinds_58 : decode cX3_kinds 58 = .ok (.goto 4, 3) := by decide +kernel
theorem dX3_kinds_61 : decode cX3_kinds 61 = .ok (.iconst 0, 1) := by decide +kernel
theorem dX3_kinds_62 : decode cX3_kinds 62 = .ok (.ior, 1) := by decide +kernel
theorem dX3_kinds_63 : decode cX3_kinds 63 = .ok (.istore_n 2, 1) := by decide +kernel
theorem dX3_kinds_64 : decode cX3_kinds 64 = .ok (.iinc 3 1, 3) := by decide +kernel
theorem dX3_kinds_67 : decode cX3_kinds 67 = .ok (.goto (-42), 3) := by decide +kernel
theorem dX3_kinds_70 : decode cX3_kinds 70 = .ok (.iload_n 2, 1) := by decide +kernel
theorem dX3_kinds_71 : decode cX3_kinds 71 = .ok (.ireturn, 1) := by decide +kernel
theorem dX3_holes_0 : decode cX3_holes 0 = .ok (.aload_n 0, 1) := by decide +kernel
theorem dX3_holes_1 : decode cX3_holes 1 = .ok (.iload_n 1, 1) := by decide +kernel
theorem dX3_holes_2 : decode cX3_holes 2 = .ok (.iload_n 2, 1) := by decide +kernel
theorem dX3_holes_3 : decode cX3_holes 3 = .ok (.invokevirtual 96, 3) := by decide +kernel
theorem dX3_holes_6 : decode cX3_holes 6 = .ok (.ifCond .ne 5, 3) := by decide +kernel
theorem dX3_holes_9 : decode cX3_holes 9 = .ok (.iconst (-1), 1) := by decide +kernel
theorem dX3_holes_10 : decode cX3_holes 10 = .ok (.ireturn, 1) := by decide +kernel
theorem dX3_holes_11 : decode cX3_holes 11 = .ok (.aload_n 0, 1) := by decide +kernel
theorem dX3_holes_12 : decode cX3_holes 12 = .ok (.getfield 24, 3) := by decide +kernel
theorem dX3_holes_15 : decode cX3_holes 15 = .ok (.aload_n 0, 1) := by decide +kernel
theorem dX3_holes_16 : decode cX3_holes 16 = .ok (.getfield 20, 3) := by decide +kernel
theorem dX3_holes_19 : decode cX3_holes 19 = .ok (.invokevirtual 70, 3) := by decide +kernel
theorem dX3_holes_22 : decode cX3_holes 22 = .ok (.aload_n 0, 1) := by decide +kernel
theorem dX3_holes_23 : decode cX3_holes 23 = .ok (.getfield 20, 3) := by decide +kernel
theorem dX3_holes_26 : decode cX3_holes 26 = .ok (.iload_n 1, 1) := by decide +kernel
theorem dX3_holes_27 : decode cX3_holes 27 = .ok (.iload_n 2, 1) := by decide +kernel
theorem dX3_holes_28 : decode cX3_holes 28 = .ok (.invokevirtual 99, 3) := by decide +kernel
theorem dX3_holes_31 : decode cX3_holes 31 = .ok (.istore_n 3, 1) := by decide +kernel
theorem dX3_holes_32 : decode cX3_holes 32 = .ok (.iconst 0, 1) := by decide +kernel
theorem dX3_holes_33 : decode cX3_holes 33 = .ok (.istore 4, 2) := by decide +kernel
theorem dX3_holes_35 : decode cX3_holes 35 = .ok (.iconst 0, 1) := by decide +kernel
theorem dX3_holes_36 : decode cX3_holes 36 = .ok (.istore 5, 2) := by decide +kernel
theorem dX3_holes_38 : decode cX3_holes 38 = .ok (.iload 5, 2) := by decide +kernel
theorem dX3_holes_40 : decode cX3_holes 40 = .ok (.bipush 9, 2) := by decide +kernel
theorem dX3_holes_42 : decode cX3_holes 42 = .ok (.if_icmp .gt 47, 3) := by decide +kernel
theorem dX3_holes_45 : decode cX3_holes 45 = .ok (.aload_n 0, 1) := by decide +kernel
theorem dX3_holes_46 : decode cX3_holes 46 = .ok (.getfield 24, 3) := by decide +kernel
theorem dX3_holes_49 : decode cX3_holes 49 = .ok (.getfield 103, 3) := by decide +kernel
theorem dX3_holes_52 : decode cX3_holes 52 = .ok (.iload_n 3, 1) := by decide +kernel
theorem dX3_holes_53 : decode cX3_holes 53 = .ok (.iload 5, 2) := by decide +kernel
theorem dX3_holes_55 : decode cX3_holes 55 = .ok (.iastore, 1) := by decide +kernel
theorem dX3_holes_56 : decode cX3_holes 56 = .ok (.iload 4, 2) := by decide +kernel
theorem dX3_holes_58 : decode cX3_holes 58 = .ok (.aload_n 0, 1) := by decide +kernel
theorem dX3_holes_59 : decode cX3_holes 59 = .ok (.getfield 30, 3) := by decide +kernel
theorem dX3_holes_62 : decode cX3_holes 62 = .ok (.aload_n 0, 1) := by decide +kernel
theorem dX3_holes_63 : decode cX3_holes 63 = .ok (.getfield 24, 3) := by decide +kernel
theorem dX3_holes_66 : decode cX3_holes 66 = .ok (.invokevirtual 183, 3) := by decide +kernel
theorem dX3_holes_69 : decode cX3_holes 69 = .ok (.ifCond .eq 10, 3) := by decide +kernel
theorem dX3_holes_72 : decode cX3_holes 72 = .ok (.iconst 1, 1) := by decide +kernel
theorem dX3_holes_73 : decode cX3_holes 73 = .ok (.iload 5, 2) := by decide +kernel
theorem dX3_holes_75 : decode cX3_holes 75 = .ok (.ishl, 1) := by decide +kernel
theorem dX3_holes_76 : decode cX3_holes 76 = .ok (.goto 4, 3) := by decide +kernel
theorem dX3_holes_79 : decode cX3_holes 79 = .ok (.iconst 0, 1) := by decide +kernel
theorem dX3_holes_80 : decode cX3_holes 80 = .ok (.ior, 1) := by decide +kernel
theorem dX3_holes_81 : decode cX3_holes 81 = .ok (.istore 4, 2) := by decide +kernel
theorem dX3_holes_83 : decode cX3_holes 83 = .ok (.iinc 5 1, 3) := by decide +kernel
theorem dX3_holes_86 : decode cX3_holes 86 = .ok (.goto (-48), 3) := by decide +kernel
theorem dX3_holes_89 : decode cX3_holes 89 = .ok (.iload 4, 2) := by decide +kernel
theorem dX3_holes_91 : decode cX3_holes 91 = .ok (.ireturn, 1) := by decide +kernel
theorem dX3_odds_0 : decode cX3_odds 0 = .ok (.aload_n 0, 1) := by decide +kernel
theorem dX3_odds_1 : decode cX3_odds 1 = .ok (.iload_n 1, 1) := by decide +kernel
theorem dX3_odds_2 : decode cX3_odds 2 = .ok (.invokevirtual 80, 3) := by decide +kernel
theorem dX3_odds_5 : decode cX3_odds 5 = .ok (.ifCond .eq 20, 3) := by decide +kernel
theorem dX3_odds_8 : decode cX3_odds 8 = .ok (.aload_n 0, 1) := by decide +kernel
theorem dX3_odds_9 : decode cX3_odds 9 = .ok (.iload_n 2, 1) := by decide +kernel
theorem dX3_odds_10 : decode cX3_odds 10 = .ok (.invokevirtual 112, 3) := by decide +kernel
theorem dX3_odds_13 : decode cX3_odds 13 = .ok (.ifCond .eq 12, 3) := by decide +kernel
theorem dX3_odds_16 : decode cX3_odds 16 = .ok (.iload_n 3, 1) := by decide +kernel
theorem dX3_odds_17 : decode cX3_odds 17 = .ok (.ifCond .lt 8, 3) := by decide +kernel
theorem dX3_odds_20 : decode cX3_odds 20 = .ok (.iload_n 3, 1) := by decide +kernel
theorem dX3_odds_21 : decode cX3_odds 21 = .ok (.iconst 1, 1) := by decide +kernel
theorem dX3_odds_22 : decode cX3_odds 22 = .ok (.if_icmp .le 7, 3) := by decide +kernel
theorem dX3_odds_25 : decode cX3_odds 25 = .ok (.ldc2_w 187, 3) := by decide +kernel
theorem dX3_odds_28 : decode cX3_odds 28 = .ok (.lreturn, 1) := by decide +kernel
theorem dX3_odds_29 : decode cX3_odds 29 = .ok (.iconst 0, 1) := by decide +kernel
theorem dX3_odds_30 : decode cX3_odds 30 = .ok (.istore 4, 2) := by decide +kernel
theorem dX3_odds_32 : decode cX3_odds 32 = .ok (.iconst 1, 1) := by decide +kernel
theorem dX3_odds_33 : decode cX3_odds 33 = .ok (.istore 5, 2) := by decide +kernel
theorem dX3_odds_35 : decode cX3_odds 35 = .ok (.iload 5, 2) := by decide +kernel
theorem dX3_odds_37 : decode cX3_odds 37 = .ok (.bipush 9, 2) := by decide +kernel
theorem dX3_odds_39 : decode cX3_odds 39 = .ok (.if_icmp .gt 60, 3) := by decide +kernel
theorem dX3_odds_42 : decode cX3_odds 42 = .ok (.aload_n 0, 1) := by decide +kernel
theorem dX3_odds_43 : decode cX3_odds 43 = .ok (.getfield 20, 3) := by decide +kernel
theorem dX3_odds_46 : decode cX3_odds 46 = .ok (.aload_n 0, 1) := by decide +kernel
theorem dX3_odds_47 : decode cX3_odds 47 = .ok (.getfield 20, 3) := by decide +kernel
theorem dX3_odds_50 : decode cX3_odds 50 = .ok (.getfield 93, 3) := by decide +kernel
theorem dX3_odds_53 : decode cX3_odds 53 = .ok (.iload_n 1, 1) := by decide +kernel
theorem dX3_odds_54 : decode cX3_odds 54 = .ok (.iaload, 1) := by decide +kernel
theorem dX3_odds_55 : decode cX3_odds 55 = .ok (.aload_n 0, 1) := by decide +kernel
theorem dX3_odds_56 : decode cX3_odds 56 = .ok (.getfield 20, 3) := by decide +kernel
theorem dX3_odds_59 : decode cX3_odds 59 = .ok (.getfield 83, 3) := by decide +kernel
theorem dX3_odds_62 : decode cX3_odds 62 = .ok (.iload_n 1, 1) := by decide +kernel
theorem dX3_odds_63 : decode cX3_odds 63 = .ok (.iaload, 1) := by decide +kernel
theorem dX3_odds_64 : decode cX3_odds 64 = .ok (.iload 5, 2) := by decide +kernel
theorem dX3_odds_66 : decode cX3_odds 66 = .ok (.invokestatic 189, 3) := by decide +kernel
theorem dX3_odds_69 : decode cX3_odds 69 = .ok (.invokevirtual 152, 3) := by decide +kernel
theorem dX3_odds_72 : decode cX3_odds 72 = .ok (.istore 6, 2) := by decide +kernel
theorem dX3_odds_74 : decode cX3_odds 74 = .ok (.iload 4, 2) := by decide +kernel
theorem dX3_odds_76 : decode cX3_odds 76 = .ok (.iload 6, 2) := by decide +kernel
theorem dX3_odds_78 : decode cX3_odds 78 = .ok (.iload_n 2, 1) := by decide +kernel
theorem dX3_odds_79 : decode cX3_odds 79 = .ok (.invokestatic 109, 3) := by decide +kernel
theorem dX3_odds_82 : decode cX3_odds 82 = .ok (.ifCond .eq 7, 3) := by decide +kernel
theorem dX3_odds_85 : decode cX3_odds 85 = .ok (.iconst 1, 1) := by decide +kernel
theorem dX3_odds_86 : decode cX3_odds 86 = .ok (.goto 4, 3) := by decide +kernel
theorem dX3_odds_89 : decode cX3_odds 89 = .ok (.iconst 0, 1) := by decide +kernel
theorem dX3_odds_90 : decode cX3_odds 90 = .ok (.iadd, 1) := by decide +kernel
theorem dX3_odds_91 : decode cX3_odds 91 = .ok (.istore 4, 2) := by decide +kernel
theorem dX3_odds_93 : decode cX3_odds 93 = .ok (.iinc 5 1, 3) := by decide +kernel
theorem dX3_odds_96 : decode cX3_odds 96 = .ok (.goto (-61), 3) := by decide +kernel
theorem dX3_odds_99 : decode cX3_odds 99 = .ok (.iload 4, 2) := by decide +kernel
theorem dX3_odds_101 : decode cX3_odds 101 = .ok (.bipush 9, 2) := by decide +kernel
theorem dX3_odds_103 : decode cX3_odds 103 = .ok (.invokestatic 192, 3) := by decide +kernel
theorem dX3_odds_106 : decode cX3_odds 106 = .ok (.istore 5, 2) := by decide +kernel
theorem dX3_odds_108 : decode cX3_odds 108 = .ok (.iload_n 3, 1) := by decide +kernel
theorem dX3_odds_109 : decode cX3_odds 109 = .ok (.ifCond .ne 12, 3) := by decide +kernel
theorem dX3_odds_112 : decode cX3_odds 112 = .ok (.iload 4, 2) := by decide +kernel
theorem dX3_odds_114 : decode cX3_odds 114 = .ok (.iload 5, 2) := by decide +kernel
theorem dX3_odds_116 : decode cX3_odds 116 = .ok (.idiv, 1) := by decide +kernel
theorem dX3_odds_117 : decode cX3_odds 117 = .ok (.i2l, 1) := by decide +kernel
theorem dX3_odds_118 : decode cX3_odds 118 = .ok (.goto 9, 3) := by decide +kernel
theorem dX3_odds_121 : decode cX3_odds 121 = .ok (.bipush 9, 2) := by decide +kernel
theorem dX3_odds_123 : decode cX3_odds 123 = .ok (.iload 5, 2) := by decide +kernel
theorem dX3_odds_125 : decode cX3_odds 125 = .ok (.idiv, 1) := by decide +kernel
theorem dX3_odds_126 : decode cX3_odds 126 = .ok (.i2l, 1) := by decide +kernel
theorem dX3_odds_127 : decode cX3_odds 127 = .ok (.lreturn, 1) := by decide +kernel
theorem dX3_sheet_0 : decode cX3_sheet 0 = .ok (.aload_n 0, 1) := by decide +kernel
theorem dX3_sheet_1 : decode cX3_sheet 1 = .ok (.iconst 0, 1) := by decide +kernel
theorem dX3_sheet_2 : decode cX3_sheet 2 = .ok (.putfield 44, 3) := by decide +kernel
theorem dX3_sheet_5 : decode cX3_sheet 5 = .ok (.iload_n 1, 1) := by decide +kernel
theorem dX3_sheet_6 : decode cX3_sheet 6 = .ok (.invokestatic 48, 3) := by decide +kernel
theorem dX3_sheet_9 : decode cX3_sheet 9 = .ok (.ifCond .ne 5, 3) := by decide +kernel
theorem dX3_sheet_12 : decode cX3_sheet 12 = .ok (.iconst (-1), 1) := by decide +kernel
theorem dX3_sheet_13 : decode cX3_sheet 13 = .ok (.ireturn, 1) := by decide +kernel
theorem dX3_sheet_14 : decode cX3_sheet 14 = .ok (.iload_n 2, 1) := by decide +kernel
theorem dX3_sheet_15 : decode cX3_sheet 15 = .ok (.invokestatic 52, 3) := by decide +kernel
theorem dX3_sheet_18 : decode cX3_sheet 18 = .ok (.ifCond .eq 9, 3) := by decide +kernel
theorem dX3_sheet_21 : decode cX3_sheet 21 = .ok (.iload_n 3, 1) := by decide +kernel
theorem dX3_sheet_22 : decode cX3_sheet 22 = .ok (.bipush 60, 2) := by decide +kernel
theorem dX3_sheet_24 : decode cX3_sheet 24 = .ok (.if_icmp .le 6, 3) := by decide +kernel
theorem dX3_sheet_27 : decode cX3_sheet 27 = .ok (.bipush (-2), 2) := by decide +kernel
theorem dX3_sheet_29 : decode cX3_sheet 29 = .ok (.ireturn, 1) := by decide +kernel
theorem dX3_sheet_30 : decode cX3_sheet 30 = .ok (.iload_n 3, 1) := by decide +kernel
theorem dX3_sheet_31 : decode cX3_sheet 31 = .ok (.ifCond .ge 9, 3) := by decide +kernel
theorem dX3_sheet_34 : decode cX3_sheet 34 = .ok (.aload_n 0, 1) := by decide +kernel
theorem dX3_sheet_35 : decode cX3_sheet 35 = .ok (.iconst 4, 1) := by decide +kernel
theorem dX3_sheet_36 : decode cX3_sheet 36 = .ok (.invokevirtual 63, 3) := by decide +kernel
theorem dX3_sheet_39 : decode cX3_sheet 39 = .ok (.ireturn, 1) := by decide +kernel
theorem dX3_sheet_40 : decode cX3_sheet 40 = .ok (.aload_n 0, 1) := by decide +kernel
theorem dX3_sheet_41 : decode cX3_sheet 41 = .ok (.getfield 13, 3) := by decide +kernel
theorem dX3_sheet_44 : decode cX3_sheet 44 = .ok (.iload_n 1, 1) := by decide +kernel
theorem dX3_sheet_45 : decode cX3_sheet 45 = .ok (.aaload, 1) := by decide +kernel
theorem dX3_sheet_46 : decode cX3_sheet 46 = .ok (.iload_n 2, 1) := by decide +kernel
theorem dX3_sheet_47 : decode cX3_sheet 47 = .ok (.iload_n 3, 1) := by decide +kernel
theorem dX3_sheet_48 : decode cX3_sheet 48 = .ok (.invokevirtual 195, 3) := by decide +kernel
theorem dX3_sheet_51 : decode cX3_sheet 51 = .ok (.iconst 1, 1) := by decide +kernel
theorem dX3_sheet_52 : decode cX3_sheet 52 = .ok (.ireturn, 1) := by decide +kernel
theorem dX3_lose_0 : decode cX3_lose 0 = .ok (.iload_n 1, 1) := by decide +kernel
theorem dX3_lose_1 : decode cX3_lose 1 = .ok (.invokestatic 48, 3) := by decide +kernel
theorem dX3_lose_4 : decode cX3_lose 4 = .ok (.ifCond .ne 5, 3) := by decide +kernel
theorem dX3_lose_7 : decode cX3_lose 7 = .ok (.iconst (-1), 1) := by decide +kernel
theorem dX3_lose_8 : decode cX3_lose 8 = .ok (.ireturn, 1) := by decide +kernel
theorem dX3_lose_9 : decode cX3_lose 9 = .ok (.aload_n 0, 1) := by decide +kernel
theorem dX3_lose_10 : decode cX3_lose 10 = .ok (.getfield 13, 3) := by decide +kernel
theorem dX3_lose_13 : decode cX3_lose 13 = .ok (.iload_n 1, 1) := by decide +kernel
theorem dX3_lose_14 : decode cX3_lose 14 = .ok (.aaload, 1) := by decide +kernel
theorem dX3_lose_15 : decode cX3_lose 15 = .ok (.getfield 198, 3) := by decide +kernel
theorem dX3_lose_18 : decode cX3_lose 18 = .ok (.ifCond .eq 7, 3) := by decide +kernel
theorem dX3_lose_21 : decode cX3_lose 21 = .ok (.iconst 1, 1) := by decide +kernel
theorem dX3_lose_22 : decode cX3_lose 22 = .ok (.goto 4, 3) := by decide +kernel
theorem dX3_lose_25 : decode cX3_lose 25 = .ok (.iconst 0, 1) := by decide +kernel
theorem dX3_lose_26 : decode cX3_lose 26 = .ok (.istore_n 2, 1) := by decide +kernel
theorem dX3_lose_27 : decode cX3_lose 27 = .ok (.aload_n 0, 1) := by decide +kernel
theorem dX3_lose_28 : decode cX3_lose 28 = .ok (.getfield 13, 3) := by decide +kernel
theorem dX3_lose_31 : decode cX3_lose 31 = .ok (.iload_n 1, 1) := by decide +kernel
theorem dX3_lose_32 : decode cX3_lose 32 = .ok (.aaload, 1) := by decide +kernel
theorem dX3_lose_33 : decode cX3_lose 33 = .ok (.iconst 0, 1) := by decide +kernel
theorem dX3_lose_34 : decode cX3_lose 34 = .ok (.putfield 198, 3) := by decide +kernel
theorem dX3_lose_37 : decode cX3_lose 37 = .ok (.iload_n 2, 1) := by decide +kernel
theorem dX3_lose_38 : decode cX3_lose 38 = .ok (.ireturn, 1) := by decide +kernel
theorem dX3_put_0 : decode cX3_put 0 = .ok (.aload_n 0, 1) := by decide +kernel
theorem dX3_put_1 : decode cX3_put 1 = .ok (.iconst 0, 1) := by decide +kernel
theorem dX3_put_2 : decode cX3_put 2 = .ok (.putfield 44, 3) := by decide +kernel
theorem dX3_put_5 : decode cX3_put 5 = .ok (.iload_n 1, 1) := by decide +kernel
theorem dX3_put_6 : decode cX3_put 6 = .ok (.invokestatic 48, 3) := by decide +kernel
theorem dX3_put_9 : decode cX3_put 9 = .ok (.ifCond .ne 5, 3) := by decide +kernel
theorem dX3_put_12 : decode cX3_put 12 = .ok (.iconst (-1), 1) := by decide +kernel
theorem dX3_put_13 : decode cX3_put 13 = .ok (.ireturn, 1) := by decide +kernel
theorem dX3_put_14 : decode cX3_put 14 = .ok (.aload_n 0, 1) := by decide +kernel
theorem dX3_put_15 : decode cX3_put 15 = .ok (.getfield 13, 3) := by decide +kernel
theorem dX3_put_18 : decode cX3_put 18 = .ok (.iload_n 1, 1) := by decide +kernel
theorem dX3_put_19 : decode cX3_put 19 = .ok (.aaload, 1) := by decide +kernel
theorem dX3_put_20 : decode cX3_put 20 = .ok (.getfield 198, 3) := by decide +kernel
theorem dX3_put_23 : decode cX3_put 23 = .ok (.ifCond .ne 9, 3) := by decide +kernel
theorem dX3_put_26 : decode cX3_put 26 = .ok (.aload_n 0, 1) := by decide +kernel
theorem dX3_put_27 : decode cX3_put 27 = .ok (.iconst 1, 1) := by decide +kernel
theorem dX3_put_28 : decode cX3_put 28 = .ok (.invokevirtual 63, 3) := by decide +kernel
theorem dX3_put_31 : decode cX3_put 31 = .ok (.ireturn, 1) := by decide +kernel
theorem dX3_put_32 : decode cX3_put 32 = .ok (.aload_n 0, 1) := by decide +kernel
theorem dX3_put_33 : decode cX3_put 33 = .ok (.getfield 13, 3) := by decide +kernel
theorem dX3_put_36 : decode cX3_put 36 = .ok (.iload_n 1, 1) := by decide +kernel
theorem dX3_put_37 : decode cX3_put 37 = .ok (.aaload, 1) := by decide +kernel
theorem dX3_put_38 : decode cX3_put 38 = .ok (.iload_n 2, 1) := by decide +kernel
theorem dX3_put_39 : decode cX3_put 39 = .ok (.iconst 1, 1) := by decide +kernel
theorem dX3_put_40 : decode cX3_put 40 = .ok (.invokevirtual 59, 3) := by decide +kernel
theorem dX3_put_43 : decode cX3_put 43 = .ok (.ifCond .ne 9, 3) := by decide +kernel
theorem dX3_put_46 : decode cX3_put 46 = .ok (.aload_n 0, 1) := by decide +kernel
theorem dX3_put_47 : decode cX3_put 47 = .ok (.iconst 3, 1) := by decide +kernel
theorem dX3_put_48 : decode cX3_put 48 = .ok (.invokevirtual 63, 3) := by decide +kernel
theorem dX3_put_51 : decode cX3_put 51 = .ok (.ireturn, 1) := by decide +kernel
theorem dX3_put_52 : decode cX3_put 52 = .ok (.aload_n 0, 1) := by decide +kernel
theorem dX3_put_53 : decode cX3_put 53 = .ok (.getfield 13, 3) := by decide +kernel
theorem dX3_put_56 : decode cX3_put 56 = .ok (.iload_n 1, 1) := by decide +kernel
theorem dX3_put_57 : decode cX3_put 57 = .ok (.aaload, 1) := by decide +kernel
theorem dX3_put_58 : decode cX3_put 58 = .ok (.getfield 202, 3) := by decide +kernel
theorem dX3_put_61 : decode cX3_put 61 = .ok (.iload_n 2, 1) := by decide +kernel
theorem dX3_put_62 : decode cX3_put 62 = .ok (.aload_n 0, 1) := by decide +kernel
theorem dX3_put_63 : decode cX3_put 63 = .ok (.getfield 13, 3) := by decide +kernel
theorem dX3_put_66 : decode cX3_put 66 = .ok (.iload_n 1, 1) := by decide +kernel
theorem dX3_put_67 : decode cX3_put 67 = .ok (.aaload, 1) := by decide +kernel
theorem dX3_put_68 : decode cX3_put 68 = .ok (.getfield 205, 3) := by decide +kernel
theorem dX3_put_71 : decode cX3_put 71 = .ok (.iload_n 3, 1) := by decide +kernel
theorem dX3_put_72 : decode cX3_put 72 = .ok (.invokestatic 208, 3) := by decide +kernel
theorem dX3_put_75 : decode cX3_put 75 = .ok (.iastore, 1) := by decide +kernel
theorem dX3_put_76 : decode cX3_put 76 = .ok (.iconst 1, 1) := by decide +kernel
theorem dX3_put_77 : decode cX3_put 77 = .ok (.ireturn, 1) := by decide +kernel
theorem dX3_cell_0 : decode cX3_cell 0 = .ok (.aload_n 0, 1) := by decide +kernel
theorem dX3_cell_1 : decode cX3_cell 1 = .ok (.iconst 0, 1) := by decide +kernel
theorem dX3_cell_2 : decode cX3_cell 2 = .ok (.putfield 44, 3) := by decide +kernel
theorem dX3_cell_5 : decode cX3_cell 5 = .ok (.iload_n 1, 1) := by decide +kernel
theorem dX3_cell_6 : decode cX3_cell 6 = .ok (.invokestatic 48, 3) := by decide +kernel
theorem dX3_cell_9 : decode cX3_cell 9 = .ok (.ifCond .eq 10, 3) := by decide +kernel
theorem dX3_cell_12 : decode cX3_cell 12 = .ok (.iload_n 3, 1) := by decide +kernel
theorem dX3_cell_13 : decode cX3_cell 13 = .ok (.invokestatic 52, 3) := by decide +kernel
theorem dX3_cell_16 : decode cX3_cell 16 = .ok (.ifCond .ne 7, 3) := by decide +kernel
theorem dX3_cell_19 : decode cX3_cell 19 = .ok (.ldc2_w 187, 3) := by decide +kernel
theorem dX3_cell_22 : decode cX3_cell 22 = .ok (.lreturn, 1) := by decide +kernel
theorem dX3_cell_23 : decode cX3_cell 23 = .ok (.aload_n 0, 1) := by decide +kernel
theorem dX3_cell_24 : decode cX3_cell 24 = .ok (.getfield 13, 3) := by decide +kernel
theorem dX3_cell_27 : decode cX3_cell 27 = .ok (.iload_n 1, 1) := by decide +kernel
theorem dX3_cell_28 : decode cX3_cell 28 = .ok (.aaload, 1) := by decide +kernel
theorem dX3_cell_29 : decode cX3_cell 29 = .ok (.iload_n 3, 1) := by decide +kernel
theorem dX3_cell_30 : decode cX3_cell 30 = .ok (.invokevirtual 55, 3) := by decide +kernel
theorem dX3_cell_33 : decode cX3_cell 33 = .ok (.istore 4, 2) := by decide +kernel
theorem dX3_cell_35 : decode cX3_cell 35 = .ok (.iload 4, 2) := by decide +kernel
theorem dX3_cell_37 : decode cX3_cell 37 = .ok (.ifCond .ne 20, 3) := by decide +kernel
theorem dX3_cell_40 : decode cX3_cell 40 = .ok (.aload_n 0, 1) := by decide +kernel
theorem dX3_cell_41 : decode cX3_cell 41 = .ok (.getfield 13, 3) := by decide +kernel
theorem dX3_cell_44 : decode cX3_cell 44 = .ok (.iload_n 1, 1) := by decide +kernel
theorem dX3_cell_45 : decode cX3_cell 45 = .ok (.aaload, 1) := by decide +kernel
theorem dX3_cell_46 : decode cX3_cell 46 = .ok (.iload_n 2, 1) := by decide +kernel
theorem dX3_cell_47 : decode cX3_cell 47 = .ok (.iconst 1, 1) := by decide +kernel
theorem dX3_cell_48 : decode cX3_cell 48 = .ok (.invokevirtual 59, 3) := by decide +kernel
theorem dX3_cell_51 : decode cX3_cell 51 = .ok (.ifCond .ne 6, 3) := by decide +kernel
theorem dX3_cell_54 : decode cX3_cell 54 = .ok (.iconst 3, 1) := by decide +kernel
theorem dX3_cell_55 : decode cX3_cell 55 = .ok (.istore 4, 2) := by decide +kernel
theorem dX3_cell_57 : decode cX3_cell 57 = .ok (.aload_n 0, 1) := by decide +kernel
theorem dX3_cell_58 : decode cX3_cell 58 = .ok (.iload 4, 2) := by decide +kernel
theorem dX3_cell_60 : decode cX3_cell 60 = .ok (.putfield 44, 3) := by decide +kernel
theorem dX3_cell_63 : decode cX3_cell 63 = .ok (.iload 4, 2) := by decide +kernel
theorem dX3_cell_65 : decode cX3_cell 65 = .ok (.ifCond .ne 18, 3) := by decide +kernel
theorem dX3_cell_68 : decode cX3_cell 68 = .ok (.aload_n 0, 1) := by decide +kernel
theorem dX3_cell_69 : decode cX3_cell 69 = .ok (.getfield 13, 3) := by decide +kernel
theorem dX3_cell_72 : decode cX3_cell 72 = .ok (.iload_n 1, 1) := by decide +kernel
theorem dX3_cell_73 : decode cX3_cell 73 = .ok (.aaload, 1) := by decide +kernel
theorem dX3_cell_74 : decode cX3_cell 74 = .ok (.getfield 202, 3) := by decide +kernel
theorem dX3_cell_77 : decode cX3_cell 77 = .ok (.iload_n 2, 1) := by decide +kernel
theorem dX3_cell_78 : decode cX3_cell 78 = .ok (.iaload, 1) := by decide +kernel
theorem dX3_cell_79 : decode cX3_cell 79 = .ok (.i2l, 1) := by decide +kernel
theorem dX3_cell_80 : decode cX3_cell 80 = .ok (.goto 6, 3) := by decide +kernel
theorem dX3_cell_83 : decode cX3_cell 83 = .ok (.ldc2_w 187, 3) := by decide +kernel
theorem dX3_cell_86 : decode cX3_cell 86 = .ok (.lreturn, 1) := by decide +kernel
theorem dX3_copy_0 : decode cX3_copy 0 = .ok (.aload_n 0, 1) := by decide +kernel
theorem dX3_copy_1 : decode cX3_copy 1 = .ok (.iconst 0, 1) := by decide +kernel
theorem dX3_copy_2 : decode cX3_copy 2 = .ok (.putfield 44, 3) := by decide +kernel
theorem dX3_copy_5 : decode cX3_copy 5 = .ok (.iload_n 1, 1) := by decide +kernel
theorem dX3_copy_6 : decode cX3_copy 6 = .ok (.invokestatic 48, 3) := by decide +kernel
theorem dX3_copy_9 : decode cX3_copy 9 = .ok (.ifCond .eq 10, 3) := by decide +kernel
theorem dX3_copy_12 : decode cX3_copy 12 = .ok (.iload_n 3, 1) := by decide +kernel
theorem dX3_copy_13 : decode cX3_copy 13 = .ok (.invokestatic 48, 3) := by decide +kernel
theorem dX3_copy_16 : decode cX3_copy 16 = .ok (.ifCond .ne 5, 3) := by decide +kernel
theorem dX3_copy_19 : decode cX3_copy 19 = .ok (.iconst (-1), 1) := by decide +kernel
theorem dX3_copy_20 : decode cX3_copy 20 = .ok (.ireturn, 1) := by decide +kernel
theorem dX3_copy_21 : decode cX3_copy 21 = .ok (.aload_n 0, 1) := by decide +kernel
theorem dX3_copy_22 : decode cX3_copy 22 = .ok (.getfield 13, 3) := by decide +kernel
theorem dX3_copy_25 : decode cX3_copy 25 = .ok (.iload_n 1, 1) := by decide +kernel
theorem dX3_copy_26 : decode cX3_copy 26 = .ok (.aaload, 1) := by decide +kernel
theorem dX3_copy_27 : decode cX3_copy 27 = .ok (.getfield 198, 3) := by decide +kernel
theorem dX3_copy_30 : decode cX3_copy 30 = .ok (.ifCond .eq 15, 3) := by decide +kernel
theorem dX3_copy_33 : decode cX3_copy 33 = .ok (.aload_n 0, 1) := by decide +kernel
theorem dX3_copy_34 : decode cX3_copy 34 = .ok (.getfield 13, 3) := by decide +kernel
theorem dX3_copy_37 : decode cX3_copy 37 = .ok (.iload_n 3, 1) := by decide +kernel
theorem dX3_copy_38 : decode cX3_copy 38 = .ok (.aaload, 1) := by decide +kernel
theorem dX3_copy_39 : decode cX3_copy 39 = .ok (.getfield 198, 3) := by decide +kernel
theorem dX3_copy_42 : decode cX3_copy 42 = .ok (.ifCond .ne 9, 3) := by decide +kernel
theorem dX3_copy_45 : decode cX3_copy 45 = .ok (.aload_n 0, 1) := by decide +kernel
theorem dX3_copy_46 : decode cX3_copy 46 = .ok (.iconst 1, 1) := by decide +kernel
theorem dX3_copy_47 : decode cX3_copy 47 = .ok (.invokevirtual 63, 3) := by decide +kernel
theorem dX3_copy_50 : decode cX3_copy 50 = .ok (.ireturn, 1) := by decide +kernel
theorem dX3_copy_51 : decode cX3_copy 51 = .ok (.aload_n 0, 1) := by decide +kernel
theorem dX3_copy_52 : decode cX3_copy 52 = .ok (.getfield 13, 3) := by decide +kernel
theorem dX3_copy_55 : decode cX3_copy 55 = .ok (.iload_n 1, 1) := by decide +kernel
theorem dX3_copy_56 : decode cX3_copy 56 = .ok (.aaload, 1) := by decide +kernel
theorem dX3_copy_57 : decode cX3_copy 57 = .ok (.getfield 205, 3) := by decide +kernel
theorem dX3_copy_60 : decode cX3_copy 60 = .ok (.aload_n 0, 1) := by decide +kernel
theorem dX3_copy_61 : decode cX3_copy 61 = .ok (.getfield 13, 3) := by decide +kernel
theorem dX3_copy_64 : decode cX3_copy 64 = .ok (.iload_n 3, 1) := by decide +kernel
theorem dX3_copy_65 : decode cX3_copy 65 = .ok (.aaload, 1) := by decide +kernel
theorem dX3_copy_66 : decode cX3_copy 66 = .ok (.getfield 205, 3) := by decide +kernel
theorem dX3_copy_69 : decode cX3_copy 69 = .ok (.if_icmp .eq 9, 3) := by decide +kernel
theorem dX3_copy_72 : decode cX3_copy 72 = .ok (.aload_n 0, 1) := by decide +kernel
theorem dX3_copy_73 : decode cX3_copy 73 = .ok (.iconst 2, 1) := by decide +kernel
theorem dX3_copy_74 : decode cX3_copy 74 = .ok (.invokevirtual 63, 3) := by decide +kernel
theorem dX3_copy_77 : decode cX3_copy 77 = .ok (.ireturn, 1) := by decide +kernel
theorem dX3_copy_78 : decode cX3_copy 78 = .ok (.aload_n 0, 1) := by decide +kernel
theorem dX3_copy_79 : decode cX3_copy 79 = .ok (.getfield 13, 3) := by decide +kernel
theorem dX3_copy_82 : decode cX3_copy 82 = .ok (.iload_n 1, 1) := by decide +kernel
theorem dX3_copy_83 : decode cX3_copy 83 = .ok (.aaload, 1) := by decide +kernel
theorem dX3_copy_84 : decode cX3_copy 84 = .ok (.iload_n 2, 1) := by decide +kernel
theorem dX3_copy_85 : decode cX3_copy 85 = .ok (.iload 5, 2) := by decide +kernel
theorem dX3_copy_87 : decode cX3_copy 87 = .ok (.invokevirtual 59, 3) := by decide +kernel
theorem dX3_copy_90 : decode cX3_copy 90 = .ok (.ifCond .eq 19, 3) := by decide +kernel
theorem dX3_copy_93 : decode cX3_copy 93 = .ok (.aload_n 0, 1) := by decide +kernel
theorem dX3_copy_94 : decode cX3_copy 94 = .ok (.getfield 13, 3) := by decide +kernel
theorem dX3_copy_97 : decode cX3_copy 97 = .ok (.iload_n 3, 1) := by decide +kernel
theorem dX3_copy_98 : decode cX3_copy 98 = .ok (.aaload, 1) := by decide +kernel
theorem dX3_copy_99 : decode cX3_copy 99 = .ok (.iload 4, 2) := by decide +kernel
theorem dX3_copy_101 : decode cX3_copy 101 = .ok (.iload 5, 2) := by decide +kernel
theorem dX3_copy_103 : decode cX3_copy 103 = .ok (.invokevirtual 59, 3) := by decide +kernel
theorem dX3_copy_106 : decode cX3_copy 106 = .ok (.ifCond .ne 9, 3) := by decide +kernel
theorem dX3_copy_109 : decode cX3_copy 109 = .ok (.aload_n 0, 1) := by decide +kernel
theorem dX3_copy_110 : decode cX3_copy 110 = .ok (.iconst 3, 1) := by decide +kernel
theorem dX3_copy_111 : decode cX3_copy 111 = .ok (.invokevirtual 63, 3) := by decide +kernel
theorem dX3_copy_114 : decode cX3_copy 114 = .ok (.ireturn, 1) := by decide +kernel
theorem dX3_copy_115 : decode cX3_copy 115 = .ok (.aload_n 0, 1) := by decide +kernel
theorem dX3_copy_116 : decode cX3_copy 116 = .ok (.getfield 13, 3) := by decide +kernel
theorem dX3_copy_119 : decode cX3_copy 119 = .ok (.iload_n 1, 1) := by decide +kernel
theorem dX3_copy_120 : decode cX3_copy 120 = .ok (.aaload, 1) := by decide +kernel
theorem dX3_copy_121 : decode cX3_copy 121 = .ok (.getfield 202, 3) := by decide +kernel
theorem dX3_copy_124 : decode cX3_copy 124 = .ok (.iload_n 2, 1) := by decide +kernel
theorem dX3_copy_125 : decode cX3_copy 125 = .ok (.aload_n 0, 1) := by decide +kernel
theorem dX3_copy_126 : decode cX3_copy 126 = .ok (.getfield 13, 3) := by decide +kernel
theorem dX3_copy_129 : decode cX3_copy 129 = .ok (.iload_n 3, 1) := by decide +kernel
theorem dX3_copy_130 : decode cX3_copy 130 = .ok (.aaload, 1) := by decide +kernel
theorem dX3_copy_131 : decode cX3_copy 131 = .ok (.getfield 202, 3) := by decide +kernel
theorem dX3_copy_134 : decode cX3_copy 134 = .ok (.iload 4, 2) := by decide +kernel
theorem dX3_copy_136 : decode cX3_copy 136 = .ok (.iload 5, 2) := by decide +kernel
theorem dX3_copy_138 : decode cX3_copy 138 = .ok (.invokestatic 211, 3) := by decide +kernel
theorem dX3_copy_141 : decode cX3_copy 141 = .ok (.iload 5, 2) := by decide +kernel
theorem dX3_copy_143 : decode cX3_copy 143 = .ok (.ireturn, 1) := by decide +kernel
theorem dX3_tell_0 : decode cX3_tell 0 = .ok (.aload_n 0, 1) := by decide +kernel
theorem dX3_tell_1 : decode cX3_tell 1 = .ok (.iload_n 1, 1) := by decide +kernel
theorem dX3_tell_2 : decode cX3_tell 2 = .ok (.invokevirtual 80, 3) := by decide +kernel
theorem dX3_tell_5 : decode cX3_tell 5 = .ok (.ifCond .ne 5, 3) := by decide +kernel
theorem dX3_tell_8 : decode cX3_tell 8 = .ok (.iconst (-1), 1) := by decide +kernel
theorem dX3_tell_9 : decode cX3_tell 9 = .ok (.ireturn, 1) := by decide +kernel
theorem dX3_tell_10 : decode cX3_tell 10 = .ok (.aload_n 0, 1) := by decide +kernel
theorem dX3_tell_11 : decode cX3_tell 11 = .ok (.getfield 20, 3) := by decide +kernel
theorem dX3_tell_14 : decode cX3_tell 14 = .ok (.getfield 83, 3) := by decide +kernel
theorem dX3_tell_17 : decode cX3_tell 17 = .ok (.iload_n 1, 1) := by decide +kernel
theorem dX3_tell_18 : decode cX3_tell 18 = .ok (.iaload, 1) := by decide +kernel
theorem dX3_tell_19 : decode cX3_tell 19 = .ok (.lookupswitch 37 #[(1, 31), (2, 25)], 25) := by decide +kernel
theorem dX3_tell_44 : decode cX3_tell 44 = .ok (.aload_n 0, 1) := by decide +kernel
theorem dX3_tell_45 : decode cX3_tell 45 = .ok (.iload_n 1, 1) := by decide +kernel
theorem dX3_tell_46 : decode cX3_tell 46 = .ok (.invokevirtual 217, 3) := by decide +kernel
theorem dX3_tell_49 : decode cX3_tell 49 = .ok (.ireturn, 1) := by decide +kernel
theorem dX3_tell_50 : decode cX3_tell 50 = .ok (.aload_n 0, 1) := by decide +kernel
theorem dX3_tell_51 : decode cX3_tell 51 = .ok (.iload_n 1, 1) := by decide +kernel
theorem dX3_tell_52 : decode cX3_tell 52 = .ok (.invokevirtual 220, 3) := by decide +kernel
theorem dX3_tell_55 : decode cX3_tell 55 = .ok (.ireturn, 1) := by decide +kernel
theorem dX3_tell_56 : decode cX3_tell 56 = .ok (.aload_n 0, 1) := by decide +kernel
theorem dX3_tell_57 : decode cX3_tell 57 = .ok (.iload_n 1, 1) := by decide +kernel
theorem dX3_tell_58 : decode cX3_tell 58 = .ok (.invokevirtual 223, 3) := by decide +kernel
theorem dX3_tell_61 : decode cX3_tell 61 = .ok (.ireturn, 1) := by decide +kernel
theorem dX3_hail_0 : decode cX3_hail 0 = .ok (.aload_n 0, 1) := by decide +kernel
theorem dX3_hail_1 : decode cX3_hail 1 = .ok (.iload_n 1, 1) := by decide +kernel
theorem dX3_hail_2 : decode cX3_hail 2 = .ok (.invokevirtual 80, 3) := by decide +kernel
theorem dX3_hail_5 : decode cX3_hail 5 = .ok (.ifCond .ne 5, 3) := by decide +kernel
theorem dX3_hail_8 : decode cX3_hail 8 = .ok (.iconst (-1), 1) := by decide +kernel
theorem dX3_hail_9 : decode cX3_hail 9 = .ok (.ireturn, 1) := by decide +kernel
theorem dX3_hail_10 : decode cX3_hail 10 = .ok (.aload_n 0, 1) := by decide +kernel
theorem dX3_hail_11 : decode cX3_hail 11 = .ok (.getfield 20, 3) := by decide +kernel
theorem dX3_hail_14 : decode cX3_hail 14 = .ok (.getfield 83, 3) := by decide +kernel
theorem dX3_hail_17 : decode cX3_hail 17 = .ok (.iload_n 1, 1) := by decide +kernel
theorem dX3_hail_18 : decode cX3_hail 18 = .ok (.iaload, 1) := by decide +kernel
theorem dX3_hail_19 : decode cX3_hail 19 = .ok (.iconst 2, 1) := by decide +kernel
theorem dX3_hail_20 : decode cX3_hail 20 = .ok (.if_icmp .ne 11, 3) := by decide +kernel
theorem dX3_hail_23 : decode cX3_hail 23 = .ok (.aload_n 0, 1) := by decide +kernel
theorem dX3_hail_24 : decode cX3_hail 24 = .ok (.iconst 5, 1) := by decide +kernel
theorem dX3_hail_25 : decode cX3_hail 25 = .ok (.invokevirtual 226, 3) := by decide +kernel
theorem dX3_hail_28 : decode cX3_hail 28 = .ok (.bipush 90, 2) := by decide +kernel
theorem dX3_hail_30 : decode cX3_hail 30 = .ok (.ireturn, 1) := by decide +kernel
theorem dX3_hail_31 : decode cX3_hail 31 = .ok (.aload_n 0, 1) := by decide +kernel
theorem dX3_hail_32 : decode cX3_hail 32 = .ok (.iconst 4, 1) := by decide +kernel
theorem dX3_hail_33 : decode cX3_hail 33 = .ok (.invokevirtual 226, 3) := by decide +kernel
theorem dX3_hail_36 : decode cX3_hail 36 = .ok (.aload_n 0, 1) := by decide +kernel
theorem dX3_hail_37 : decode cX3_hail 37 = .ok (.getfield 20, 3) := by decide +kernel
theorem dX3_hail_40 : decode cX3_hail 40 = .ok (.getfield 93, 3) := by decide +kernel
theorem dX3_hail_43 : decode cX3_hail 43 = .ok (.iload_n 1, 1) := by decide +kernel
theorem dX3_hail_44 : decode cX3_hail 44 = .ok (.iaload, 1) := by decide +kernel
theorem dX3_hail_45 : decode cX3_hail 45 = .ok (.ireturn, 1) := by decide +kernel
theorem dX3_as_0 : decode cX3_as 0 = .ok (.aload_n 0, 1) := by decide +kernel
theorem dX3_as_1 : decode cX3_as 1 = .ok (.iconst 0, 1) := by decide +kernel
theorem dX3_as_2 : decode cX3_as 2 = .ok (.putfield 44, 3) := by decide +kernel
theorem dX3_as_5 : decode cX3_as 5 = .ok (.aload_n 0, 1) := by decide +kernel
theorem dX3_as_6 : decode cX3_as 6 = .ok (.iload_n 1, 1) := by decide +kernel
theorem dX3_as_7 : decode cX3_as 7 = .ok (.invokevirtual 80, 3) := by decide +kernel
theorem dX3_as_10 : decode cX3_as 10 = .ok (.ifCond .ne 5, 3) := by decide +kernel
theorem dX3_as_13 : decode cX3_as 13 = .ok (.iconst (-1), 1) := by decide +kernel
theorem dX3_as_14 : decode cX3_as 14 = .ok (.ireturn, 1) := by decide +kernel
theorem dX3_as_15 : decode cX3_as 15 = .ok (.iload_n 2, 1) := by decide +kernel
theorem dX3_as_16 : decode cX3_as 16 = .ok (.ifCond .lt 8, 3) := by decide +kernel
theorem dX3_as_19 : decode cX3_as 19 = .ok (.iload_n 2, 1) := by decide +kernel
theorem dX3_as_20 : decode cX3_as 20 = .ok (.iconst 2, 1) := by decide +kernel
theorem dX3_as_21 : decode cX3_as 21 = .ok (.if_icmp .le 6, 3) := by decide +kernel
theorem dX3_as_24 : decode cX3_as 24 = .ok (.bipush (-2), 2) := by decide +kernel
theorem dX3_as_26 : decode cX3_as 26 = .ok (.ireturn, 1) := by decide +kernel
theorem dX3_as_27 : decode cX3_as 27 = .ok (.aload_n 0, 1) := by decide +kernel
theorem dX3_as_28 : decode cX3_as 28 = .ok (.getfield 20, 3) := by decide +kernel
theorem dX3_as_31 : decode cX3_as 31 = .ok (.getfield 83, 3) := by decide +kernel
theorem dX3_as_34 : decode cX3_as 34 = .ok (.iload_n 1, 1) := by decide +kernel
theorem dX3_as_35 : decode cX3_as 35 = .ok (.iaload, 1) := by decide +kernel
theorem dX3_as_36 : decode cX3_as 36 = .ok (.iload_n 2, 1) := by decide +kernel
theorem dX3_as_37 : decode cX3_as 37 = .ok (.if_icmp .lt 7, 3) := by decide +kernel
theorem dX3_as_40 : decode cX3_as 40 = .ok (.iconst 1, 1) := by decide +kernel
theorem dX3_as_41 : decode cX3_as 41 = .ok (.goto 8, 3) := by decide +kernel
theorem dX3_as_44 : decode cX3_as 44 = .ok (.aload_n 0, 1) := by decide +kernel
theorem dX3_as_45 : decode cX3_as 45 = .ok (.iconst 2, 1) := by decide +kernel
theorem dX3_as_46 : decode cX3_as 46 = .ok (.invokevirtual 63, 3) := by decide +kernel
theorem dX3_as_49 : decode cX3_as 49 = .ok (.ireturn, 1) := by decide +kernel
theorem dX3_trace_0 : decode cX3_trace 0 = .ok (.aload_n 0, 1) := by decide +kernel
theorem dX3_trace_1 : decode cX3_trace 1 = .ok (.getfield 41, 3) := by decide +kernel
theorem dX3_trace_4 : decode cX3_trace 4 = .ok (.ireturn, 1) := by decide +kernel
theorem dX3_fault_0 : decode cX3_fault 0 = .ok (.aload_n 0, 1) := by decide +kernel
theorem dX3_fault_1 : decode cX3_fault 1 = .ok (.getfield 44, 3) := by decide +kernel
theorem dX3_fault_4 : decode cX3_fault 4 = .ok (.ireturn, 1) := by decide +kernel
theorem dX3_many_0 : decode cX3_many 0 = .ok (.iload_n 1, 1) := by decide +kernel
theorem dX3_many_1 : decode cX3_many 1 = .ok (.tableswitch 69 0 4 #[35, 43, 51, 56, 61], 35) := by decide +kernel
theorem dX3_many_36 : decode cX3_many 36 = .ok (.aload_n 0, 1) := by decide +kernel
theorem dX3_many_37 : decode cX3_many 37 = .ok (.getfield 20, 3) := by decide +kernel
theorem dX3_many_40 : decode cX3_many 40 = .ok (.getfield 168, 3) := by decide +kernel
theorem dX3_many_43 : decode cX3_many 43 = .ok (.ireturn, 1) := by decide +kernel
theorem dX3_many_44 : decode cX3_many 44 = .ok (.aload_n 0, 1) := by decide +kernel
theorem dX3_many_45 : decode cX3_many 45 = .ok (.getfield 20, 3) := by decide +kernel
theorem dX3_many_48 : decode cX3_many 48 = .ok (.getfield 77, 3) := by decide +kernel
theorem dX3_many_51 : decode cX3_many 51 = .ok (.ireturn, 1) := by decide +kernel
theorem dX3_many_52 : decode cX3_many 52 = .ok (.aload_n 0, 1) := by decide +kernel
theorem dX3_many_53 : decode cX3_many 53 = .ok (.getfield 34, 3) := by decide +kernel
theorem dX3_many_56 : decode cX3_many 56 = .ok (.ireturn, 1) := by decide +kernel
theorem dX3_many_57 : decode cX3_many 57 = .ok (.aload_n 0, 1) := by decide +kernel
theorem dX3_many_58 : decode cX3_many 58 = .ok (.getfield 38, 3) := by decide +kernel
theorem dX3_many_61 : decode cX3_many 61 = .ok (.ireturn, 1) := by decide +kernel
theorem dX3_many_62 : decode cX3_many 62 = .ok (.aload_n 0, 1) := by decide +kernel
theorem dX3_many_63 : decode cX3_many 63 = .ok (.getfield 30, 3) := by decide +kernel
theorem dX3_many_66 : decode cX3_many 66 = .ok (.getfield 74, 3) := by decide +kernel
theorem dX3_many_69 : decode cX3_many 69 = .ok (.ireturn, 1) := by decide +kernel
theorem dX3_many_70 : decode cX3_many 70 = .ok (.bipush (-2), 2) := by decide +kernel
theorem dX3_many_72 : decode cX3_many 72 = .ok (.ireturn, 1) := by decide +kernel
theorem dX3_isSheet_0 : decode cX3_isSheet 0 = .ok (.iload_n 0, 1) := by decide +kernel
theorem dX3_isSheet_1 : decode cX3_isSheet 1 = .ok (.ifCond .lt 12, 3) := by decide +kernel
theorem dX3_isSheet_4 : decode cX3_isSheet 4 = .ok (.iload_n 0, 1) := by decide +kernel
theorem dX3_isSheet_5 : decode cX3_isSheet 5 = .ok (.iconst 4, 1) := by decide +kernel
theorem dX3_isSheet_6 : decode cX3_isSheet 6 = .ok (.if_icmp .ge 7, 3) := by decide +kernel
theorem dX3_isSheet_9 : decode cX3_isSheet 9 = .ok (.iconst 1, 1) := by decide +kernel
theorem dX3_isSheet_10 : decode cX3_isSheet 10 = .ok (.goto 4, 3) := by decide +kernel
theorem dX3_isSheet_13 : decode cX3_isSheet 13 = .ok (.iconst 0, 1) := by decide +kernel
theorem dX3_isSheet_14 : decode cX3_isSheet 14 = .ok (.ireturn, 1) := by decide +kernel
theorem dX3_isLane_0 : decode cX3_isLane 0 = .ok (.iload_n 0, 1) := by decide +kernel
theorem dX3_isLane_1 : decode cX3_isLane 1 = .ok (.ifCond .lt 12, 3) := by decide +kernel
theorem dX3_isLane_4 : decode cX3_isLane 4 = .ok (.iload_n 0, 1) := by decide +kernel
theorem dX3_isLane_5 : decode cX3_isLane 5 = .ok (.iconst 2, 1) := by decide +kernel
theorem dX3_isLane_6 : decode cX3_isLane 6 = .ok (.if_icmp .gt 7, 3) := by decide +kernel
theorem dX3_isLane_9 : decode cX3_isLane 9 = .ok (.iconst 1, 1) := by decide +kernel
theorem dX3_isLane_10 : decode cX3_isLane 10 = .ok (.goto 4, 3) := by decide +kernel
theorem dX3_isLane_13 : decode cX3_isLane 13 = .ok (.iconst 0, 1) := by decide +kernel
theorem dX3_isLane_14 : decode cX3_isLane 14 = .ok (.ireturn, 1) := by decide +kernel
theorem dX3_hasCounty_0 : decode cX3_hasCounty 0 = .ok (.aload_n 0, 1) := by decide +kernel
theorem dX3_hasCounty_1 : decode cX3_hasCounty 1 = .ok (.getfield 20, 3) := by decide +kernel
theorem dX3_hasCounty_4 : decode cX3_hasCounty 4 = .ok (.getfield 168, 3) := by decide +kernel
theorem dX3_hasCounty_7 : decode cX3_hasCounty 7 = .ok (.ifCond .le 7, 3) := by decide +kernel
theorem dX3_hasCounty_10 : decode cX3_hasCounty 10 = .ok (.iconst 1, 1) := by decide +kernel
theorem dX3_hasCounty_11 : decode cX3_hasCounty 11 = .ok (.goto 4, 3) := by decide +kernel
theorem dX3_hasCounty_14 : decode cX3_hasCounty 14 = .ok (.iconst 0, 1) := by decide +kernel
theorem dX3_hasCounty_15 : decode cX3_hasCounty 15 = .ok (.ireturn, 1) := by decide +kernel
theorem dX3_isGoer_0 : decode cX3_isGoer 0 = .ok (.iload_n 1, 1) := by decide +kernel
theorem dX3_isGoer_1 : decode cX3_isGoer 1 = .ok (.ifCond .lt 18, 3) := by decide +kernel
theorem dX3_isGoer_4 : decode cX3_isGoer 4 = .ok (.iload_n 1, 1) := by decide +kernel
theorem dX3_isGoer_5 : decode cX3_isGoer 5 = .ok (.aload_n 0, 1) := by decide +kernel
theorem dX3_isGoer_6 : decode cX3_isGoer 6 = .ok (.getfield 20, 3) := by decide +kernel
theorem dX3_isGoer_9 : decode cX3_isGoer 9 = .ok (.getfield 77, 3) := by decide +kernel
theorem dX3_isGoer_12 : decode cX3_isGoer 12 = .ok (.if_icmp .ge 7, 3) := by decide +kernel
theorem dX3_isGoer_15 : decode cX3_isGoer 15 = .ok (.iconst 1, 1) := by decide +kernel
theorem dX3_isGoer_16 : decode cX3_isGoer 16 = .ok (.goto 4, 3) := by decide +kernel
theorem dX3_isGoer_19 : decode cX3_isGoer 19 = .ok (.iconst 0, 1) := by decide +kernel
theorem dX3_isGoer_20 : decode cX3_isGoer 20 = .ok (.ireturn, 1) := by decide +kernel
theorem dX3_isField_0 : decode cX3_isField 0 = .ok (.iload_n 1, 1) := by decide +kernel
theorem dX3_isField_1 : decode cX3_isField 1 = .ok (.ifCond .lt 18, 3) := by decide +kernel
theorem dX3_isField_4 : decode cX3_isField 4 = .ok (.iload_n 1, 1) := by decide +kernel
theorem dX3_isField_5 : decode cX3_isField 5 = .ok (.aload_n 0, 1) := by decide +kernel
theorem dX3_isField_6 : decode cX3_isField 6 = .ok (.getfield 20, 3) := by decide +kernel
theorem dX3_isField_9 : decode cX3_isField 9 = .ok (.getfield 168, 3) := by decide +kernel
theorem dX3_isField_12 : decode cX3_isField 12 = .ok (.if_icmp .ge 7, 3) := by decide +kernel
theorem dX3_isField_15 : decode cX3_isField 15 = .ok (.iconst 1, 1) := by decide +kernel
theorem dX3_isField_16 : decode cX3_isField 16 = .ok (.goto 4, 3) := by decide +kernel
theorem dX3_isField_19 : decode cX3_isField 19 = .ok (.iconst 0, 1) := by decide +kernel
theorem dX3_isField_20 : decode cX3_isField 20 = .ok (.ireturn, 1) := by decide +kernel
theorem dX3_areTwoFields_0 : decode cX3_areTwoFields 0 = .ok (.aload_n 0, 1) := by decide +kernel
theorem dX3_areTwoFields_1 : decode cX3_areTwoFields 1 = .ok (.iload_n 1, 1) := by decide +kernel
theorem dX3_areTwoFields_2 : decode cX3_areTwoFields 2 = .ok (.invokevirtual 112, 3) := by decide +kernel
theorem dX3_areTwoFields_5 : decode cX3_areTwoFields 5 = .ok (.ifCond .eq 20, 3) := by decide +kernel
theorem dX3_areTwoFields_8 : decode cX3_areTwoFields 8 = .ok (.aload_n 0, 1) := by decide +kernel
theorem dX3_areTwoFields_9 : decode cX3_areTwoFields 9 = .ok (.iload_n 2, 1) := by decide +kernel
theorem dX3_areTwoFields_10 : decode cX3_areTwoFields 10 = .ok (.invokevirtual 112, 3) := by decide +kernel
theorem dX3_areTwoFields_13 : decode cX3_areTwoFields 13 = .ok (.ifCond .eq 12, 3) := by decide +kernel
theorem dX3_areTwoFields_16 : decode cX3_areTwoFields 16 = .ok (.iload_n 1, 1) := by decide +kernel
theorem dX3_areTwoFields_17 : decode cX3_areTwoFields 17 = .ok (.iload_n 2, 1) := by decide +kernel
theorem dX3_areTwoFields_18 : decode cX3_areTwoFields 18 = .ok (.if_icmp .eq 7, 3) := by decide +kernel
theorem dX3_areTwoFields_21 : decode cX3_areTwoFields 21 = .ok (.iconst 1, 1) := by decide +kernel
theorem dX3_areTwoFields_22 : decode cX3_areTwoFields 22 = .ok (.goto 4, 3) := by decide +kernel
theorem dX3_areTwoFields_25 : decode cX3_areTwoFields 25 = .ok (.iconst 0, 1) := by decide +kernel
theorem dX3_areTwoFields_26 : decode cX3_areTwoFields 26 = .ok (.ireturn, 1) := by decide +kernel
theorem dX3_isAskedOfSeason_0 : decode cX3_isAskedOfSeason 0 = .ok (.iload_n 0, 1) := by decide +kernel
theorem dX3_isAskedOfSeason_1 : decode cX3_isAskedOfSeason 1 = .ok (.ifCond .lt 8, 3) := by decide +kernel
theorem dX3_isAskedOfSeason_4 : decode cX3_isAskedOfSeason 4 = .ok (.iload_n 0, 1) := by decide +kernel
theorem dX3_isAskedOfSeason_5 : decode cX3_isAskedOfSeason 5 = .ok (.iconst 4, 1) := by decide +kernel
theorem dX3_isAskedOfSeason_6 : decode cX3_isAskedOfSeason 6 = .ok (.if_icmp .le 15, 3) := by decide +kernel
theorem dX3_isAskedOfSeason_9 : decode cX3_isAskedOfSeason 9 = .ok (.iload_n 0, 1) := by decide +kernel
theorem dX3_isAskedOfSeason_10 : decode cX3_isAskedOfSeason 10 = .ok (.bipush 10, 2) := by decide +kernel
theorem dX3_isAskedOfSeason_12 : decode cX3_isAskedOfSeason 12 = .ok (.if_icmp .lt 13, 3) := by decide +kernel
theorem dX3_isAskedOfSeason_15 : decode cX3_isAskedOfSeason 15 = .ok (.iload_n 0, 1) := by decide +kernel
theorem dX3_isAskedOfSeason_16 : decode cX3_isAskedOfSeason 16 = .ok (.bipush 15, 2) := by decide +kernel
theorem dX3_isAskedOfSeason_18 : decode cX3_isAskedOfSeason 18 = .ok (.if_icmp .ge 7, 3) := by decide +kernel
theorem dX3_isAskedOfSeason_21 : decode cX3_isAskedOfSeason 21 = .ok (.iconst 1, 1) := by decide +kernel
theorem dX3_isAskedOfSeason_22 : decode cX3_isAskedOfSeason 22 = .ok (.goto 4, 3) := by decide +kernel
theorem dX3_isAskedOfSeason_25 : decode cX3_isAskedOfSeason 25 = .ok (.iconst 0, 1) := by decide +kernel
theorem dX3_isAskedOfSeason_26 : decode cX3_isAskedOfSeason 26 = .ok (.ireturn, 1) := by decide +kernel
theorem dX3_isIn_0 : decode cX3_isIn 0 = .ok (.iload_n 0, 1) := by decide +kernel
theorem dX3_isIn_1 : decode cX3_isIn 1 = .ok (.iload_n 1, 1) := by decide +kernel
theorem dX3_isIn_2 : decode cX3_isIn 2 = .ok (.ishr, 1) := by decide +kernel
theorem dX3_isIn_3 : decode cX3_isIn 3 = .ok (.iconst 1, 1) := by decide +kernel
theorem dX3_isIn_4 : decode cX3_isIn 4 = .ok (.iand, 1) := by decide +kernel
theorem dX3_isIn_5 : decode cX3_isIn 5 = .ok (.iconst 1, 1) := by decide +kernel
theorem dX3_isIn_6 : decode cX3_isIn 6 = .ok (.if_icmp .ne 7, 3) := by decide +kernel
theorem dX3_isIn_9 : decode cX3_isIn 9 = .ok (.iconst 1, 1) := by decide +kernel
theorem dX3_isIn_10 : decode cX3_isIn 10 = .ok (.goto 4, 3) := by decide +kernel
theorem dX3_isIn_13 : decode cX3_isIn 13 = .ok (.iconst 0, 1) := by decide +kernel
theorem dX3_isIn_14 : decode cX3_isIn 14 = .ok (.ireturn, 1) := by decide +kernel
theorem dX3_failed_0 : decode cX3_failed 0 = .ok (.aload_n 0, 1) := by decide +kernel
theorem dX3_failed_1 : decode cX3_failed 1 = .ok (.iload_n 1, 1) := by decide +kernel
theorem dX3_failed_2 : decode cX3_failed 2 = .ok (.putfield 44, 3) := by decide +kernel
theorem dX3_failed_5 : decode cX3_failed 5 = .ok (.bipush (-10), 2) := by decide +kernel
theorem dX3_failed_7 : decode cX3_failed 7 = .ok (.iload_n 1, 1) := by decide +kernel
theorem dX3_failed_8 : decode cX3_failed 8 = .ok (.isub, 1) := by decide +kernel
theorem dX3_failed_9 : decode cX3_failed 9 = .ok (.ireturn, 1) := by decide +kernel
theorem dX3_firstFaultOfText_0 : decode cX3_firstFaultOfText 0 = .ok (.aload_n 0, 1) := by decide +kernel
theorem dX3_firstFaultOfText_1 : decode cX3_firstFaultOfText 1 = .ok (.getfield 24, 3) := by decide +kernel
theorem dX3_firstFaultOfText_4 : decode cX3_firstFaultOfText 4 = .ok (.invokevirtual 229, 3) := by decide +kernel
theorem dX3_firstFaultOfText_7 : decode cX3_firstFaultOfText 7 = .ok (.iconst 0, 1) := by decide +kernel
theorem dX3_firstFaultOfText_8 : decode cX3_firstFaultOfText 8 = .ok (.istore 4, 2) := by decide +kernel
theorem dX3_firstFaultOfText_10 : decode cX3_firstFaultOfText 10 = .ok (.iload 4, 2) := by decide +kernel
theorem dX3_firstFaultOfText_12 : decode cX3_firstFaultOfText 12 = .ok (.iload_n 3, 1) := by decide +kernel
theorem dX3_firstFaultOfText_13 : decode cX3_firstFaultOfText 13 = .ok (.if_icmp .ge 33, 3) := by decide +kernel
theorem dX3_firstFaultOfText_16 : decode cX3_firstFaultOfText 16 = .ok (.aload_n 0, 1) := by decide +kernel
theorem dX3_firstFaultOfText_17 : decode cX3_firstFaultOfText 17 = .ok (.getfield 24, 3) := by decide +kernel
theorem dX3_firstFaultOfText_20 : decode cX3_firstFaultOfText 20 = .ok (.iload 4, 2) := by decide +kernel
theorem dX3_firstFaultOfText_22 : decode cX3_firstFaultOfText 22 = .ok (.aload_n 1, 1) := by decide +kernel
theorem dX3_firstFaultOfText_23 : decode cX3_firstFaultOfText 23 = .ok (.getfield 202, 3) := by decide +kernel
theorem dX3_firstFaultOfText_26 : decode cX3_firstFaultOfText 26 = .ok (.iload_n 2, 1) := by decide +kernel
theorem dX3_firstFaultOfText_27 : decode cX3_firstFaultOfText 27 = .ok (.iload 4, 2) := by decide +kernel
theorem dX3_firstFaultOfText_29 : decode cX3_firstFaultOfText 29 = .ok (.iadd, 1) := by decide +kernel
theorem dX3_firstFaultOfText_30 : decode cX3_firstFaultOfText 30 = .ok (.iaload, 1) := by decide +kernel
theorem dX3_firstFaultOfText_31 : decode cX3_firstFaultOfText 31 = .ok (.invokevirtual 232, 3) := by decide +kernel
theorem dX3_firstFaultOfText_34 : decode cX3_firstFaultOfText 34 = .ok (.ifCond .ne 6, 3) := by decide +kernel
theorem dX3_firstFaultOfText_37 : decode cX3_firstFaultOfText 37 = .ok (.iload 4, 2) := by decide +kernel
theorem dX3_firstFaultOfText_39 : decode cX3_firstFaultOfText 39 = .ok (.ireturn, 1) := by decide +kernel
theorem dX3_firstFaultOfText_40 : decode cX3_firstFaultOfText 40 = .ok (.iinc 4 1, 3) := by decide +kernel
theorem dX3_firstFaultOfText_43 : decode cX3_firstFaultOfText 43 = .ok (.goto (-33), 3) := by decide +kernel
theorem dX3_firstFaultOfText_46 : decode cX3_firstFaultOfText 46 = .ok (.aload_n 0, 1) := by decide +kernel
theorem dX3_firstFaultOfText_47 : decode cX3_firstFaultOfText 47 = .ok (.getfield 24, 3) := by decide +kernel
theorem dX3_firstFaultOfText_50 : decode cX3_firstFaultOfText 50 = .ok (.iload_n 3, 1) := by decide +kernel
theorem dX3_firstFaultOfText_51 : decode cX3_firstFaultOfText 51 = .ok (.invokevirtual 235, 3) := by decide +kernel
theorem dX3_firstFaultOfText_54 : decode cX3_firstFaultOfText 54 = .ok (.ifCond .eq 8, 3) := by decide +kernel
theorem dX3_firstFaultOfText_57 : decode cX3_firstFaultOfText 57 = .ok (.bipush (-9), 2) := by decide +kernel
theorem dX3_firstFaultOfText_59 : decode cX3_firstFaultOfText 59 = .ok (.goto 4, 3) := by decide +kernel
theorem dX3_firstFaultOfText_62 : decode cX3_firstFaultOfText 62 = .ok (.iload_n 3, 1) := by decide +kernel
theorem dX3_firstFaultOfText_63 : decode cX3_firstFaultOfText 63 = .ok (.ireturn, 1) := by decide +kernel
theorem dX3_refusalOfPairs_0 : decode cX3_refusalOfPairs 0 = .ok (.iconst 0, 1) := by decide +kernel
theorem dX3_refusalOfPairs_1 : decode cX3_refusalOfPairs 1 = .ok (.istore 4, 2) := by decide +kernel
theorem dX3_refusalOfPairs_3 : decode cX3_refusalOfPairs 3 = .ok (.iload 4, 2) := by decide +kernel
theorem dX3_refusalOfPairs_5 : decode cX3_refusalOfPairs 5 = .ok (.iload_n 3, 1) := by decide +kernel
theorem dX3_refusalOfPairs_6 : decode cX3_refusalOfPairs 6 = .ok (.if_icmp .ge 91, 3) := by decide +kernel
theorem dX3_refusalOfPairs_9 : decode cX3_refusalOfPairs 9 = .ok (.aload_n 1, 1) := by decide +kernel
theorem dX3_refusalOfPairs_10 : decode cX3_refusalOfPairs 10 = .ok (.getfield 202, 3) := by decide +kernel
theorem dX3_refusalOfPairs_13 : decode cX3_refusalOfPairs 13 = .ok (.iload_n 2, 1) := by decide +kernel
theorem dX3_refusalOfPairs_14 : decode cX3_refusalOfPairs 14 = .ok (.iconst 2, 1) := by decide +kernel
theorem dX3_refusalOfPairs_15 : decode cX3_refusalOfPairs 15 = .ok (.iload 4, 2) := by decide +kernel
theorem dX3_refusalOfPairs_17 : decode cX3_refusalOfPairs 17 = .ok (.imul, 1) := by decide +kernel
theorem dX3_refusalOfPairs_18 : decode cX3_refusalOfPairs 18 = .ok (.iadd, 1) := by decide +kernel
theorem dX3_refusalOfPairs_19 : decode cX3_refusalOfPairs 19 = .ok (.iaload, 1) := by decide +kernel
theorem dX3_refusalOfPairs_20 : decode cX3_refusalOfPairs 20 = .ok (.istore 5, 2) := by decide +kernel
theorem dX3_refusalOfPairs_22 : decode cX3_refusalOfPairs 22 = .ok (.aload_n 1, 1) := by decide +kernel
theorem dX3_refusalOfPairs_23 : decode cX3_refusalOfPairs 23 = .ok (.getfield 202, 3) := by decide +kernel
theorem dX3_refusalOfPairs_26 : decode cX3_refusalOfPairs 26 = .ok (.iload_n 2, 1) := by decide +kernel
theorem dX3_refusalOfPairs_27 : decode cX3_refusalOfPairs 27 = .ok (.iconst 2, 1) := by decide +kernel
theorem dX3_refusalOfPairs_28 : decode cX3_refusalOfPairs 28 = .ok (.iload 4, 2) := by decide +kernel
theorem dX3_refusalOfPairs_30 : decode cX3_refusalOfPairs 30 = .ok (.imul, 1) := by decide +kernel
theorem dX3_refusalOfPairs_31 : decode cX3_refusalOfPairs 31 = .ok (.iadd, 1) := by decide +kernel
theorem dX3_refusalOfPairs_32 : decode cX3_refusalOfPairs 32 = .ok (.iconst 1, 1) := by decide +kernel
theorem dX3_refusalOfPairs_33 : decode cX3_refusalOfPairs 33 = .ok (.iadd, 1) := by decide +kernel
theorem dX3_refusalOfPairs_34 : decode cX3_refusalOfPairs 34 = .ok (.iaload, 1) := by decide +kernel
theorem dX3_refusalOfPairs_35 : decode cX3_refusalOfPairs 35 = .ok (.istore 6, 2) := by decide +kernel
theorem dX3_refusalOfPairs_37 : decode cX3_refusalOfPairs 37 = .ok (.iload 6, 2) := by decide +kernel
theorem dX3_refusalOfPairs_39 : decode cX3_refusalOfPairs 39 = .ok (.bipush 10, 2) := by decide +kernel
theorem dX3_refusalOfPairs_41 : decode cX3_refusalOfPairs 41 = .ok (.if_icmp .eq 10, 3) := by decide +kernel
theorem dX3_refusalOfPairs_44 : decode cX3_refusalOfPairs 44 = .ok (.iload 6, 2) := by decide +kernel
theorem dX3_refusalOfPairs_46 : decode cX3_refusalOfPairs 46 = .ok (.bipush 20, 2) := by decide +kernel
theorem dX3_refusalOfPairs_48 : decode cX3_refusalOfPairs 48 = .ok (.if_icmp .ne 18, 3) := by decide +kernel
theorem dX3_refusalOfPairs_51 : decode cX3_refusalOfPairs 51 = .ok (.iload 5, 2) := by decide +kernel
theorem dX3_refusalOfPairs_53 : decode cX3_refusalOfPairs 53 = .ok (.ifCond .lt 10, 3) := by decide +kernel
theorem dX3_refusalOfPairs_56 : decode cX3_refusalOfPairs 56 = .ok (.iload 5, 2) := by decide +kernel
theorem dX3_refusalOfPairs_58 : decode cX3_refusalOfPairs 58 = .ok (.bipush 9, 2) := by decide +kernel
theorem dX3_refusalOfPairs_60 : decode cX3_refusalOfPairs 60 = .ok (.if_icmp .le 31, 3) := by decide +kernel
theorem dX3_refusalOfPairs_63 : decode cX3_refusalOfPairs 63 = .ok (.bipush (-2), 2) := by decide +kernel
theorem dX3_refusalOfPairs_65 : decode cX3_refusalOfPairs 65 = .ok (.ireturn, 1) := by decide +kernel
theorem dX3_refusalOfPairs_66 : decode cX3_refusalOfPairs 66 = .ok (.iload 6, 2) := by decide +kernel
theorem dX3_refusalOfPairs_68 : decode cX3_refusalOfPairs 68 = .ok (.ifCond .lt 9, 3) := by decide +kernel
theorem dX3_refusalOfPairs_71 : decode cX3_refusalOfPairs 71 = .ok (.iload 6, 2) := by decide +kernel
theorem dX3_refusalOfPairs_73 : decode cX3_refusalOfPairs 73 = .ok (.iconst 5, 1) := by decide +kernel
theorem dX3_refusalOfPairs_74 : decode cX3_refusalOfPairs 74 = .ok (.if_icmp .lt 6, 3) := by decide +kernel
theorem dX3_refusalOfPairs_77 : decode cX3_refusalOfPairs 77 = .ok (.bipush (-2), 2) := by decide +kernel
theorem dX3_refusalOfPairs_79 : decode cX3_refusalOfPairs 79 = .ok (.ireturn, 1) := by decide +kernel
theorem dX3_refusalOfPairs_80 : decode cX3_refusalOfPairs 80 = .ok (.aload_n 0, 1) := by decide +kernel
theorem dX3_refusalOfPairs_81 : decode cX3_refusalOfPairs 81 = .ok (.iload 5, 2) := by decide +kernel
theorem dX3_refusalOfPairs_83 : decode cX3_refusalOfPairs 83 = .ok (.invokevirtual 80, 3) := by decide +kernel
theorem dX3_refusalOfPairs_86 : decode cX3_refusalOfPairs 86 = .ok (.ifCond .ne 5, 3) := by decide +kernel
theorem dX3_refusalOfPairs_89 : decode cX3_refusalOfPairs 89 = .ok (.iconst (-1), 1) := by decide +kernel
theorem dX3_refusalOfPairs_90 : decode cX3_refusalOfPairs 90 = .ok (.ireturn, 1) := by decide +kernel
theorem dX3_refusalOfPairs_91 : decode cX3_refusalOfPairs 91 = .ok (.iinc 4 1, 3) := by decide +kernel
theorem dX3_refusalOfPairs_94 : decode cX3_refusalOfPairs 94 = .ok (.goto (-91), 3) := by decide +kernel
theorem dX3_refusalOfPairs_97 : decode cX3_refusalOfPairs 97 = .ok (.iconst 0, 1) := by decide +kernel
theorem dX3_refusalOfPairs_98 : decode cX3_refusalOfPairs 98 = .ok (.ireturn, 1) := by decide +kernel
theorem dX3_firstWrongOfSeason_0 : decode cX3_firstWrongOfSeason 0 = .ok (.aload_n 0, 1) := by decide +kernel
theorem dX3_firstWrongOfSeason_1 : decode cX3_firstWrongOfSeason 1 = .ok (.getfield 24, 3) := by decide +kernel
theorem dX3_firstWrongOfSeason_4 : decode cX3_firstWrongOfSeason 4 = .ok (.aload_n 0, 1) := by decide +kernel
theorem dX3_firstWrongOfSeason_5 : decode cX3_firstWrongOfSeason 5 = .ok (.getfield 20, 3) := by decide +kernel
theorem dX3_firstWrongOfSeason_8 : decode cX3_firstWrongOfSeason 8 = .ok (.invokevirtual 70, 3) := by decide +kernel
theorem dX3_firstWrongOfSeason_11 : decode cX3_firstWrongOfSeason 11 = .ok (.iconst 0, 1) := by decide +kernel
theorem dX3_firstWrongOfSeason_12 : decode cX3_firstWrongOfSeason 12 = .ok (.istore 4, 2) := by decide +kernel
theorem dX3_firstWrongOfSeason_14 : decode cX3_firstWrongOfSeason 14 = .ok (.iload 4, 2) := by decide +kernel
theorem dX3_firstWrongOfSeason_16 : decode cX3_firstWrongOfSeason 16 = .ok (.iload_n 3, 1) := by decide +kernel
theorem dX3_firstWrongOfSeason_17 : decode cX3_firstWrongOfSeason 17 = .ok (.if_icmp .ge 46, 3) := by decide +kernel
theorem dX3_firstWrongOfSeason_20 : decode cX3_firstWrongOfSeason 20 = .ok (.aload_n 0, 1) := by decide +kernel
theorem dX3_firstWrongOfSeason_21 : decode cX3_firstWrongOfSeason 21 = .ok (.getfield 24, 3) := by decide +kernel
theorem dX3_firstWrongOfSeason_24 : decode cX3_firstWrongOfSeason 24 = .ok (.aload_n 1, 1) := by decide +kernel
theorem dX3_firstWrongOfSeason_25 : decode cX3_firstWrongOfSeason 25 = .ok (.getfield 202, 3) := by decide +kernel
theorem dX3_firstWrongOfSeason_28 : decode cX3_firstWrongOfSeason 28 = .ok (.iload_n 2, 1) := by decide +kernel
theorem dX3_firstWrongOfSeason_29 : decode cX3_firstWrongOfSeason 29 = .ok (.iconst 2, 1) := by decide +kernel
theorem dX3_firstWrongOfSeason_30 : decode cX3_firstWrongOfSeason 30 = .ok (.iload 4, 2) := by decide +kernel
theorem dX3_firstWrongOfSeason_32 : decode cX3_firstWrongOfSeason 32 = .ok (.imul, 1) := by decide +kernel
theorem dX3_firstWrongOfSeason_33 : decode cX3_firstWrongOfSeason 33 = .ok (.iadd, 1) := by decide +kernel
theorem dX3_firstWrongOfSeason_34 : decode cX3_firstWrongOfSeason 34 = .ok (.iaload, 1) := by decide +kernel
theorem dX3_firstWrongOfSeason_35 : decode cX3_firstWrongOfSeason 35 = .ok (.aload_n 1, 1) := by decide +kernel
theorem dX3_firstWrongOfSeason_36 : decode cX3_firstWrongOfSeason 36 = .ok (.getfield 202, 3) := by decide +kernel
theorem dX3_firstWrongOfSeason_39 : decode cX3_firstWrongOfSeason 39 = .ok (.iload_n 2, 1) := by decide +kernel
theorem dX3_firstWrongOfSeason_40 : decode cX3_firstWrongOfSeason 40 = .ok (.iconst 2, 1) := by decide +kernel
theorem dX3_firstWrongOfSeason_41 : decode cX3_firstWrongOfSeason 41 = .ok (.iload 4, 2) := by decide +kernel
theorem dX3_firstWrongOfSeason_43 : decode cX3_firstWrongOfSeason 43 = .ok (.imul, 1) := by decide +kernel
theorem dX3_firstWrongOfSeason_44 : decode cX3_firstWrongOfSeason 44 = .ok (.iadd, 1) := by decide +kernel
theorem dX3_firstWrongOfSeason_45 : decode cX3_firstWrongOfSeason 45 = .ok (.iconst 1, 1) := by decide +kernel
theorem dX3_firstWrongOfSeason_46 : decode cX3_firstWrongOfSeason 46 = .ok (.iadd, 1) := by decide +kernel
theorem dX3_firstWrongOfSeason_47 : decode cX3_firstWrongOfSeason 47 = .ok (.iaload, 1) := by decide +kernel
theorem dX3_firstWrongOfSeason_48 : decode cX3_firstWrongOfSeason 48 = .ok (.invokevirtual 238, 3) := by decide +kernel
theorem dX3_firstWrongOfSeason_51 : decode cX3_firstWrongOfSeason 51 = .ok (.ifCond .ne 6, 3) := by decide +kernel
theorem dX3_firstWrongOfSeason_54 : decode cX3_firstWrongOfSeason 54 = .ok (.iload 4, 2) := by decide +kernel
theorem dX3_firstWrongOfSeason_56 : decode cX3_firstWrongOfSeason 56 = .ok (.ireturn, 1) := by decide +kernel
theorem dX3_firstWrongOfSeason_57 : decode cX3_firstWrongOfSeason 57 = .ok (.iinc 4 1, 3) := by decide +kernel
theorem dX3_firstWrongOfSeason_60 : decode cX3_firstWrongOfSeason 60 = .ok (.goto (-46), 3) := by decide +kernel
theorem dX3_firstWrongOfSeason_63 : decode cX3_firstWrongOfSeason 63 = .ok (.bipush (-9), 2) := by decide +kernel
theorem dX3_firstWrongOfSeason_65 : decode cX3_firstWrongOfSeason 65 = .ok (.ireturn, 1) := by decide +kernel
theorem dX3_goingsTold_0 : decode cX3_goingsTold 0 = .ok (.iconst 0, 1) := by decide +kernel
theorem dX3_goingsTold_1 : decode cX3_goingsTold 1 = .ok (.istore_n 3, 1) := by decide +kernel
theorem dX3_goingsTold_2 : decode cX3_goingsTold 2 = .ok (.iconst 0, 1) := by decide +kernel
theorem dX3_goingsTold_3 : decode cX3_goingsTold 3 = .ok (.istore 4, 2) := by decide +kernel
theorem dX3_goingsTold_5 : decode cX3_goingsTold 5 = .ok (.iload 4, 2) := by decide +kernel
theorem dX3_goingsTold_7 : decode cX3_goingsTold 7 = .ok (.iload_n 2, 1) := by decide +kernel
theorem dX3_goingsTold_8 : decode cX3_goingsTold 8 = .ok (.if_icmp .ge 34, 3) := by decide +kernel
theorem dX3_goingsTold_11 : decode cX3_goingsTold 11 = .ok (.iload_n 3, 1) := by decide +kernel
theorem dX3_goingsTold_12 : decode cX3_goingsTold 12 = .ok (.aload_n 0, 1) := by decide +kernel
theorem dX3_goingsTold_13 : decode cX3_goingsTold 13 = .ok (.getfield 202, 3) := by decide +kernel
theorem dX3_goingsTold_16 : decode cX3_goingsTold 16 = .ok (.iload_n 1, 1) := by decide +kernel
theorem dX3_goingsTold_17 : decode cX3_goingsTold 17 = .ok (.iconst 2, 1) := by decide +kernel
theorem dX3_goingsTold_18 : decode cX3_goingsTold 18 = .ok (.iload 4, 2) := by decide +kernel
theorem dX3_goingsTold_20 : decode cX3_goingsTold 20 = .ok (.imul, 1) := by decide +kernel
theorem dX3_goingsTold_21 : decode cX3_goingsTold 21 = .ok (.iadd, 1) := by decide +kernel
theorem dX3_goingsTold_22 : decode cX3_goingsTold 22 = .ok (.iconst 1, 1) := by decide +kernel
theorem dX3_goingsTold_23 : decode cX3_goingsTold 23 = .ok (.iadd, 1) := by decide +kernel
theorem dX3_goingsTold_24 : decode cX3_goingsTold 24 = .ok (.iaload, 1) := by decide +kernel
theorem dX3_goingsTold_25 : decode cX3_goingsTold 25 = .ok (.iconst 5, 1) := by decide +kernel
theorem dX3_goingsTold_26 : decode cX3_goingsTold 26 = .ok (.if_icmp .ge 7, 3) := by decide +kernel
theorem dX3_goingsTold_29 : decode cX3_goingsTold 29 = .ok (.iconst 1, 1) := by decide +kernel
theorem dX3_goingsTold_30 : decode cX3_goingsTold 30 = .ok (.goto 4, 3) := by decide +kernel
theorem dX3_goingsTold_33 : decode cX3_goingsTold 33 = .ok (.iconst 0, 1) := by decide +kernel
theorem dX3_goingsTold_34 : decode cX3_goingsTold 34 = .ok (.iadd, 1) := by decide +kernel
theorem dX3_goingsTold_35 : decode cX3_goingsTold 35 = .ok (.istore_n 3, 1) := by decide +kernel
theorem dX3_goingsTold_36 : decode cX3_goingsTold 36 = .ok (.iinc 4 1, 3) := by decide +kernel
theorem dX3_goingsTold_39 : decode cX3_goingsTold 39 = .ok (.goto (-34), 3) := by decide +kernel
theorem dX3_goingsTold_42 : decode cX3_goingsTold 42 = .ok (.iload_n 3, 1) := by decide +kernel
theorem dX3_goingsTold_43 : decode cX3_goingsTold 43 = .ok (.ireturn, 1) := by decide +kernel
theorem dX3_ofTrial_0 : decode cX3_ofTrial 0 = .ok (.iload_n 1, 1) := by decide +kernel
theorem dX3_ofTrial_1 : decode cX3_ofTrial 1 = .ok (.tableswitch 59 0 4 #[35, 59, 43, 59, 51], 35) := by decide +kernel
theorem dX3_ofTrial_36 : decode cX3_ofTrial 36 = .ok (.aload_n 0, 1) := by decide +kernel
theorem dX3_ofTrial_37 : decode cX3_ofTrial 37 = .ok (.getfield 24, 3) := by decide +kernel
theorem dX3_ofTrial_40 : decode cX3_ofTrial 40 = .ok (.invokevirtual 130, 3) := by decide +kernel
theorem dX3_ofTrial_43 : decode cX3_ofTrial 43 = .ok (.ireturn, 1) := by decide +kernel
theorem dX3_ofTrial_44 : decode cX3_ofTrial 44 = .ok (.aload_n 0, 1) := by decide +kernel
theorem dX3_ofTrial_45 : decode cX3_ofTrial 45 = .ok (.getfield 24, 3) := by decide +kernel
theorem dX3_ofTrial_48 : decode cX3_ofTrial 48 = .ok (.getfield 106, 3) := by decide +kernel
theorem dX3_ofTrial_51 : decode cX3_ofTrial 51 = .ok (.ireturn, 1) := by decide +kernel
theorem dX3_ofTrial_52 : decode cX3_ofTrial 52 = .ok (.aload_n 0, 1) := by decide +kernel
theorem dX3_ofTrial_53 : decode cX3_ofTrial 53 = .ok (.getfield 24, 3) := by decide +kernel
theorem dX3_ofTrial_56 : decode cX3_ofTrial 56 = .ok (.invokevirtual 241, 3) := by decide +kernel
theorem dX3_ofTrial_59 : decode cX3_ofTrial 59 = .ok (.ireturn, 1) := by decide +kernel
theorem dX3_ofTrial_60 : decode cX3_ofTrial 60 = .ok (.aload_n 0, 1) := by decide +kernel
theorem dX3_ofTrial_61 : decode cX3_ofTrial 61 = .ok (.iload_n 1, 1) := by decide +kernel
theorem dX3_ofTrial_62 : decode cX3_ofTrial 62 = .ok (.bipush 10, 2) := by decide +kernel
theorem dX3_ofTrial_64 : decode cX3_ofTrial 64 = .ok (.isub, 1) := by decide +kernel
theorem dX3_ofTrial_65 : decode cX3_ofTrial 65 = .ok (.invokevirtual 80, 3) := by decide +kernel
theorem dX3_ofTrial_68 : decode cX3_ofTrial 68 = .ok (.ifCond .eq 18, 3) := by decide +kernel
theorem dX3_ofTrial_71 : decode cX3_ofTrial 71 = .ok (.aload_n 0, 1) := by decide +kernel
theorem dX3_ofTrial_72 : decode cX3_ofTrial 72 = .ok (.getfield 24, 3) := by decide +kernel
theorem dX3_ofTrial_75 : decode cX3_ofTrial 75 = .ok (.getfield 93, 3) := by decide +kernel
theorem dX3_ofTrial_78 : decode cX3_ofTrial 78 = .ok (.iload_n 1, 1) := by decide +kernel
theorem dX3_ofTrial_79 : decode cX3_ofTrial 79 = .ok (.bipush 10, 2) := by decide +kernel
theorem dX3_ofTrial_81 : decode cX3_ofTrial 81 = .ok (.isub, 1) := by decide +kernel
theorem dX3_ofTrial_82 : decode cX3_ofTrial 82 = .ok (.iaload, 1) := by decide +kernel
theorem dX3_ofTrial_83 : decode cX3_ofTrial 83 = .ok (.goto 5, 3) := by decide +kernel
theorem dX3_ofTrial_86 : decode cX3_ofTrial 86 = .ok (.bipush (-9), 2) := by decide +kernel
theorem dX3_ofTrial_88 : decode cX3_ofTrial 88 = .ok (.ireturn, 1) := by decide +kernel
theorem dX3_plainTells_0 : decode cX3_plainTells 0 = .ok (.aload_n 0, 1) := by decide +kernel
theorem dX3_plainTells_1 : decode cX3_plainTells 1 = .ok (.iconst 1, 1) := by decide +kernel
theorem dX3_plainTells_2 : decode cX3_plainTells 2 = .ok (.invokevirtual 226, 3) := by decide +kernel
theorem dX3_plainTells_5 : decode cX3_plainTells 5 = .ok (.aload_n 0, 1) := by decide +kernel
theorem dX3_plainTells_6 : decode cX3_plainTells 6 = .ok (.getfield 20, 3) := by decide +kernel
theorem dX3_plainTells_9 : decode cX3_plainTells 9 = .ok (.getfield 87, 3) := by decide +kernel
theorem dX3_plainTells_12 : decode cX3_plainTells 12 = .ok (.iload_n 1, 1) := by decide +kernel
theorem dX3_plainTells_13 : decode cX3_plainTells 13 = .ok (.iaload, 1) := by decide +kernel
theorem dX3_plainTells_14 : decode cX3_plainTells 14 = .ok (.ireturn, 1) := by decide +kernel
theorem dX3_thiefTells_0 : decode cX3_thiefTells 0 = .ok (.aload_n 0, 1) := by decide +kernel
theorem dX3_thiefTells_1 : decode cX3_thiefTells 1 = .ok (.iconst 2, 1) := by decide +kernel
theorem dX3_thiefTells_2 : decode cX3_thiefTells 2 = .ok (.invokevirtual 226, 3) := by decide +kernel
theorem dX3_thiefTells_5 : decode cX3_thiefTells 5 = .ok (.aload_n 0, 1) := by decide +kernel
theorem dX3_thiefTells_6 : decode cX3_thiefTells 6 = .ok (.iload_n 1, 1) := by decide +kernel
theorem dX3_thiefTells_7 : decode cX3_thiefTells 7 = .ok (.invokevirtual 223, 3) := by decide +kernel
theorem dX3_thiefTells_10 : decode cX3_thiefTells 10 = .ok (.bipush 100, 2) := by decide +kernel
theorem dX3_thiefTells_12 : decode cX3_thiefTells 12 = .ok (.iadd, 1) := by decide +kernel
theorem dX3_thiefTells_13 : decode cX3_thiefTells 13 = .ok (.ireturn, 1) := by decide +kernel
theorem dX3_childTells_0 : decode cX3_childTells 0 = .ok (.aload_n 0, 1) := by decide +kernel
theorem dX3_childTells_1 : decode cX3_childTells 1 = .ok (.iconst 3, 1) := by decide +kernel
theorem dX3_childTells_2 : decode cX3_childTells 2 = .ok (.invokevirtual 226, 3) := by decide +kernel
theorem dX3_childTells_5 : decode cX3_childTells 5 = .ok (.aload_n 0, 1) := by decide +kernel
theorem dX3_childTells_6 : decode cX3_childTells 6 = .ok (.iload_n 1, 1) := by decide +kernel
theorem dX3_childTells_7 : decode cX3_childTells 7 = .ok (.invokevirtual 220, 3) := by decide +kernel
theorem dX3_childTells_10 : decode cX3_childTells 10 = .ok (.istore_n 2, 1) := by decide +kernel
theorem dX3_childTells_11 : decode cX3_childTells 11 = .ok (.iload_n 2, 1) := by decide +kernel
theorem dX3_childTells_12 : decode cX3_childTells 12 = .ok (.aload_n 0, 1) := by decide +kernel
theorem dX3_childTells_13 : decode cX3_childTells 13 = .ok (.iload_n 1, 1) := by decide +kernel
theorem dX3_childTells_14 : decode cX3_childTells 14 = .ok (.invokevirtual 223, 3) := by decide +kernel
theorem dX3_childTells_17 : decode cX3_childTells 17 = .ok (.iadd, 1) := by decide +kernel
theorem dX3_childTells_18 : decode cX3_childTells 18 = .ok (.ireturn, 1) := by decide +kernel
theorem dX3_leaveTrace_0 : decode cX3_leaveTrace 0 = .ok (.aload_n 0, 1) := by decide +kernel
theorem dX3_leaveTrace_1 : decode cX3_leaveTrace 1 = .ok (.bipush 31, 2) := by decide +kernel
theorem dX3_leaveTrace_3 : decode cX3_leaveTrace 3 = .ok (.aload_n 0, 1) := by decide +kernel
theorem dX3_leaveTrace_4 : decode cX3_leaveTrace 4 = .ok (.getfield 41, 3) := by decide +kernel
theorem dX3_leaveTrace_7 : decode cX3_leaveTrace 7 = .ok (.imul, 1) := by decide +kernel
theorem dX3_leaveTrace_8 : decode cX3_leaveTrace 8 = .ok (.iload_n 1, 1) := by decide +kernel
theorem dX3_leaveTrace_9 : decode cX3_leaveTrace 9 = .ok (.iadd, 1) := by decide +kernel
theorem dX3_leaveTrace_10 : decode cX3_leaveTrace 10 = .ok (.putfield 41, 3) := by decide +kernel
theorem dX3_leaveTrace_13 : decode cX3_leaveTrace 13 = .ok (.return_, 1) := by decide +kernel
theorem dX3_thickness_0 : decode cX3_thickness 0 = .ok (.iload_n 0, 1) := by decide +kernel
theorem dX3_thickness_1 : decode cX3_thickness 1 = .ok (.lookupswitch 35 #[(1, 27), (2, 31)], 27) := by decide +kernel
theorem dX3_thickness_28 : decode cX3_thickness 28 = .ok (.iload_n 1, 1) := by decide +kernel
theorem dX3_thickness_29 : decode cX3_thickness 29 = .ok (.iconst 1, 1) := by decide +kernel
theorem dX3_thickness_30 : decode cX3_thickness 30 = .ok (.isub, 1) := by decide +kernel
theorem dX3_thickness_31 : decode cX3_thickness 31 = .ok (.ireturn, 1) := by decide +kernel
theorem dX3_thickness_32 : decode cX3_thickness 32 = .ok (.iload_n 1, 1) := by decide +kernel
theorem dX3_thickness_33 : decode cX3_thickness 33 = .ok (.iconst 2, 1) := by decide +kernel
theorem dX3_thickness_34 : decode cX3_thickness 34 = .ok (.idiv, 1) := by decide +kernel
theorem dX3_thickness_35 : decode cX3_thickness 35 = .ok (.ireturn, 1) := by decide +kernel
theorem dX3_thickness_36 : decode cX3_thickness 36 = .ok (.iload_n 1, 1) := by decide +kernel
theorem dX3_thickness_37 : decode cX3_thickness 37 = .ok (.ireturn, 1) := by decide +kernel
theorem dX3_lets_0 : decode cX3_lets 0 = .ok (.iload_n 0, 1) := by decide +kernel
theorem dX3_lets_1 : decode cX3_lets 1 = .ok (.ifCond .le 12, 3) := by decide +kernel
theorem dX3_lets_4 : decode cX3_lets 4 = .ok (.iload_n 0, 1) := by decide +kernel
theorem dX3_lets_5 : decode cX3_lets 5 = .ok (.iload_n 1, 1) := by decide +kernel
theorem dX3_lets_6 : decode cX3_lets 6 = .ok (.if_icmp .lt 7, 3) := by decide +kernel
theorem dX3_lets_9 : decode cX3_lets 9 = .ok (.iconst 1, 1) := by decide +kernel
theorem dX3_lets_10 : decode cX3_lets 10 = .ok (.goto 4, 3) := by decide +kernel
theorem dX3_lets_13 : decode cX3_lets 13 = .ok (.iconst 0, 1) := by decide +kernel
theorem dX3_lets_14 : decode cX3_lets 14 = .ok (.ireturn, 1) := by decide +kernel
theorem dX3_cutTo_0 : decode cX3_cutTo 0 = .ok (.iload_n 0, 1) := by decide +kernel
theorem dX3_cutTo_1 : decode cX3_cutTo 1 = .ok (.lookupswitch 33 #[(0, 27), (1, 30)], 27) := by decide +kernel
theorem dX3_cutTo_28 : decode cX3_cutTo 28 = .ok (.iload_n 1, 1) := by decide +kernel
theorem dX3_cutTo_29 : decode cX3_cutTo 29 = .ok (.i2b, 1) := by decide +kernel
theorem dX3_cutTo_30 : decode cX3_cutTo 30 = .ok (.ireturn, 1) := by decide +kernel
theorem dX3_cutTo_31 : decode cX3_cutTo 31 = .ok (.iload_n 1, 1) := by decide +kernel
theorem dX3_cutTo_32 : decode cX3_cutTo 32 = .ok (.i2s, 1) := by decide +kernel
theorem dX3_cutTo_33 : decode cX3_cutTo 33 = .ok (.ireturn, 1) := by decide +kernel
theorem dX3_cutTo_34 : decode cX3_cutTo 34 = .ok (.iload_n 1, 1) := by decide +kernel
theorem dX3_cutTo_35 : decode cX3_cutTo 35 = .ok (.ireturn, 1) := by decide +kernel
theorem dX3_commonDivisor_0 : decode cX3_commonDivisor 0 = .ok (.iload_n 1, 1) := by decide +kernel
theorem dX3_commonDivisor_1 : decode cX3_commonDivisor 1 = .ok (.istore_n 2, 1) := by decide +kernel
theorem dX3_commonDivisor_2 : decode cX3_commonDivisor 2 = .ok (.iload_n 2, 1) := by decide +kernel
theorem dX3_commonDivisor_3 : decode cX3_commonDivisor 3 = .ok (.iconst 1, 1) := by decide +kernel
theorem dX3_commonDivisor_4 : decode cX3_commonDivisor 4 = .ok (.if_icmp .le 23, 3) := by decide +kernel
theorem dX3_commonDivisor_7 : decode cX3_commonDivisor 7 = .ok (.iload_n 0, 1) := by decide +kernel
theorem dX3_commonDivisor_8 : decode cX3_commonDivisor 8 = .ok (.iload_n 2, 1) := by decide +kernel
theorem dX3_commonDivisor_9 : decode cX3_commonDivisor 9 = .ok (.irem, 1) := by decide +kernel
theorem dX3_commonDivisor_10 : decode cX3_commonDivisor 10 = .ok (.ifCond .ne 11, 3) := by decide +kernel
theorem dX3_commonDivisor_13 : decode cX3_commonDivisor 13 = .ok (.iload_n 1, 1) := by decide +kernel
theorem dX3_commonDivisor_14 : decode cX3_commonDivisor 14 = .ok (.iload_n 2, 1) := by decide +kernel
theorem dX3_commonDivisor_15 : decode cX3_commonDivisor 15 = .ok (.irem, 1) := by decide +kernel
theorem dX3_commonDivisor_16 : decode cX3_commonDivisor 16 = .ok (.ifCond .ne 5, 3) := by decide +kernel
theorem dX3_commonDivisor_19 : decode cX3_commonDivisor 19 = .ok (.iload_n 2, 1) := by decide +kernel
theorem dX3_commonDivisor_20 : decode cX3_commonDivisor 20 = .ok (.ireturn, 1) := by decide +kernel
theorem dX3_commonDivisor_21 : decode cX3_commonDivisor 21 = .ok (.iinc 2 (-1), 3) := by decide +kernel
theorem dX3_commonDivisor_24 : decode cX3_commonDivisor 24 = .ok (.goto (-22), 3) := by decide +kernel
theorem dX3_commonDivisor_27 : decode cX3_commonDivisor 27 = .ok (.iconst 1, 1) := by decide +kernel
theorem dX3_commonDivisor_28 : decode cX3_commonDivisor 28 = .ok (.ireturn, 1) := by decide +kernel
theorem dX3_digit_0 : decode cX3_digit 0 = .ok (.iload_n 0, 1) := by decide +kernel
theorem dX3_digit_1 : decode cX3_digit 1 = .ok (.bipush 48, 2) := by decide +kernel
theorem dX3_digit_3 : decode cX3_digit 3 = .ok (.iload_n 1, 1) := by decide +kernel
theorem dX3_digit_4 : decode cX3_digit 4 = .ok (.iadd, 1) := by decide +kernel
theorem dX3_digit_5 : decode cX3_digit 5 = .ok (.if_icmp .lt 18, 3) := by decide +kernel
theorem dX3_digit_8 : decode cX3_digit 8 = .ok (.iload_n 0, 1) := by decide +kernel
theorem dX3_digit_9 : decode cX3_digit 9 = .ok (.bipush 48, 2) := by decide +kernel
theorem dX3_digit_11 : decode cX3_digit 11 = .ok (.iload_n 2, 1) := by decide +kernel
theorem dX3_digit_12 : decode cX3_digit 12 = .ok (.iadd, 1) := by decide +kernel
theorem dX3_digit_13 : decode cX3_digit 13 = .ok (.if_icmp .gt 10, 3) := by decide +kernel
theorem dX3_digit_16 : decode cX3_digit 16 = .ok (.iload_n 0, 1) := by decide +kernel
theorem dX3_digit_17 : decode cX3_digit 17 = .ok (.bipush 48, 2) := by decide +kernel
theorem dX3_digit_19 : decode cX3_digit 19 = .ok (.isub, 1) := by decide +kernel
theorem dX3_digit_20 : decode cX3_digit 20 = .ok (.goto 5, 3) := by decide +kernel
theorem dX3_digit_23 : decode cX3_digit 23 = .ok (.bipush (-9), 2) := by decide +kernel
theorem dX3_digit_25 : decode cX3_digit 25 = .ok (.ireturn, 1) := by decide +kernel
theorem dJ6_bitCount_0f7a4_0 : decode cJ6_bitCount_0f7a4 0 = .ok (.iload_n 0, 1) := by decide +kernel
theorem dJ6_bitCount_0f7a4_1 : decode cJ6_bitCount_0f7a4 1 = .ok (.iload_n 0, 1) := by decide +kernel
theorem dJ6_bitCount_0f7a4_2 : decode cJ6_bitCount_0f7a4 2 = .ok (.iconst 1, 1) := by decide +kernel
theorem dJ6_bitCount_0f7a4_3 : decode cJ6_bitCount_0f7a4 3 = .ok (.iushr, 1) := by decide +kernel
theorem dJ6_bitCount_0f7a4_4 : decode cJ6_bitCount_0f7a4 4 = .ok (.ldc_w 265, 3) := by decide +kernel
theorem dJ6_bitCount_0f7a4_7 : decode cJ6_bitCount_0f7a4 7 = .ok (.iand, 1) := by decide +kernel
theorem dJ6_bitCount_0f7a4_8 : decode cJ6_bitCount_0f7a4 8 = .ok (.isub, 1) := by decide +kernel
theorem dJ6_bitCount_0f7a4_9 : decode cJ6_bitCount_0f7a4 9 = .ok (.istore_n 0, 1) := by decide +kernel
theorem dJ6_bitCount_0f7a4_10 : decode cJ6_bitCount_0f7a4 10 = .ok (.iload_n 0, 1) := by decide +kernel
theorem dJ6_bitCount_0f7a4_11 : decode cJ6_bitCount_0f7a4 11 = .ok (.ldc_w 266, 3) := by decide +kernel
theorem dJ6_bitCount_0f7a4_14 : decode cJ6_bitCount_0f7a4 14 = .ok (.iand, 1) := by decide +kernel
theorem dJ6_bitCount_0f7a4_15 : decode cJ6_bitCount_0f7a4 15 = .ok (.iload_n 0, 1) := by decide +kernel
theorem dJ6_bitCount_0f7a4_16 : decode cJ6_bitCount_0f7a4 16 = .ok (.iconst 2, 1) := by decide +kernel
theorem dJ6_bitCount_0f7a4_17 : decode cJ6_bitCount_0f7a4 17 = .ok (.iushr, 1) := by decide +kernel
theorem dJ6_bitCount_0f7a4_18 : decode cJ6_bitCount_0f7a4 18 = .ok (.ldc_w 266, 3) := by decide +kernel
theorem dJ6_bitCount_0f7a4_21 : decode cJ6_bitCount_0f7a4 21 = .ok (.iand, 1) := by decide +kernel
theorem dJ6_bitCount_0f7a4_22 : decode cJ6_bitCount_0f7a4 22 = .ok (.iadd, 1) := by decide +kernel
theorem dJ6_bitCount_0f7a4_23 : decode cJ6_bitCount_0f7a4 23 = .ok (.istore_n 0, 1) := by decide +kernel
theorem dJ6_bitCount_0f7a4_24 : decode cJ6_bitCount_0f7a4 24 = .ok (.iload_n 0, 1) := by decide +kernel
theorem dJ6_bitCount_0f7a4_25 : decode cJ6_bitCount_0f7a4 25 = .ok (.iload_n 0, 1) := by decide +kernel
theorem dJ6_bitCount_0f7a4_26 : decode cJ6_bitCount_0f7a4 26 = .ok (.iconst 4, 1) := by decide +kernel
theorem dJ6_bitCount_0f7a4_27 : decode cJ6_bitCount_0f7a4 27 = .ok (.iushr, 1) := by decide +kernel
theorem dJ6_bitCount_0f7a4_28 : decode cJ6_bitCount_0f7a4 28 = .ok (.iadd, 1) := by decide +kernel
theorem dJ6_bitCount_0f7a4_29 : decode cJ6_bitCount_0f7a4 29 = .ok (.ldc_w 267, 3) := by decide +kernel
theorem dJ6_bitCount_0f7a4_32 : decode cJ6_bitCount_0f7a4 32 = .ok (.iand, 1) := by decide +kernel
theorem dJ6_bitCount_0f7a4_33 : decode cJ6_bitCount_0f7a4 33 = .ok (.istore_n 0, 1) := by decide +kernel
theorem dJ6_bitCount_0f7a4_34 : decode cJ6_bitCount_0f7a4 34 = .ok (.iload_n 0, 1) := by decide +kernel
theorem dJ6_bitCount_0f7a4_35 : decode cJ6_bitCount_0f7a4 35 = .ok (.iload_n 0, 1) := by decide +kernel
theorem dJ6_bitCount_0f7a4_36 : decode cJ6_bitCount_0f7a4 36 = .ok (.bipush 8, 2) := by decide +kernel
theorem dJ6_bitCount_0f7a4_38 : decode cJ6_bitCount_0f7a4 38 = .ok (.iushr, 1) := by decide +kernel
theorem dJ6_bitCount_0f7a4_39 : decode cJ6_bitCount_0f7a4 39 = .ok (.iadd, 1) := by decide +kernel
theorem dJ6_bitCount_0f7a4_40 : decode cJ6_bitCount_0f7a4 40 = .ok (.istore_n 0, 1) := by decide +kernel
theorem dJ6_bitCount_0f7a4_41 : decode cJ6_bitCount_0f7a4 41 = .ok (.iload_n 0, 1) := by decide +kernel
theorem dJ6_bitCount_0f7a4_42 : decode cJ6_bitCount_0f7a4 42 = .ok (.iload_n 0, 1) := by decide +kernel
theorem dJ6_bitCount_0f7a4_43 : decode cJ6_bitCount_0f7a4 43 = .ok (.bipush 16, 2) := by decide +kernel
theorem dJ6_bitCount_0f7a4_45 : decode cJ6_bitCount_0f7a4 45 = .ok (.iushr, 1) := by decide +kernel
theorem dJ6_bitCount_0f7a4_46 : decode cJ6_bitCount_0f7a4 46 = .ok (.iadd, 1) := by decide +kernel
theorem dJ6_bitCount_0f7a4_47 : decode cJ6_bitCount_0f7a4 47 = .ok (.istore_n 0, 1) := by decide +kernel
theorem dJ6_bitCount_0f7a4_48 : decode cJ6_bitCount_0f7a4 48 = .ok (.iload_n 0, 1) := by decide +kernel
theorem dJ6_bitCount_0f7a4_49 : decode cJ6_bitCount_0f7a4 49 = .ok (.bipush 63, 2) := by decide +kernel
theorem dJ6_bitCount_0f7a4_51 : decode cJ6_bitCount_0f7a4 51 = .ok (.iand, 1) := by decide +kernel
theorem dJ6_bitCount_0f7a4_52 : decode cJ6_bitCount_0f7a4 52 = .ok (.ireturn, 1) := by decide +kernel
theorem dJ9_max_7cf53_0 : decode cJ9_max_7cf53 0 = .ok (.iload_n 0, 1) := by decide +kernel
theorem dJ9_max_7cf53_1 : decode cJ9_max_7cf53 1 = .ok (.iload_n 1, 1) := by decide +kernel
theorem dJ9_max_7cf53_2 : decode cJ9_max_7cf53 2 = .ok (.if_icmp .lt 7, 3) := by decide +kernel
theorem dJ9_max_7cf53_5 : decode cJ9_max_7cf53 5 = .ok (.iload_n 0, 1) := by decide +kernel
theorem dJ9_max_7cf53_6 : decode cJ9_max_7cf53 6 = .ok (.goto 4, 3) := by decide +kernel
theorem dJ9_max_7cf53_9 : decode cJ9_max_7cf53 9 = .ok (.iload_n 1, 1) := by decide +kernel
theorem dJ9_max_7cf53_10 : decode cJ9_max_7cf53 10 = .ok (.ireturn, 1) := by decide +kernel
theorem dJ9_min_7cf53_0 : decode cJ9_min_7cf53 0 = .ok (.iload_n 0, 1) := by decide +kernel
theorem dJ9_min_7cf53_1 : decode cJ9_min_7cf53 1 = .ok (.iload_n 1, 1) := by decide +kernel
theorem dJ9_min_7cf53_2 : decode cJ9_min_7cf53 2 = .ok (.if_icmp .gt 7, 3) := by decide +kernel
theorem dJ9_min_7cf53_5 : decode cJ9_min_7cf53 5 = .ok (.iload_n 0, 1) := by decide +kernel
theorem dJ9_min_7cf53_6 : decode cJ9_min_7cf53 6 = .ok (.goto 4, 3) := by decide +kernel
theorem dJ9_min_7cf53_9 : decode cJ9_min_7cf53 9 = .ok (.iload_n 1, 1) := by decide +kernel
theorem dJ9_min_7cf53_10 : decode cJ9_min_7cf53 10 = .ok (.ireturn, 1) := by decide +kernel
theorem dJ7_fill_53178_0 : decode cJ7_fill_53178 0 = .ok (.iconst 0, 1) := by decide +kernel
theorem dJ7_fill_53178_1 : decode cJ7_fill_53178 1 = .ok (.istore_n 2, 1) := by decide +kernel
theorem dJ7_fill_53178_2 : decode cJ7_fill_53178 2 = .ok (.aload_n 0, 1) := by decide +kernel
theorem dJ7_fill_53178_3 : decode cJ7_fill_53178 3 = .ok (.arraylength, 1) := by decide +kernel
theorem dJ7_fill_53178_4 : decode cJ7_fill_53178 4 = .ok (.istore_n 3, 1) := by decide +kernel
theorem dJ7_fill_53178_5 : decode cJ7_fill_53178 5 = .ok (.iload_n 2, 1) := by decide +kernel
theorem dJ7_fill_53178_6 : decode cJ7_fill_53178 6 = .ok (.iload_n 3, 1) := by decide +kernel
theorem dJ7_fill_53178_7 : decode cJ7_fill_53178 7 = .ok (.if_icmp .ge 13, 3) := by decide +kernel
theorem dJ7_fill_53178_10 : decode cJ7_fill_53178 10 = .ok (.aload_n 0, 1) := by decide +kernel
theorem dJ7_fill_53178_11 : decode cJ7_fill_53178 11 = .ok (.iload_n 2, 1) := by decide +kernel
theorem dJ7_fill_53178_12 : decode cJ7_fill_53178 12 = .ok (.iload_n 1, 1) := by decide +kernel
theorem dJ7_fill_53178_13 : decode cJ7_fill_53178 13 = .ok (.iastore, 1) := by decide +kernel
theorem dJ7_fill_53178_14 : decode cJ7_fill_53178 14 = .ok (.iinc 2 1, 3) := by decide +kernel
theorem dJ7_fill_53178_17 : decode cJ7_fill_53178 17 = .ok (.goto (-12), 3) := by decide +kernel
theorem dJ7_fill_53178_20 : decode cJ7_fill_53178 20 = .ok (.return_, 1) := by decide +kernel
