theorem dX0_init_0 : decode cX0_init 0 = .ok (.aload_n 0, 1) := by decide +kernel
theorem dX0_init_1 : decode cX0_init 1 = .ok (.invokespecial 1, 3) := by decide +kernel
theorem dX0_init_4 : decode cX0_init 4 = .ok (.return_, 1) := by decide +kernel
theorem dX0_tell_0 : decode cX0_tell 0 = .ok (.aload_n 0, 1) := by decide +kernel
theorem dX0_tell_1 : decode cX0_tell 1 = .ok (.iconst 1, 1) := by decide +kernel
theorem dX0_tell_2 : decode cX0_tell 2 = .ok (.putfield 7, 3) := by decide +kernel
theorem dX0_tell_5 : decode cX0_tell 5 = .ok (.aload_n 0, 1) := by decide +kernel
theorem dX0_tell_6 : decode cX0_tell 6 = .ok (.iload_n 1, 1) := by decide +kernel
theorem dX0_tell_7 : decode cX0_tell 7 = .ok (.putfield 13, 3) := by decide +kernel
theorem dX0_tell_10 : decode cX0_tell 10 = .ok (.aload_n 0, 1) := by decide +kernel
theorem dX0_tell_11 : decode cX0_tell 11 = .ok (.iload_n 2, 1) := by decide +kernel
theorem dX0_tell_12 : decode cX0_tell 12 = .ok (.putfield 17, 3) := by decide +kernel
theorem dX0_tell_15 : decode cX0_tell 15 = .ok (.aload_n 0, 1) := by decide +kernel
theorem dX0_tell_16 : decode cX0_tell 16 = .ok (.iload_n 3, 1) := by decide +kernel
theorem dX0_tell_17 : decode cX0_tell 17 = .ok (.putfield 20, 3) := by decide +kernel
theorem dX0_tell_20 : decode cX0_tell 20 = .ok (.aload_n 0, 1) := by decide +kernel
theorem dX0_tell_21 : decode cX0_tell 21 = .ok (.iload 4, 2) := by decide +kernel
theorem dX0_tell_23 : decode cX0_tell 23 = .ok (.putfield 23, 3) := by decide +kernel
theorem dX0_tell_26 : decode cX0_tell 26 = .ok (.return_, 1) := by decide +kernel
theorem dX0_beginIfDue_0 : decode cX0_beginIfDue 0 = .ok (.iload_n 1, 1) := by decide +kernel
theorem dX0_beginIfDue_1 : decode cX0_beginIfDue 1 = .ok (.aload_n 0, 1) := by decide +kernel
theorem dX0_beginIfDue_2 : decode cX0_beginIfDue 2 = .ok (.getfield 23, 3) := by decide +kernel
theorem dX0_beginIfDue_5 : decode cX0_beginIfDue 5 = .ok (.isub, 1) := by decide +kernel
theorem dX0_beginIfDue_6 : decode cX0_beginIfDue 6 = .ok (.aload_n 0, 1) := by decide +kernel
theorem dX0_beginIfDue_7 : decode cX0_beginIfDue 7 = .ok (.getfield 13, 3) := by decide +kernel
theorem dX0_beginIfDue_10 : decode cX0_beginIfDue 10 = .ok (.irem, 1) := by decide +kernel
theorem dX0_beginIfDue_11 : decode cX0_beginIfDue 11 = .ok (.ifCond .eq 4, 3) := by decide +kernel
theorem dX0_beginIfDue_14 : decode cX0_beginIfDue 14 = .ok (.return_, 1) := by decide +kernel
theorem dX0_beginIfDue_15 : decode cX0_beginIfDue 15 = .ok (.aload_n 0, 1) := by decide +kernel
theorem dX0_beginIfDue_16 : decode cX0_beginIfDue 16 = .ok (.getfield 26, 3) := by decide +kernel
theorem dX0_beginIfDue_19 : decode cX0_beginIfDue 19 = .ok (.ifCond .le 13, 3) := by decide +kernel
theorem dX0_beginIfDue_22 : decode cX0_beginIfDue 22 = .ok (.aload_n 0, 1) := by decide +kernel
theorem dX0_beginIfDue_23 : decode cX0_beginIfDue 23 = .ok (.dup, 1) := by decide +kernel
theorem dX0_beginIfDue_24 : decode cX0_beginIfDue 24 = .ok (.getfield 29, 3) := by decide +kernel
theorem dX0_beginIfDue_27 : decode cX0_beginIfDue 27 = .ok (.iconst 1, 1) := by decide +kernel
theorem dX0_beginIfDue_28 : decode cX0_beginIfDue 28 = .ok (.iadd, 1) := by decide +kernel
theorem dX0_beginIfDue_29 : decode cX0_beginIfDue 29 = .ok (.putfield 29, 3) := by decide +kernel
theorem dX0_beginIfDue_32 : decode cX0_beginIfDue 32 = .ok (.aload_n 0, 1) := by decide +kernel
theorem dX0_beginIfDue_33 : decode cX0_beginIfDue 33 = .ok (.aload_n 0, 1) := by decide +kernel
theorem dX0_beginIfDue_34 : decode cX0_beginIfDue 34 = .ok (.getfield 17, 3) := by decide +kernel
theorem dX0_beginIfDue_37 : decode cX0_beginIfDue 37 = .ok (.putfield 26, 3) := by decide +kernel
theorem dX0_beginIfDue_40 : decode cX0_beginIfDue 40 = .ok (.return_, 1) := by decide +kernel
theorem dX0_work_0 : decode cX0_work 0 = .ok (.aload_n 0, 1) := by decide +kernel
theorem dX0_work_1 : decode cX0_work 1 = .ok (.dup, 1) := by decide +kernel
theorem dX0_work_2 : decode cX0_work 2 = .ok (.getfield 26, 3) := by decide +kernel
theorem dX0_work_5 : decode cX0_work 5 = .ok (.iconst 1, 1) := by decide +kernel
theorem dX0_work_6 : decode cX0_work 6 = .ok (.isub, 1) := by decide +kernel
theorem dX0_work_7 : decode cX0_work 7 = .ok (.putfield 26, 3) := by decide +kernel
theorem dX0_work_10 : decode cX0_work 10 = .ok (.aload_n 0, 1) := by decide +kernel
theorem dX0_work_11 : decode cX0_work 11 = .ok (.getfield 26, 3) := by decide +kernel
theorem dX0_work_14 : decode cX0_work 14 = .ok (.ifCond .ne 13, 3) := by decide +kernel
theorem dX0_work_17 : decode cX0_work 17 = .ok (.aload_n 0, 1) := by decide +kernel
theorem dX0_work_18 : decode cX0_work 18 = .ok (.dup, 1) := by decide +kernel
theorem dX0_work_19 : decode cX0_work 19 = .ok (.getfield 32, 3) := by decide +kernel
theorem dX0_work_22 : decode cX0_work 22 = .ok (.iconst 1, 1) := by decide +kernel
theorem dX0_work_23 : decode cX0_work 23 = .ok (.iadd, 1) := by decide +kernel
theorem dX0_work_24 : decode cX0_work 24 = .ok (.putfield 32, 3) := by decide +kernel
theorem dX0_work_27 : decode cX0_work 27 = .ok (.return_, 1) := by decide +kernel
theorem dX1_init_0 : decode cX1_init 0 = .ok (.aload_n 0, 1) := by decide +kernel
theorem dX1_init_1 : decode cX1_init 1 = .ok (.invokespecial 3, 3) := by decide +kernel
theorem dX1_init_4 : decode cX1_init 4 = .ok (.aload_n 0, 1) := by decide +kernel
theorem dX1_init_5 : decode cX1_init 5 = .ok (.bipush 16, 2) := by decide +kernel
theorem dX1_init_7 : decode cX1_init 7 = .ok (.newarray .int, 2) := by decide +kernel
theorem dX1_init_9 : decode cX1_init 9 = .ok (.putfield 9, 3) := by decide +kernel
theorem dX1_init_12 : decode cX1_init 12 = .ok (.aload_n 0, 1) := by decide +kernel
theorem dX1_init_13 : decode cX1_init 13 = .ok (.bipush 16, 2) := by decide +kernel
theorem dX1_init_15 : decode cX1_init 15 = .ok (.newarray .int, 2) := by decide +kernel
theorem dX1_init_17 : decode cX1_init 17 = .ok (.putfield 15, 3) := by decide +kernel
theorem dX1_init_20 : decode cX1_init 20 = .ok (.return_, 1) := by decide +kernel
theorem dX1_add_0 : decode cX1_add 0 = .ok (.aload_n 0, 1) := by decide +kernel
theorem dX1_add_1 : decode cX1_add 1 = .ok (.getfield 18, 3) := by decide +kernel
theorem dX1_add_4 : decode cX1_add 4 = .ok (.iconst 1, 1) := by decide +kernel
theorem dX1_add_5 : decode cX1_add 5 = .ok (.isub, 1) := by decide +kernel
theorem dX1_add_6 : decode cX1_add 6 = .ok (.istore_n 2, 1) := by decide +kernel
theorem dX1_add_7 : decode cX1_add 7 = .ok (.iload_n 2, 1) := by decide +kernel
theorem dX1_add_8 : decode cX1_add 8 = .ok (.ifCond .lt 49, 3) := by decide +kernel
theorem dX1_add_11 : decode cX1_add 11 = .ok (.aload_n 0, 1) := by decide +kernel
theorem dX1_add_12 : decode cX1_add 12 = .ok (.getfield 9, 3) := by decide +kernel
theorem dX1_add_15 : decode cX1_add 15 = .ok (.iload_n 2, 1) := by decide +kernel
theorem dX1_add_16 : decode cX1_add 16 = .ok (.iaload, 1) := by decide +kernel
theorem dX1_add_17 : decode cX1_add 17 = .ok (.iload_n 1, 1) := by decide +kernel
theorem dX1_add_18 : decode cX1_add 18 = .ok (.if_icmp .eq 12, 3) := by decide +kernel
theorem dX1_add_21 : decode cX1_add 21 = .ok (.aload_n 0, 1) := by decide +kernel
theorem dX1_add_22 : decode cX1_add 22 = .ok (.getfield 18, 3) := by decide +kernel
theorem dX1_add_25 : decode cX1_add 25 = .ok (.bipush 16, 2) := by decide +kernel
theorem dX1_add_27 : decode cX1_add 27 = .ok (.if_icmp .lt 30, 3) := by decide +kernel
theorem dX1_add_30 : decode cX1_add 30 = .ok (.aload_n 0, 1) := by decide +kernel
theorem dX1_add_31 : decode cX1_add 31 = .ok (.getfield 15, 3) := by decide +kernel
theorem dX1_add_34 : decode cX1_add 34 = .ok (.iload_n 2, 1) := by decide +kernel
theorem dX1_add_35 : decode cX1_add 35 = .ok (.dup2, 1) := by decide +kernel
theorem dX1_add_36 : decode cX1_add 36 = .ok (.iaload, 1) := by decide +kernel
theorem dX1_add_37 : decode cX1_add 37 = .ok (.iconst 1, 1) := by decide +kernel
theorem dX1_add_38 : decode cX1_add 38 = .ok (.iadd, 1) := by decide +kernel
theorem dX1_add_39 : decode cX1_add 39 = .ok (.iastore, 1) := by decide +kernel
theorem dX1_add_40 : decode cX1_add 40 = .ok (.aload_n 0, 1) := by decide +kernel
theorem dX1_add_41 : decode cX1_add 41 = .ok (.getfield 9, 3) := by decide +kernel
theorem dX1_add_44 : decode cX1_add 44 = .ok (.iload_n 2, 1) := by decide +kernel
theorem dX1_add_45 : decode cX1_add 45 = .ok (.aload_n 0, 1) := by decide +kernel
theorem dX1_add_46 : decode cX1_add 46 = .ok (.getfield 9, 3) := by decide +kernel
theorem dX1_add_49 : decode cX1_add 49 = .ok (.iload_n 2, 1) := by decide +kernel
theorem dX1_add_50 : decode cX1_add 50 = .ok (.iaload, 1) := by decide +kernel
theorem dX1_add_51 : decode cX1_add 51 = .ok (.iload_n 1, 1) := by decide +kernel
theorem dX1_add_52 : decode cX1_add 52 = .ok (.invokestatic 22, 3) := by decide +kernel
theorem dX1_add_55 : decode cX1_add 55 = .ok (.iastore, 1) := by decide +kernel
theorem dX1_add_56 : decode cX1_add 56 = .ok (.return_, 1) := by decide +kernel
theorem dX1_add_57 : decode cX1_add 57 = .ok (.aload_n 0, 1) := by decide +kernel
theorem dX1_add_58 : decode cX1_add 58 = .ok (.getfield 9, 3) := by decide +kernel
theorem dX1_add_61 : decode cX1_add 61 = .ok (.aload_n 0, 1) := by decide +kernel
theorem dX1_add_62 : decode cX1_add 62 = .ok (.getfield 18, 3) := by decide +kernel
theorem dX1_add_65 : decode cX1_add 65 = .ok (.iload_n 1, 1) := by decide +kernel
theorem dX1_add_66 : decode cX1_add 66 = .ok (.iastore, 1) := by decide +kernel
theorem dX1_add_67 : decode cX1_add 67 = .ok (.aload_n 0, 1) := by decide +kernel
theorem dX1_add_68 : decode cX1_add 68 = .ok (.getfield 15, 3) := by decide +kernel
theorem dX1_add_71 : decode cX1_add 71 = .ok (.aload_n 0, 1) := by decide +kernel
theorem dX1_add_72 : decode cX1_add 72 = .ok (.getfield 18, 3) := by decide +kernel
theorem dX1_add_75 : decode cX1_add 75 = .ok (.iconst 1, 1) := by decide +kernel
theorem dX1_add_76 : decode cX1_add 76 = .ok (.iastore, 1) := by decide +kernel
theorem dX1_add_77 : decode cX1_add 77 = .ok (.aload_n 0, 1) := by decide +kernel
theorem dX1_add_78 : decode cX1_add 78 = .ok (.dup, 1) := by decide +kernel
theorem dX1_add_79 : decode cX1_add 79 = .ok (.getfield 18, 3) := by decide +kernel
theorem dX1_add_82 : decode cX1_add 82 = .ok (.iconst 1, 1) := by decide +kernel
theorem dX1_add_83 : decode cX1_add 83 = .ok (.iadd, 1) := by decide +kernel
theorem dX1_add_84 : decode cX1_add 84 = .ok (.putfield 18, 3) := by decide +kernel
theorem dX1_add_87 : decode cX1_add 87 = .ok (.return_, 1) := by decide +kernel
theorem dX1_removeUpTo_0 : decode cX1_removeUpTo 0 = .ok (.iconst 0, 1) := by decide +kernel
theorem dX1_removeUpTo_1 : decode cX1_removeUpTo 1 = .ok (.istore_n 2, 1) := by decide +kernel
theorem dX1_removeUpTo_2 : decode cX1_removeUpTo 2 = .ok (.iconst 0, 1) := by decide +kernel
theorem dX1_removeUpTo_3 : decode cX1_removeUpTo 3 = .ok (.istore_n 3, 1) := by decide +kernel
theorem dX1_removeUpTo_4 : decode cX1_removeUpTo 4 = .ok (.iconst 0, 1) := by decide +kernel
theorem dX1_removeUpTo_5 : decode cX1_removeUpTo 5 = .ok (.istore 4, 2) := by decide +kernel
theorem dX1_removeUpTo_7 : decode cX1_removeUpTo 7 = .ok (.iload 4, 2) := by decide +kernel
theorem dX1_removeUpTo_9 : decode cX1_removeUpTo 9 = .ok (.aload_n 0, 1) := by decide +kernel
theorem dX1_removeUpTo_10 : decode cX1_removeUpTo 10 = .ok (.getfield 18, 3) := by decide +kernel
theorem dX1_removeUpTo_13 : decode cX1_removeUpTo 13 = .ok (.if_icmp .ge 62, 3) := by decide +kernel
theorem dX1_removeUpTo_16 : decode cX1_removeUpTo 16 = .ok (.aload_n 0, 1) := by decide +kernel
theorem dX1_removeUpTo_17 : decode cX1_removeUpTo 17 = .ok (.getfield 9, 3) := by decide +kernel
theorem dX1_removeUpTo_20 : decode cX1_removeUpTo 20 = .ok (.iload 4, 2) := by decide +kernel
theorem dX1_removeUpTo_22 : decode cX1_removeUpTo 22 = .ok (.iaload, 1) := by decide +kernel
theorem dX1_removeUpTo_23 : decode cX1_removeUpTo 23 = .ok (.iload_n 1, 1) := by decide +kernel
theorem dX1_removeUpTo_24 : decode cX1_removeUpTo 24 = .ok (.if_icmp .gt 16, 3) := by decide +kernel
theorem dX1_removeUpTo_27 : decode cX1_removeUpTo 27 = .ok (.iload_n 2, 1) := by decide +kernel
theorem dX1_removeUpTo_28 : decode cX1_removeUpTo 28 = .ok (.aload_n 0, 1) := by decide +kernel
theorem dX1_removeUpTo_29 : decode cX1_removeUpTo 29 = .ok (.getfield 15, 3) := by decide +kernel
theorem dX1_removeUpTo_32 : decode cX1_removeUpTo 32 = .ok (.iload 4, 2) := by decide +kernel
theorem dX1_removeUpTo_34 : decode cX1_removeUpTo 34 = .ok (.iaload, 1) := by decide +kernel
theorem dX1_removeUpTo_35 : decode cX1_removeUpTo 35 = .ok (.iadd, 1) := by decide +kernel
theorem dX1_removeUpTo_36 : decode cX1_removeUpTo 36 = .ok (.istore_n 2, 1) := by decide +kernel
theorem dX1_removeUpTo_37 : decode cX1_removeUpTo 37 = .ok (.goto 32, 3) := by decide +kernel
theorem dX1_removeUpTo_40 : decode cX1_removeUpTo 40 = .ok (.aload_n 0, 1) := by decide +kernel
theorem dX1_removeUpTo_41 : decode cX1_removeUpTo 41 = .ok (.getfield 9, 3) := by decide +kernel
theorem dX1_removeUpTo_44 : decode cX1_removeUpTo 44 = .ok (.iload_n 3, 1) := by decide +kernel
theorem dX1_removeUpTo_45 : decode cX1_removeUpTo 45 = .ok (.aload_n 0, 1) := by decide +kernel
theorem dX1_removeUpTo_46 : decode cX1_removeUpTo 46 = .ok (.getfield 9, 3) := by decide +kernel
theorem dX1_removeUpTo_49 : decode cX1_removeUpTo 49 = .ok (.iload 4, 2) := by decide +kernel
theorem dX1_removeUpTo_51 : decode cX1_removeUpTo 51 = .ok (.iaload, 1) := by decide +kernel
theorem dX1_removeUpTo_52 : decode cX1_removeUpTo 52 = .ok (.iastore, 1) := by decide +kernel
theorem dX1_removeUpTo_53 : decode cX1_removeUpTo 53 = .ok (.aload_n 0, 1) := by decide +kernel
theorem dX1_removeUpTo_54 : decode cX1_removeUpTo 54 = .ok (.getfield 15, 3) := by decide +kernel
theorem dX1_removeUpTo_57 : decode cX1_removeUpTo 57 = .ok (.iload_n 3, 1) := by decide +kernel
theorem dX1_removeUpTo_58 : decode cX1_removeUpTo 58 = .ok (.aload_n 0, 1) := by decide +kernel
theorem dX1_removeUpTo_59 : decode cX1_removeUpTo 59 = .ok (.getfield 15, 3) := by decide +kernel
theorem dX1_removeUpTo_62 : decode cX1_removeUpTo 62 = .ok (.iload 4, 2) := by decide +kernel
theorem dX1_removeUpTo_64 : decode cX1_removeUpTo 64 = .ok (.iaload, 1) := by decide +kernel
theorem dX1_removeUpTo_65 : decode cX1_removeUpTo 65 = .ok (.iastore, 1) := by decide +kernel
theorem dX1_removeUpTo_66 : decode cX1_removeUpTo 66 = .ok (.iinc 3 1, 3) := by decide +kernel
theorem dX1_removeUpTo_69 : decode cX1_removeUpTo 69 = .ok (.iinc 4 1, 3) := by decide +kernel
theorem dX1_removeUpTo_72 : decode cX1_removeUpTo 72 = .ok (.goto (-65), 3) := by decide +kernel
theorem dX1_removeUpTo_75 : decode cX1_removeUpTo 75 = .ok (.aload_n 0, 1) := by decide +kernel
theorem dX1_removeUpTo_76 : decode cX1_removeUpTo 76 = .ok (.iload_n 3, 1) := by decide +kernel
theorem dX1_removeUpTo_77 : decode cX1_removeUpTo 77 = .ok (.putfield 18, 3) := by decide +kernel
theorem dX1_removeUpTo_80 : decode cX1_removeUpTo 80 = .ok (.iload_n 2, 1) := by decide +kernel
theorem dX1_removeUpTo_81 : decode cX1_removeUpTo 81 = .ok (.ireturn, 1) := by decide +kernel
theorem dX1_nextTime_0 : decode cX1_nextTime 0 = .ok (.aload_n 0, 1) := by decide +kernel
theorem dX1_nextTime_1 : decode cX1_nextTime 1 = .ok (.getfield 18, 3) := by decide +kernel
theorem dX1_nextTime_4 : decode cX1_nextTime 4 = .ok (.ifCond .le 15, 3) := by decide +kernel
theorem dX1_nextTime_7 : decode cX1_nextTime 7 = .ok (.aload_n 0, 1) := by decide +kernel
theorem dX1_nextTime_8 : decode cX1_nextTime 8 = .ok (.getfield 9, 3) := by decide +kernel
theorem dX1_nextTime_11 : decode cX1_nextTime 11 = .ok (.aload_n 0, 1) := by decide +kernel
theorem dX1_nextTime_12 : decode cX1_nextTime 12 = .ok (.invokevirtual 28, 3) := by decide +kernel
theorem dX1_nextTime_15 : decode cX1_nextTime 15 = .ok (.iaload, 1) := by decide +kernel
theorem dX1_nextTime_16 : decode cX1_nextTime 16 = .ok (.goto 4, 3) := by decide +kernel
theorem dX1_nextTime_19 : decode cX1_nextTime 19 = .ok (.iconst (-1), 1) := by decide +kernel
theorem dX1_nextTime_20 : decode cX1_nextTime 20 = .ok (.ireturn, 1) := by decide +kernel
theorem dX1_nextAmount_0 : decode cX1_nextAmount 0 = .ok (.aload_n 0, 1) := by decide +kernel
theorem dX1_nextAmount_1 : decode cX1_nextAmount 1 = .ok (.getfield 18, 3) := by decide +kernel
theorem dX1_nextAmount_4 : decode cX1_nextAmount 4 = .ok (.ifCond .le 15, 3) := by decide +kernel
theorem dX1_nextAmount_7 : decode cX1_nextAmount 7 = .ok (.aload_n 0, 1) := by decide +kernel
theorem dX1_nextAmount_8 : decode cX1_nextAmount 8 = .ok (.getfield 15, 3) := by decide +kernel
theorem dX1_nextAmount_11 : decode cX1_nextAmount 11 = .ok (.aload_n 0, 1) := by decide +kernel
theorem dX1_nextAmount_12 : decode cX1_nextAmount 12 = .ok (.invokevirtual 28, 3) := by decide +kernel
theorem dX1_nextAmount_15 : decode cX1_nextAmount 15 = .ok (.iaload, 1) := by decide +kernel
theorem dX1_nextAmount_16 : decode cX1_nextAmount 16 = .ok (.goto 4, 3) := by decide +kernel
theorem dX1_nextAmount_19 : decode cX1_nextAmount 19 = .ok (.iconst 0, 1) := by decide +kernel
theorem dX1_nextAmount_20 : decode cX1_nextAmount 20 = .ok (.ireturn, 1) := by decide +kernel
theorem dX1_next_0 : decode cX1_next 0 = .ok (.iconst 0, 1) := by decide +kernel
theorem dX1_next_1 : decode cX1_next 1 = .ok (.istore_n 1, 1) := by decide +kernel
theorem dX1_next_2 : decode cX1_next 2 = .ok (.iconst 1, 1) := by decide +kernel
theorem dX1_next_3 : decode cX1_next 3 = .ok (.istore_n 2, 1) := by decide +kernel
theorem dX1_next_4 : decode cX1_next 4 = .ok (.iload_n 2, 1) := by decide +kernel
theorem dX1_next_5 : decode cX1_next 5 = .ok (.aload_n 0, 1) := by decide +kernel
theorem dX1_next_6 : decode cX1_next 6 = .ok (.getfield 18, 3) := by decide +kernel
theorem dX1_next_9 : decode cX1_next 9 = .ok (.if_icmp .ge 26, 3) := by decide +kernel
theorem dX1_next_12 : decode cX1_next 12 = .ok (.aload_n 0, 1) := by decide +kernel
theorem dX1_next_13 : decode cX1_next 13 = .ok (.getfield 9, 3) := by decide +kernel
theorem dX1_next_16 : decode cX1_next 16 = .ok (.iload_n 2, 1) := by decide +kernel
theorem dX1_next_17 : decode cX1_next 17 = .ok (.iaload, 1) := by decide +kernel
theorem dX1_next_18 : decode cX1_next 18 = .ok (.aload_n 0, 1) := by decide +kernel
theorem dX1_next_19 : decode cX1_next 19 = .ok (.getfield 9, 3) := by decide +kernel
theorem dX1_next_22 : decode cX1_next 22 = .ok (.iload_n 1, 1) := by decide +kernel
theorem dX1_next_23 : decode cX1_next 23 = .ok (.iaload, 1) := by decide +kernel
theorem dX1_next_24 : decode cX1_next 24 = .ok (.if_icmp .ge 5, 3) := by decide +kernel
theorem dX1_next_27 : decode cX1_next 27 = .ok (.iload_n 2, 1) := by decide +kernel
theorem dX1_next_28 : decode cX1_next 28 = .ok (.istore_n 1, 1) := by decide +kernel
theorem dX1_next_29 : decode cX1_next 29 = .ok (.iinc 2 1, 3) := by decide +kernel
theorem dX1_next_32 : decode cX1_next 32 = .ok (.goto (-28), 3) := by decide +kernel
theorem dX1_next_35 : decode cX1_next 35 = .ok (.iload_n 1, 1) := by decide +kernel
theorem dX1_next_36 : decode cX1_next 36 = .ok (.ireturn, 1) := by decide +kernel
theorem dX2_init_0 : decode cX2_init 0 = .ok (.aload_n 0, 1) := by decide +kernel
theorem dX2_init_1 : decode cX2_init 1 = .ok (.invokespecial 1, 3) := by decide +kernel
theorem dX2_init_4 : decode cX2_init 4 = .ok (.aload_n 0, 1) := by decide +kernel
theorem dX2_init_5 : decode cX2_init 5 = .ok (.iload_n 1, 1) := by decide +kernel
theorem dX2_init_6 : decode cX2_init 6 = .ok (.newarray .int, 2) := by decide +kernel
theorem dX2_init_8 : decode cX2_init 8 = .ok (.putfield 7, 3) := by decide +kernel
theorem dX2_init_11 : decode cX2_init 11 = .ok (.return_, 1) := by decide +kernel
theorem dX2_add_0 : decode cX2_add 0 = .ok (.aload_n 0, 1) := by decide +kernel
theorem dX2_add_1 : decode cX2_add 1 = .ok (.getfield 13, 3) := by decide +kernel
theorem dX2_add_4 : decode cX2_add 4 = .ok (.aload_n 0, 1) := by decide +kernel
theorem dX2_add_5 : decode cX2_add 5 = .ok (.getfield 7, 3) := by decide +kernel
theorem dX2_add_8 : decode cX2_add 8 = .ok (.arraylength, 1) := by decide +kernel
theorem dX2_add_9 : decode cX2_add 9 = .ok (.if_icmp .ge 34, 3) := by decide +kernel
theorem dX2_add_12 : decode cX2_add 12 = .ok (.aload_n 0, 1) := by decide +kernel
theorem dX2_add_13 : decode cX2_add 13 = .ok (.getfield 7, 3) := by decide +kernel
theorem dX2_add_16 : decode cX2_add 16 = .ok (.aload_n 0, 1) := by decide +kernel
theorem dX2_add_17 : decode cX2_add 17 = .ok (.getfield 17, 3) := by decide +kernel
theorem dX2_add_20 : decode cX2_add 20 = .ok (.aload_n 0, 1) := by decide +kernel
theorem dX2_add_21 : decode cX2_add 21 = .ok (.getfield 13, 3) := by decide +kernel
theorem dX2_add_24 : decode cX2_add 24 = .ok (.iadd, 1) := by decide +kernel
theorem dX2_add_25 : decode cX2_add 25 = .ok (.aload_n 0, 1) := by decide +kernel
theorem dX2_add_26 : decode cX2_add 26 = .ok (.getfield 7, 3) := by decide +kernel
theorem dX2_add_29 : decode cX2_add 29 = .ok (.arraylength, 1) := by decide +kernel
theorem dX2_add_30 : decode cX2_add 30 = .ok (.irem, 1) := by decide +kernel
theorem dX2_add_31 : decode cX2_add 31 = .ok (.iload_n 1, 1) := by decide +kernel
theorem dX2_add_32 : decode cX2_add 32 = .ok (.iastore, 1) := by decide +kernel
theorem dX2_add_33 : decode cX2_add 33 = .ok (.aload_n 0, 1) := by decide +kernel
theorem dX2_add_34 : decode cX2_add 34 = .ok (.dup, 1) := by decide +kernel
theorem dX2_add_35 : decode cX2_add 35 = .ok (.getfield 13, 3) := by decide +kernel
theorem dX2_add_38 : decode cX2_add 38 = .ok (.iconst 1, 1) := by decide +kernel
theorem dX2_add_39 : decode cX2_add 39 = .ok (.iadd, 1) := by decide +kernel
theorem dX2_add_40 : decode cX2_add 40 = .ok (.putfield 13, 3) := by decide +kernel
theorem dX2_add_43 : decode cX2_add 43 = .ok (.return_, 1) := by decide +kernel
theorem dX2_first_0 : decode cX2_first 0 = .ok (.aload_n 0, 1) := by decide +kernel
theorem dX2_first_1 : decode cX2_first 1 = .ok (.getfield 7, 3) := by decide +kernel
theorem dX2_first_4 : decode cX2_first 4 = .ok (.aload_n 0, 1) := by decide +kernel
theorem dX2_first_5 : decode cX2_first 5 = .ok (.getfield 17, 3) := by decide +kernel
theorem dX2_first_8 : decode cX2_first 8 = .ok (.iaload, 1) := by decide +kernel
theorem dX2_first_9 : decode cX2_first 9 = .ok (.ireturn, 1) := by decide +kernel
theorem dX2_removeFirst_0 : decode cX2_removeFirst 0 = .ok (.aload_n 0, 1) := by decide +kernel
theorem dX2_removeFirst_1 : decode cX2_removeFirst 1 = .ok (.getfield 13, 3) := by decide +kernel
theorem dX2_removeFirst_4 : decode cX2_removeFirst 4 = .ok (.ifCond .le 29, 3) := by decide +kernel
theorem dX2_removeFirst_7 : decode cX2_removeFirst 7 = .ok (.aload_n 0, 1) := by decide +kernel
theorem dX2_removeFirst_8 : decode cX2_removeFirst 8 = .ok (.aload_n 0, 1) := by decide +kernel
theorem dX2_removeFirst_9 : decode cX2_removeFirst 9 = .ok (.getfield 17, 3) := by decide +kernel
theorem dX2_removeFirst_12 : decode cX2_removeFirst 12 = .ok (.iconst 1, 1) := by decide +kernel
theorem dX2_removeFirst_13 : decode cX2_removeFirst 13 = .ok (.iadd, 1) := by decide +kernel
theorem dX2_removeFirst_14 : decode cX2_removeFirst 14 = .ok (.aload_n 0, 1) := by decide +kernel
theorem dX2_removeFirst_15 : decode cX2_removeFirst 15 = .ok (.getfield 7, 3) := by decide +kernel
theorem dX2_removeFirst_18 : decode cX2_removeFirst 18 = .ok (.arraylength, 1) := by decide +kernel
theorem dX2_removeFirst_19 : decode cX2_removeFirst 19 = .ok (.irem, 1) := by decide +kernel
theorem dX2_removeFirst_20 : decode cX2_removeFirst 20 = .ok (.putfield 17, 3) := by decide +kernel
theorem dX2_removeFirst_23 : decode cX2_removeFirst 23 = .ok (.aload_n 0, 1) := by decide +kernel
theorem dX2_removeFirst_24 : decode cX2_removeFirst 24 = .ok (.dup, 1) := by decide +kernel
theorem dX2_removeFirst_25 : decode cX2_removeFirst 25 = .ok (.getfield 13, 3) := by decide +kernel
theorem dX2_removeFirst_28 : decode cX2_removeFirst 28 = .ok (.iconst 1, 1) := by decide +kernel
theorem dX2_removeFirst_29 : decode cX2_removeFirst 29 = .ok (.isub, 1) := by decide +kernel
theorem dX2_removeFirst_30 : decode cX2_removeFirst 30 = .ok (.putfield 13, 3) := by decide +kernel
theorem dX2_removeFirst_33 : decode cX2_removeFirst 33 = .ok (.return_, 1) := by decide +kernel
theorem dX3_init_0 : decode cX3_init 0 = .ok (.aload_n 0, 1) := by decide +kernel
theorem dX3_init_1 : decode cX3_init 1 = .ok (.invokespecial 3, 3) := by decide +kernel
theorem dX3_init_4 : decode cX3_init 4 = .ok (.aload_n 0, 1) := by decide +kernel
theorem dX3_init_5 : decode cX3_init 5 = .ok (.new 9, 3) := by decide +kernel
theorem dX3_init_8 : decode cX3_init 8 = .ok (.dup, 1) := by decide +kernel
theorem dX3_init_9 : decode cX3_init 9 = .ok (.bipush 32, 2) := by decide +kernel
theorem dX3_init_11 : decode cX3_init 11 = .ok (.invokespecial 11, 3) := by decide +kernel
theorem dX3_init_14 : decode cX3_init 14 = .ok (.putfield 14, 3) := by decide +kernel
theorem dX3_init_17 : decode cX3_init 17 = .ok (.aload_n 0, 1) := by decide +kernel
theorem dX3_init_18 : decode cX3_init 18 = .ok (.new 9, 3) := by decide +kernel
theorem dX3_init_21 : decode cX3_init 21 = .ok (.dup, 1) := by decide +kernel
theorem dX3_init_22 : decode cX3_init 22 = .ok (.bipush 30, 2) := by decide +kernel
theorem dX3_init_24 : decode cX3_init 24 = .ok (.invokespecial 11, 3) := by decide +kernel
theorem dX3_init_27 : decode cX3_init 27 = .ok (.putfield 20, 3) := by decide +kernel
theorem dX3_init_30 : decode cX3_init 30 = .ok (.aload_n 0, 1) := by decide +kernel
theorem dX3_init_31 : decode cX3_init 31 = .ok (.new 23, 3) := by decide +kernel
theorem dX3_init_34 : decode cX3_init 34 = .ok (.dup, 1) := by decide +kernel
theorem dX3_init_35 : decode cX3_init 35 = .ok (.invokespecial 25, 3) := by decide +kernel
theorem dX3_init_38 : decode cX3_init 38 = .ok (.putfield 26, 3) := by decide +kernel
theorem dX3_init_41 : decode cX3_init 41 = .ok (.return_, 1) := by decide +kernel
theorem dX3_tell_0 : decode cX3_tell 0 = .ok (.aload_n 0, 1) := by decide +kernel
theorem dX3_tell_1 : decode cX3_tell 1 = .ok (.iconst 1, 1) := by decide +kernel
theorem dX3_tell_2 : decode cX3_tell 2 = .ok (.putfield 30, 3) := by decide +kernel
theorem dX3_tell_5 : decode cX3_tell 5 = .ok (.aload_n 0, 1) := by decide +kernel
theorem dX3_tell_6 : decode cX3_tell 6 = .ok (.iload_n 1, 1) := by decide +kernel
theorem dX3_tell_7 : decode cX3_tell 7 = .ok (.putfield 34, 3) := by decide +kernel
theorem dX3_tell_10 : decode cX3_tell 10 = .ok (.aload_n 0, 1) := by decide +kernel
theorem dX3_tell_11 : decode cX3_tell 11 = .ok (.iload_n 2, 1) := by decide +kernel
theorem dX3_tell_12 : decode cX3_tell 12 = .ok (.putfield 38, 3) := by decide +kernel
theorem dX3_tell_15 : decode cX3_tell 15 = .ok (.aload_n 0, 1) := by decide +kernel
theorem dX3_tell_16 : decode cX3_tell 16 = .ok (.iload_n 3, 1) := by decide +kernel
theorem dX3_tell_17 : decode cX3_tell 17 = .ok (.putfield 41, 3) := by decide +kernel
theorem dX3_tell_20 : decode cX3_tell 20 = .ok (.aload_n 0, 1) := by decide +kernel
theorem dX3_tell_21 : decode cX3_tell 21 = .ok (.iload 4, 2) := by decide +kernel
theorem dX3_tell_23 : decode cX3_tell 23 = .ok (.putfield 44, 3) := by decide +kernel
theorem dX3_tell_26 : decode cX3_tell 26 = .ok (.aload_n 0, 1) := by decide +kernel
theorem dX3_tell_27 : decode cX3_tell 27 = .ok (.iload 5, 2) := by decide +kernel
theorem dX3_tell_29 : decode cX3_tell 29 = .ok (.putfield 47, 3) := by decide +kernel
theorem dX3_tell_32 : decode cX3_tell 32 = .ok (.aload_n 0, 1) := by decide +kernel
theorem dX3_tell_33 : decode cX3_tell 33 = .ok (.iload 6, 2) := by decide +kernel
theorem dX3_tell_35 : decode cX3_tell 35 = .ok (.putfield 50, 3) := by decide +kernel
theorem dX3_tell_38 : decode cX3_tell 38 = .ok (.return_, 1) := by decide +kernel
theorem dX3_fillBudget_0 : decode cX3_fillBudget 0 = .ok (.iconst 0, 1) := by decide +kernel
theorem dX3_fillBudget_1 : decode cX3_fillBudget 1 = .ok (.istore_n 1, 1) := by decide +kernel
theorem dX3_fillBudget_2 : decode cX3_fillBudget 2 = .ok (.iload_n 1, 1) := by decide +kernel
theorem dX3_fillBudget_3 : decode cX3_fillBudget 3 = .ok (.aload_n 0, 1) := by decide +kernel
theorem dX3_fillBudget_4 : decode cX3_fillBudget 4 = .ok (.getfield 44, 3) := by decide +kernel
theorem dX3_fillBudget_7 : decode cX3_fillBudget 7 = .ok (.if_icmp .ge 17, 3) := by decide +kernel
theorem dX3_fillBudget_10 : decode cX3_fillBudget 10 = .ok (.aload_n 0, 1) := by decide +kernel
theorem dX3_fillBudget_11 : decode cX3_fillBudget 11 = .ok (.getfield 20, 3) := by decide +kernel
theorem dX3_fillBudget_14 : decode cX3_fillBudget 14 = .ok (.iconst 0, 1) := by decide +kernel
theorem dX3_fillBudget_15 : decode cX3_fillBudget 15 = .ok (.invokevirtual 53, 3) := by decide +kernel
theorem dX3_fillBudget_18 : decode cX3_fillBudget 18 = .ok (.iinc 1 1, 3) := by decide +kernel
theorem dX3_fillBudget_21 : decode cX3_fillBudget 21 = .ok (.goto (-19), 3) := by decide +kernel
theorem dX3_fillBudget_24 : decode cX3_fillBudget 24 = .ok (.return_, 1) := by decide +kernel
theorem dX3_take_0 : decode cX3_take 0 = .ok (.aload_n 0, 1) := by decide +kernel
theorem dX3_take_1 : decode cX3_take 1 = .ok (.getfield 56, 3) := by decide +kernel
theorem dX3_take_4 : decode cX3_take 4 = .ok (.ifCond .ne 15, 3) := by decide +kernel
theorem dX3_take_7 : decode cX3_take 7 = .ok (.aload_n 0, 1) := by decide +kernel
theorem dX3_take_8 : decode cX3_take 8 = .ok (.getfield 14, 3) := by decide +kernel
theorem dX3_take_11 : decode cX3_take 11 = .ok (.getfield 59, 3) := by decide +kernel
theorem dX3_take_14 : decode cX3_take 14 = .ok (.bipush 32, 2) := by decide +kernel
theorem dX3_take_16 : decode cX3_take 16 = .ok (.if_icmp .lt 15, 3) := by decide +kernel
theorem dX3_take_19 : decode cX3_take 19 = .ok (.aload_n 0, 1) := by decide +kernel
theorem dX3_take_20 : decode cX3_take 20 = .ok (.dup, 1) := by decide +kernel
theorem dX3_take_21 : decode cX3_take 21 = .ok (.getfield 62, 3) := by decide +kernel
theorem dX3_take_24 : decode cX3_take 24 = .ok (.iconst 1, 1) := by decide +kernel
theorem dX3_take_25 : decode cX3_take 25 = .ok (.iadd, 1) := by decide +kernel
theorem dX3_take_26 : decode cX3_take 26 = .ok (.putfield 62, 3) := by decide +kernel
theorem dX3_take_29 : decode cX3_take 29 = .ok (.iconst 0, 1) := by decide +kernel
theorem dX3_take_30 : decode cX3_take 30 = .ok (.ireturn, 1) := by decide +kernel
theorem dX3_take_31 : decode cX3_take 31 = .ok (.aload_n 0, 1) := by decide +kernel
theorem dX3_take_32 : decode cX3_take 32 = .ok (.getfield 14, 3) := by decide +kernel
theorem dX3_take_35 : decode cX3_take 35 = .ok (.getfield 59, 3) := by decide +kernel
theorem dX3_take_38 : decode cX3_take 38 = .ok (.ifCond .ne 8, 3) := by decide +kernel
theorem dX3_take_41 : decode cX3_take 41 = .ok (.aload_n 0, 1) := by decide +kernel
theorem dX3_take_42 : decode cX3_take 42 = .ok (.iload_n 1, 1) := by decide +kernel
theorem dX3_take_43 : decode cX3_take 43 = .ok (.putfield 65, 3) := by decide +kernel
theorem dX3_take_46 : decode cX3_take 46 = .ok (.aload_n 0, 1) := by decide +kernel
theorem dX3_take_47 : decode cX3_take 47 = .ok (.getfield 14, 3) := by decide +kernel
theorem dX3_take_50 : decode cX3_take 50 = .ok (.iload_n 1, 1) := by decide +kernel
theorem dX3_take_51 : decode cX3_take 51 = .ok (.invokevirtual 53, 3) := by decide +kernel
theorem dX3_take_54 : decode cX3_take 54 = .ok (.aload_n 0, 1) := by decide +kernel
theorem dX3_take_55 : decode cX3_take 55 = .ok (.dup, 1) := by decide +kernel
theorem dX3_take_56 : decode cX3_take 56 = .ok (.getfield 68, 3) := by decide +kernel
theorem dX3_take_59 : decode cX3_take 59 = .ok (.iconst 1, 1) := by decide +kernel
theorem dX3_take_60 : decode cX3_take 60 = .ok (.iadd, 1) := by decide +kernel
theorem dX3_take_61 : decode cX3_take 61 = .ok (.putfield 68, 3) := by decide +kernel
theorem dX3_take_64 : decode cX3_take 64 = .ok (.aload_n 0, 1) := by decide +kernel
theorem dX3_take_65 : decode cX3_take 65 = .ok (.getfield 14, 3) := by decide +kernel
theorem dX3_take_68 : decode cX3_take 68 = .ok (.getfield 59, 3) := by decide +kernel
theorem dX3_take_71 : decode cX3_take 71 = .ok (.bipush 24, 2) := by decide +kernel
theorem dX3_take_73 : decode cX3_take 73 = .ok (.if_icmp .le 18, 3) := by decide +kernel
theorem dX3_take_76 : decode cX3_take 76 = .ok (.aload_n 0, 1) := by decide +kernel
theorem dX3_take_77 : decode cX3_take 77 = .ok (.iconst 1, 1) := by decide +kernel
theorem dX3_take_78 : decode cX3_take 78 = .ok (.putfield 56, 3) := by decide +kernel
theorem dX3_take_81 : decode cX3_take 81 = .ok (.aload_n 0, 1) := by decide +kernel
theorem dX3_take_82 : decode cX3_take 82 = .ok (.dup, 1) := by decide +kernel
theorem dX3_take_83 : decode cX3_take 83 = .ok (.getfield 71, 3) := by decide +kernel
theorem dX3_take_86 : decode cX3_take 86 = .ok (.iconst 1, 1) := by decide +kernel
theorem dX3_take_87 : decode cX3_take 87 = .ok (.iadd, 1) := by decide +kernel
theorem dX3_take_88 : decode cX3_take 88 = .ok (.putfield 71, 3) := by decide +kernel
theorem dX3_take_91 : decode cX3_take 91 = .ok (.iconst 1, 1) := by decide +kernel
theorem dX3_take_92 : decode cX3_take 92 = .ok (.ireturn, 1) := by decide +kernel
theorem dX3_ready_0 : decode cX3_ready 0 = .ok (.aload_n 0, 1) := by decide +kernel
theorem dX3_ready_1 : decode cX3_ready 1 = .ok (.getfield 14, 3) := by decide +kernel
theorem dX3_ready_4 : decode cX3_ready 4 = .ok (.getfield 59, 3) := by decide +kernel
theorem dX3_ready_7 : decode cX3_ready 7 = .ok (.ifCond .le 17, 3) := by decide +kernel
theorem dX3_ready_10 : decode cX3_ready 10 = .ok (.aload_n 0, 1) := by decide +kernel
theorem dX3_ready_11 : decode cX3_ready 11 = .ok (.getfield 20, 3) := by decide +kernel
theorem dX3_ready_14 : decode cX3_ready 14 = .ok (.getfield 59, 3) := by decide +kernel
theorem dX3_ready_17 : decode cX3_ready 17 = .ok (.ifCond .le 7, 3) := by decide +kernel
theorem dX3_ready_20 : decode cX3_ready 20 = .ok (.iconst 1, 1) := by decide +kernel
theorem dX3_ready_21 : decode cX3_ready 21 = .ok (.goto 4, 3) := by decide +kernel
theorem dX3_ready_24 : decode cX3_ready 24 = .ok (.iconst 0, 1) := by decide +kernel
theorem dX3_ready_25 : decode cX3_ready 25 = .ok (.ireturn, 1) := by decide +kernel
theorem dX3_runHandler_0 : decode cX3_runHandler 0 = .ok (.aload_n 0, 1) := by decide +kernel
theorem dX3_runHandler_1 : decode cX3_runHandler 1 = .ok (.iload_n 1, 1) := by decide +kernel
theorem dX3_runHandler_2 : decode cX3_runHandler 2 = .ok (.invokevirtual 74, 3) := by decide +kernel
theorem dX3_runHandler_5 : decode cX3_runHandler 5 = .ok (.aload_n 0, 1) := by decide +kernel
theorem dX3_runHandler_6 : decode cX3_runHandler 6 = .ok (.dup, 1) := by decide +kernel
theorem dX3_runHandler_7 : decode cX3_runHandler 7 = .ok (.getfield 77, 3) := by decide +kernel
theorem dX3_runHandler_10 : decode cX3_runHandler 10 = .ok (.iconst 1, 1) := by decide +kernel
theorem dX3_runHandler_11 : decode cX3_runHandler 11 = .ok (.iadd, 1) := by decide +kernel
theorem dX3_runHandler_12 : decode cX3_runHandler 12 = .ok (.putfield 77, 3) := by decide +kernel
theorem dX3_runHandler_15 : decode cX3_runHandler 15 = .ok (.aload_n 0, 1) := by decide +kernel
theorem dX3_runHandler_16 : decode cX3_runHandler 16 = .ok (.getfield 77, 3) := by decide +kernel
theorem dX3_runHandler_19 : decode cX3_runHandler 19 = .ok (.aload_n 0, 1) := by decide +kernel
theorem dX3_runHandler_20 : decode cX3_runHandler 20 = .ok (.getfield 38, 3) := by decide +kernel
theorem dX3_runHandler_23 : decode cX3_runHandler 23 = .ok (.if_icmp .lt 10, 3) := by decide +kernel
theorem dX3_runHandler_26 : decode cX3_runHandler 26 = .ok (.aload_n 0, 1) := by decide +kernel
theorem dX3_runHandler_27 : decode cX3_runHandler 27 = .ok (.iload_n 1, 1) := by decide +kernel
theorem dX3_runHandler_28 : decode cX3_runHandler 28 = .ok (.iconst 1, 1) := by decide +kernel
theorem dX3_runHandler_29 : decode cX3_runHandler 29 = .ok (.iadd, 1) := by decide +kernel
theorem dX3_runHandler_30 : decode cX3_runHandler 30 = .ok (.invokevirtual 80, 3) := by decide +kernel
theorem dX3_runHandler_33 : decode cX3_runHandler 33 = .ok (.return_, 1) := by decide +kernel
theorem dX3_spendUnit_0 : decode cX3_spendUnit 0 = .ok (.aload_n 0, 1) := by decide +kernel
theorem dX3_spendUnit_1 : decode cX3_spendUnit 1 = .ok (.getfield 20, 3) := by decide +kernel
theorem dX3_spendUnit_4 : decode cX3_spendUnit 4 = .ok (.invokevirtual 83, 3) := by decide +kernel
theorem dX3_spendUnit_7 : decode cX3_spendUnit 7 = .ok (.aload_n 0, 1) := by decide +kernel
theorem dX3_spendUnit_8 : decode cX3_spendUnit 8 = .ok (.getfield 65, 3) := by decide +kernel
theorem dX3_spendUnit_11 : decode cX3_spendUnit 11 = .ok (.invokestatic 87, 3) := by decide +kernel
theorem dX3_spendUnit_14 : decode cX3_spendUnit 14 = .ok (.istore_n 2, 1) := by decide +kernel
theorem dX3_spendUnit_15 : decode cX3_spendUnit 15 = .ok (.iload_n 1, 1) := by decide +kernel
theorem dX3_spendUnit_16 : decode cX3_spendUnit 16 = .ok (.iload_n 2, 1) := by decide +kernel
theorem dX3_spendUnit_17 : decode cX3_spendUnit 17 = .ok (.isub, 1) := by decide +kernel
theorem dX3_spendUnit_18 : decode cX3_spendUnit 18 = .ok (.aload_n 0, 1) := by decide +kernel
theorem dX3_spendUnit_19 : decode cX3_spendUnit 19 = .ok (.getfield 47, 3) := by decide +kernel
theorem dX3_spendUnit_22 : decode cX3_spendUnit 22 = .ok (.if_icmp .lt 5, 3) := by decide +kernel
theorem dX3_spendUnit_25 : decode cX3_spendUnit 25 = .ok (.iload_n 1, 1) := by decide +kernel
theorem dX3_spendUnit_26 : decode cX3_spendUnit 26 = .ok (.istore_n 2, 1) := by decide +kernel
theorem dX3_spendUnit_27 : decode cX3_spendUnit 27 = .ok (.aload_n 0, 1) := by decide +kernel
theorem dX3_spendUnit_28 : decode cX3_spendUnit 28 = .ok (.getfield 20, 3) := by decide +kernel
theorem dX3_spendUnit_31 : decode cX3_spendUnit 31 = .ok (.invokevirtual 93, 3) := by decide +kernel
theorem dX3_spendUnit_34 : decode cX3_spendUnit 34 = .ok (.aload_n 0, 1) := by decide +kernel
theorem dX3_spendUnit_35 : decode cX3_spendUnit 35 = .ok (.getfield 26, 3) := by decide +kernel
theorem dX3_spendUnit_38 : decode cX3_spendUnit 38 = .ok (.iload_n 2, 1) := by decide +kernel
theorem dX3_spendUnit_39 : decode cX3_spendUnit 39 = .ok (.aload_n 0, 1) := by decide +kernel
theorem dX3_spendUnit_40 : decode cX3_spendUnit 40 = .ok (.getfield 47, 3) := by decide +kernel
theorem dX3_spendUnit_43 : decode cX3_spendUnit 43 = .ok (.iadd, 1) := by decide +kernel
theorem dX3_spendUnit_44 : decode cX3_spendUnit 44 = .ok (.invokevirtual 96, 3) := by decide +kernel
theorem dX3_spendUnit_47 : decode cX3_spendUnit 47 = .ok (.return_, 1) := by decide +kernel
theorem dX3_finishFirst_0 : decode cX3_finishFirst 0 = .ok (.aload_n 0, 1) := by decide +kernel
theorem dX3_finishFirst_1 : decode cX3_finishFirst 1 = .ok (.aload_n 0, 1) := by decide +kernel
theorem dX3_finishFirst_2 : decode cX3_finishFirst 2 = .ok (.getfield 97, 3) := by decide +kernel
theorem dX3_finishFirst_5 : decode cX3_finishFirst 5 = .ok (.iload_n 1, 1) := by decide +kernel
theorem dX3_finishFirst_6 : decode cX3_finishFirst 6 = .ok (.aload_n 0, 1) := by decide +kernel
theorem dX3_finishFirst_7 : decode cX3_finishFirst 7 = .ok (.getfield 14, 3) := by decide +kernel
theorem dX3_finishFirst_10 : decode cX3_finishFirst 10 = .ok (.invokevirtual 83, 3) := by decide +kernel
theorem dX3_finishFirst_13 : decode cX3_finishFirst 13 = .ok (.isub, 1) := by decide +kernel
theorem dX3_finishFirst_14 : decode cX3_finishFirst 14 = .ok (.invokestatic 87, 3) := by decide +kernel
theorem dX3_finishFirst_17 : decode cX3_finishFirst 17 = .ok (.putfield 97, 3) := by decide +kernel
theorem dX3_finishFirst_20 : decode cX3_finishFirst 20 = .ok (.aload_n 0, 1) := by decide +kernel
theorem dX3_finishFirst_21 : decode cX3_finishFirst 21 = .ok (.getfield 14, 3) := by decide +kernel
theorem dX3_finishFirst_24 : decode cX3_finishFirst 24 = .ok (.invokevirtual 93, 3) := by decide +kernel
theorem dX3_finishFirst_27 : decode cX3_finishFirst 27 = .ok (.aload_n 0, 1) := by decide +kernel
theorem dX3_finishFirst_28 : decode cX3_finishFirst 28 = .ok (.iconst 0, 1) := by decide +kernel
theorem dX3_finishFirst_29 : decode cX3_finishFirst 29 = .ok (.putfield 77, 3) := by decide +kernel
theorem dX3_finishFirst_32 : decode cX3_finishFirst 32 = .ok (.aload_n 0, 1) := by decide +kernel
theorem dX3_finishFirst_33 : decode cX3_finishFirst 33 = .ok (.dup, 1) := by decide +kernel
theorem dX3_finishFirst_34 : decode cX3_finishFirst 34 = .ok (.getfield 100, 3) := by decide +kernel
theorem dX3_finishFirst_37 : decode cX3_finishFirst 37 = .ok (.iconst 1, 1) := by decide +kernel
theorem dX3_finishFirst_38 : decode cX3_finishFirst 38 = .ok (.iadd, 1) := by decide +kernel
theorem dX3_finishFirst_39 : decode cX3_finishFirst 39 = .ok (.putfield 100, 3) := by decide +kernel
theorem dX3_finishFirst_42 : decode cX3_finishFirst 42 = .ok (.aload_n 0, 1) := by decide +kernel
theorem dX3_finishFirst_43 : decode cX3_finishFirst 43 = .ok (.getfield 14, 3) := by decide +kernel
theorem dX3_finishFirst_46 : decode cX3_finishFirst 46 = .ok (.getfield 59, 3) := by decide +kernel
theorem dX3_finishFirst_49 : decode cX3_finishFirst 49 = .ok (.bipush 8, 2) := by decide +kernel
theorem dX3_finishFirst_51 : decode cX3_finishFirst 51 = .ok (.if_icmp .gt 8, 3) := by decide +kernel
theorem dX3_finishFirst_54 : decode cX3_finishFirst 54 = .ok (.aload_n 0, 1) := by decide +kernel
theorem dX3_finishFirst_55 : decode cX3_finishFirst 55 = .ok (.iconst 0, 1) := by decide +kernel
theorem dX3_finishFirst_56 : decode cX3_finishFirst 56 = .ok (.putfield 56, 3) := by decide +kernel
theorem dX3_finishFirst_59 : decode cX3_finishFirst 59 = .ok (.return_, 1) := by decide +kernel
theorem dX3_giveBack_0 : decode cX3_giveBack 0 = .ok (.aload_n 0, 1) := by decide +kernel
theorem dX3_giveBack_1 : decode cX3_giveBack 1 = .ok (.getfield 26, 3) := by decide +kernel
theorem dX3_giveBack_4 : decode cX3_giveBack 4 = .ok (.iload_n 1, 1) := by decide +kernel
theorem dX3_giveBack_5 : decode cX3_giveBack 5 = .ok (.invokevirtual 103, 3) := by decide +kernel
theorem dX3_giveBack_8 : decode cX3_giveBack 8 = .ok (.istore_n 2, 1) := by decide +kernel
theorem dX3_giveBack_9 : decode cX3_giveBack 9 = .ok (.iconst 0, 1) := by decide +kernel
theorem dX3_giveBack_10 : decode cX3_giveBack 10 = .ok (.istore_n 3, 1) := by decide +kernel
theorem dX3_giveBack_11 : decode cX3_giveBack 11 = .ok (.iload_n 3, 1) := by decide +kernel
theorem dX3_giveBack_12 : decode cX3_giveBack 12 = .ok (.iload_n 2, 1) := by decide +kernel
theorem dX3_giveBack_13 : decode cX3_giveBack 13 = .ok (.if_icmp .ge 17, 3) := by decide +kernel
theorem dX3_giveBack_16 : decode cX3_giveBack 16 = .ok (.aload_n 0, 1) := by decide +kernel
theorem dX3_giveBack_17 : decode cX3_giveBack 17 = .ok (.getfield 20, 3) := by decide +kernel
theorem dX3_giveBack_20 : decode cX3_giveBack 20 = .ok (.iload_n 1, 1) := by decide +kernel
theorem dX3_giveBack_21 : decode cX3_giveBack 21 = .ok (.invokevirtual 53, 3) := by decide +kernel
theorem dX3_giveBack_24 : decode cX3_giveBack 24 = .ok (.iinc 3 1, 3) := by decide +kernel
theorem dX3_giveBack_27 : decode cX3_giveBack 27 = .ok (.goto (-16), 3) := by decide +kernel
theorem dX3_giveBack_30 : decode cX3_giveBack 30 = .ok (.return_, 1) := by decide +kernel
theorem dJ9_floorMod_7cf53_0 : decode cJ9_floorMod_7cf53 0 = .ok (.iload_n 0, 1) := by decide +kernel
theorem dJ9_floorMod_7cf53_1 : decode cJ9_floorMod_7cf53 1 = .ok (.iload_n 1, 1) := by decide +kernel
theorem dJ9_floorMod_7cf53_2 : decode cJ9_floorMod_7cf53 2 = .ok (.irem, 1) := by decide +kernel
theorem dJ9_floorMod_7cf53_3 : decode cJ9_floorMod_7cf53 3 = .ok (.istore_n 2, 1) := by decide +kernel
theorem dJ9_floorMod_7cf53_4 : decode cJ9_floorMod_7cf53 4 = .ok (.iload_n 0, 1) := by decide +kernel
theorem dJ9_floorMod_7cf53_5 : decode cJ9_floorMod_7cf53 5 = .ok (.iload_n 1, 1) := by decide +kernel
theorem dJ9_floorMod_7cf53_6 : decode cJ9_floorMod_7cf53 6 = .ok (.ixor, 1) := by decide +kernel
theorem dJ9_floorMod_7cf53_7 : decode cJ9_floorMod_7cf53 7 = .ok (.ifCond .ge 11, 3) := by decide +kernel
theorem dJ9_floorMod_7cf53_10 : decode cJ9_floorMod_7cf53 10 = .ok (.iload_n 2, 1) := by decide +kernel
theorem dJ9_floorMod_7cf53_11 : decode cJ9_floorMod_7cf53 11 = .ok (.ifCond .eq 7, 3) := by decide +kernel
theorem dJ9_floorMod_7cf53_14 : decode cJ9_floorMod_7cf53 14 = .ok (.iload_n 2, 1) := by decide +kernel
theorem dJ9_floorMod_7cf53_15 : decode cJ9_floorMod_7cf53 15 = .ok (.iload_n 1, 1) := by decide +kernel
theorem dJ9_floorMod_7cf53_16 : decode cJ9_floorMod_7cf53 16 = .ok (.iadd, 1) := by decide +kernel
theorem dJ9_floorMod_7cf53_17 : decode cJ9_floorMod_7cf53 17 = .ok (.ireturn, 1) := by decide +kernel
theorem dJ9_floorMod_7cf53_18 : decode cJ9_floorMod_7cf53 18 = .ok (.iload_n 2, 1) := by decide +kernel
theorem dJ9_floorMod_7cf53_19 : decode cJ9_floorMod_7cf53 19 = .ok (.ireturn, 1) := by decide +kernel
theorem dJ9_max_7cf53_0 : decode cJ9_max_7cf53 0 = .ok (.iload_n 0, 1) := by decide +kernel
theorem dJ9_max_7cf53_1 : decode cJ9_max_7cf53 1 = .ok (.iload_n 1, 1) := by decide +kernel
theorem dJ9_max_7cf53_2 : decode cJ9_max_7cf53 2 = .ok (.if_icmp .lt 7, 3) := by decide +kernel
theorem dJ9_max_7cf53_5 : decode cJ9_max_7cf53 5 = .ok (.iload_n 0, 1) := by decide +kernel
theorem dJ9_max_7cf53_6 : decode cJ9_max_7cf53 6 = .ok (.goto 4, 3) := by decide +kernel
theorem dJ9_max_7cf53_9 : decode cJ9_max_7cf53 9 = .ok (.iload_n 1, 1) := by decide +kernel
theorem dJ9_max_7cf53_10 : decode cJ9_max_7cf53 10 = .ok (.ireturn, 1) := by decide +kernel
