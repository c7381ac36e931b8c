theorem dX4_init_0 : decode cX4_init 0 = .ok (.aload_n 0, 1) := by decide +kernel
theorem dX4_init_1 : decode cX4_init 1 = .ok (.invokespecial 1, 3) := by decide +kernel
theorem dX4_init_4 : decode cX4_init 4 = .ok (.aload_n 0, 1) := by decide +kernel
theorem dX4_init_5 : decode cX4_init 5 = .ok (.bipush 6, 2) := by decide +kernel
theorem dX4_init_7 : decode cX4_init 7 = .ok (.anewarray 9, 3) := by decide +kernel
theorem dX4_init_10 : decode cX4_init 10 = .ok (.putfield 11, 3) := by decide +kernel
theorem dX4_init_13 : decode cX4_init 13 = .ok (.iconst 0, 1) := by decide +kernel
theorem dX4_init_14 : decode cX4_init 14 = .ok (.istore_n 1, 1) := by decide +kernel
theorem dX4_init_15 : decode cX4_init 15 = .ok (.iload_n 1, 1) := by decide +kernel
theorem dX4_init_16 : decode cX4_init 16 = .ok (.bipush 6, 2) := by decide +kernel
theorem dX4_init_18 : decode cX4_init 18 = .ok (.if_icmp .ge 22, 3) := by decide +kernel
theorem dX4_init_21 : decode cX4_init 21 = .ok (.aload_n 0, 1) := by decide +kernel
theorem dX4_init_22 : decode cX4_init 22 = .ok (.getfield 11, 3) := by decide +kernel
theorem dX4_init_25 : decode cX4_init 25 = .ok (.iload_n 1, 1) := by decide +kernel
theorem dX4_init_26 : decode cX4_init 26 = .ok (.new 9, 3) := by decide +kernel
theorem dX4_init_29 : decode cX4_init 29 = .ok (.dup, 1) := by decide +kernel
theorem dX4_init_30 : decode cX4_init 30 = .ok (.invokespecial 15, 3) := by decide +kernel
theorem dX4_init_33 : decode cX4_init 33 = .ok (.aastore, 1) := by decide +kernel
theorem dX4_init_34 : decode cX4_init 34 = .ok (.iinc 1 1, 3) := by decide +kernel
theorem dX4_init_37 : decode cX4_init 37 = .ok (.goto (-22), 3) := by decide +kernel
theorem dX4_init_40 : decode cX4_init 40 = .ok (.aload_n 0, 1) := by decide +kernel
theorem dX4_init_41 : decode cX4_init 41 = .ok (.bipush 6, 2) := by decide +kernel
theorem dX4_init_43 : decode cX4_init 43 = .ok (.anewarray 16, 3) := by decide +kernel
theorem dX4_init_46 : decode cX4_init 46 = .ok (.putfield 18, 3) := by decide +kernel
theorem dX4_init_49 : decode cX4_init 49 = .ok (.iconst 0, 1) := by decide +kernel
theorem dX4_init_50 : decode cX4_init 50 = .ok (.istore_n 1, 1) := by decide +kernel
theorem dX4_init_51 : decode cX4_init 51 = .ok (.iload_n 1, 1) := by decide +kernel
theorem dX4_init_52 : decode cX4_init 52 = .ok (.bipush 6, 2) := by decide +kernel
theorem dX4_init_54 : decode cX4_init 54 = .ok (.if_icmp .ge 22, 3) := by decide +kernel
theorem dX4_init_57 : decode cX4_init 57 = .ok (.aload_n 0, 1) := by decide +kernel
theorem dX4_init_58 : decode cX4_init 58 = .ok (.getfield 18, 3) := by decide +kernel
theorem dX4_init_61 : decode cX4_init 61 = .ok (.iload_n 1, 1) := by decide +kernel
theorem dX4_init_62 : decode cX4_init 62 = .ok (.new 16, 3) := by decide +kernel
theorem dX4_init_65 : decode cX4_init 65 = .ok (.dup, 1) := by decide +kernel
theorem dX4_init_66 : decode cX4_init 66 = .ok (.invokespecial 22, 3) := by decide +kernel
theorem dX4_init_69 : decode cX4_init 69 = .ok (.aastore, 1) := by decide +kernel
theorem dX4_init_70 : decode cX4_init 70 = .ok (.iinc 1 1, 3) := by decide +kernel
theorem dX4_init_73 : decode cX4_init 73 = .ok (.goto (-22), 3) := by decide +kernel
theorem dX4_init_76 : decode cX4_init 76 = .ok (.aload_n 0, 1) := by decide +kernel
theorem dX4_init_77 : decode cX4_init 77 = .ok (.new 23, 3) := by decide +kernel
theorem dX4_init_80 : decode cX4_init 80 = .ok (.dup, 1) := by decide +kernel
theorem dX4_init_81 : decode cX4_init 81 = .ok (.sipush 192, 3) := by decide +kernel
theorem dX4_init_84 : decode cX4_init 84 = .ok (.invokespecial 25, 3) := by decide +kernel
theorem dX4_init_87 : decode cX4_init 87 = .ok (.putfield 28, 3) := by decide +kernel
theorem dX4_init_90 : decode cX4_init 90 = .ok (.aload_n 0, 1) := by decide +kernel
theorem dX4_init_91 : decode cX4_init 91 = .ok (.sipush 1000, 3) := by decide +kernel
theorem dX4_init_94 : decode cX4_init 94 = .ok (.newarray .byte, 2) := by decide +kernel
theorem dX4_init_96 : decode cX4_init 96 = .ok (.putfield 32, 3) := by decide +kernel
theorem dX4_init_99 : decode cX4_init 99 = .ok (.aload_n 0, 1) := by decide +kernel
theorem dX4_init_100 : decode cX4_init 100 = .ok (.iconst 0, 1) := by decide +kernel
theorem dX4_init_101 : decode cX4_init 101 = .ok (.putfield 36, 3) := by decide +kernel
theorem dX4_init_104 : decode cX4_init 104 = .ok (.aload_n 0, 1) := by decide +kernel
theorem dX4_init_105 : decode cX4_init 105 = .ok (.iconst 0, 1) := by decide +kernel
theorem dX4_init_106 : decode cX4_init 106 = .ok (.putfield 40, 3) := by decide +kernel
theorem dX4_init_109 : decode cX4_init 109 = .ok (.return_, 1) := by decide +kernel
theorem dX4_source_0 : decode cX4_source 0 = .ok (.iload_n 1, 1) := by decide +kernel
theorem dX4_source_1 : decode cX4_source 1 = .ok (.iconst 0, 1) := by decide +kernel
theorem dX4_source_2 : decode cX4_source 2 = .ok (.iconst 5, 1) := by decide +kernel
theorem dX4_source_3 : decode cX4_source 3 = .ok (.invokestatic 43, 3) := by decide +kernel
theorem dX4_source_6 : decode cX4_source 6 = .ok (.ifCond .ne 11, 3) := by decide +kernel
theorem dX4_source_9 : decode cX4_source 9 = .ok (.new 47, 3) := by decide +kernel
theorem dX4_source_12 : decode cX4_source 12 = .ok (.dup, 1) := by decide +kernel
theorem dX4_source_13 : decode cX4_source 13 = .ok (.invokespecial 49, 3) := by decide +kernel
theorem dX4_source_16 : decode cX4_source 16 = .ok (.athrow, 1) := by decide +kernel
theorem dX4_source_17 : decode cX4_source 17 = .ok (.iload_n 2, 1) := by decide +kernel
theorem dX4_source_18 : decode cX4_source 18 = .ok (.iconst 0, 1) := by decide +kernel
theorem dX4_source_19 : decode cX4_source 19 = .ok (.iconst 3, 1) := by decide +kernel
theorem dX4_source_20 : decode cX4_source 20 = .ok (.invokestatic 43, 3) := by decide +kernel
theorem dX4_source_23 : decode cX4_source 23 = .ok (.ifCond .eq 59, 3) := by decide +kernel
theorem dX4_source_26 : decode cX4_source 26 = .ok (.iload_n 3, 1) := by decide +kernel
theorem dX4_source_27 : decode cX4_source 27 = .ok (.iconst 1, 1) := by decide +kernel
theorem dX4_source_28 : decode cX4_source 28 = .ok (.bipush 30, 2) := by decide +kernel
theorem dX4_source_30 : decode cX4_source 30 = .ok (.invokestatic 43, 3) := by decide +kernel
theorem dX4_source_33 : decode cX4_source 33 = .ok (.ifCond .eq 49, 3) := by decide +kernel
theorem dX4_source_36 : decode cX4_source 36 = .ok (.iload 4, 2) := by decide +kernel
theorem dX4_source_38 : decode cX4_source 38 = .ok (.iconst 1, 1) := by decide +kernel
theorem dX4_source_39 : decode cX4_source 39 = .ok (.sipush 2000, 3) := by decide +kernel
theorem dX4_source_42 : decode cX4_source 42 = .ok (.invokestatic 43, 3) := by decide +kernel
theorem dX4_source_45 : decode cX4_source 45 = .ok (.ifCond .eq 37, 3) := by decide +kernel
theorem dX4_source_48 : decode cX4_source 48 = .ok (.iload 5, 2) := by decide +kernel
theorem dX4_source_50 : decode cX4_source 50 = .ok (.iconst 1, 1) := by decide +kernel
theorem dX4_source_51 : decode cX4_source 51 = .ok (.bipush 30, 2) := by decide +kernel
theorem dX4_source_53 : decode cX4_source 53 = .ok (.invokestatic 43, 3) := by decide +kernel
theorem dX4_source_56 : decode cX4_source 56 = .ok (.ifCond .eq 26, 3) := by decide +kernel
theorem dX4_source_59 : decode cX4_source 59 = .ok (.iload 6, 2) := by decide +kernel
theorem dX4_source_61 : decode cX4_source 61 = .ok (.iconst 1, 1) := by decide +kernel
theorem dX4_source_62 : decode cX4_source 62 = .ok (.sipush 500, 3) := by decide +kernel
theorem dX4_source_65 : decode cX4_source 65 = .ok (.invokestatic 43, 3) := by decide +kernel
theorem dX4_source_68 : decode cX4_source 68 = .ok (.ifCond .eq 14, 3) := by decide +kernel
theorem dX4_source_71 : decode cX4_source 71 = .ok (.iload 7, 2) := by decide +kernel
theorem dX4_source_73 : decode cX4_source 73 = .ok (.iconst 0, 1) := by decide +kernel
theorem dX4_source_74 : decode cX4_source 74 = .ok (.bipush 31, 2) := by decide +kernel
theorem dX4_source_76 : decode cX4_source 76 = .ok (.invokestatic 43, 3) := by decide +kernel
theorem dX4_source_79 : decode cX4_source 79 = .ok (.ifCond .ne 11, 3) := by decide +kernel
theorem dX4_source_82 : decode cX4_source 82 = .ok (.new 50, 3) := by decide +kernel
theorem dX4_source_85 : decode cX4_source 85 = .ok (.dup, 1) := by decide +kernel
theorem dX4_source_86 : decode cX4_source 86 = .ok (.invokespecial 52, 3) := by decide +kernel
theorem dX4_source_89 : decode cX4_source 89 = .ok (.athrow, 1) := by decide +kernel
theorem dX4_source_90 : decode cX4_source 90 = .ok (.aload_n 0, 1) := by decide +kernel
theorem dX4_source_91 : decode cX4_source 91 = .ok (.getfield 11, 3) := by decide +kernel
theorem dX4_source_94 : decode cX4_source 94 = .ok (.iload_n 1, 1) := by decide +kernel
theorem dX4_source_95 : decode cX4_source 95 = .ok (.aaload, 1) := by decide +kernel
theorem dX4_source_96 : decode cX4_source 96 = .ok (.astore 8, 2) := by decide +kernel
theorem dX4_source_98 : decode cX4_source 98 = .ok (.aload 8, 2) := by decide +kernel
theorem dX4_source_100 : decode cX4_source 100 = .ok (.getfield 53, 3) := by decide +kernel
theorem dX4_source_103 : decode cX4_source 103 = .ok (.ifCond .ne 12, 3) := by decide +kernel
theorem dX4_source_106 : decode cX4_source 106 = .ok (.aload_n 0, 1) := by decide +kernel
theorem dX4_source_107 : decode cX4_source 107 = .ok (.iload 7, 2) := by decide +kernel
theorem dX4_source_109 : decode cX4_source 109 = .ok (.invokevirtual 57, 3) := by decide +kernel
theorem dX4_source_112 : decode cX4_source 112 = .ok (.ifCond .eq 11, 3) := by decide +kernel
theorem dX4_source_115 : decode cX4_source 115 = .ok (.new 61, 3) := by decide +kernel
theorem dX4_source_118 : decode cX4_source 118 = .ok (.dup, 1) := by decide +kernel
theorem dX4_source_119 : decode cX4_source 119 = .ok (.invokespecial 63, 3) := by decide +kernel
theorem dX4_source_122 : decode cX4_source 122 = .ok (.athrow, 1) := by decide +kernel
theorem dX4_source_123 : decode cX4_source 123 = .ok (.aload 8, 2) := by decide +kernel
theorem dX4_source_125 : decode cX4_source 125 = .ok (.iload_n 2, 1) := by decide +kernel
theorem dX4_source_126 : decode cX4_source 126 = .ok (.iload_n 3, 1) := by decide +kernel
theorem dX4_source_127 : decode cX4_source 127 = .ok (.iload 4, 2) := by decide +kernel
theorem dX4_source_129 : decode cX4_source 129 = .ok (.iload 5, 2) := by decide +kernel
theorem dX4_source_131 : decode cX4_source 131 = .ok (.iload 6, 2) := by decide +kernel
theorem dX4_source_133 : decode cX4_source 133 = .ok (.iload 7, 2) := by decide +kernel
theorem dX4_source_135 : decode cX4_source 135 = .ok (.invokevirtual 64, 3) := by decide +kernel
theorem dX4_source_138 : decode cX4_source 138 = .ok (.aload_n 0, 1) := by decide +kernel
theorem dX4_source_139 : decode cX4_source 139 = .ok (.invokevirtual 68, 3) := by decide +kernel
theorem dX4_source_142 : decode cX4_source 142 = .ok (.ifCond .ne 17, 3) := by decide +kernel
theorem dX4_source_145 : decode cX4_source 145 = .ok (.aload 8, 2) := by decide +kernel
theorem dX4_source_147 : decode cX4_source 147 = .ok (.iconst 0, 1) := by decide +kernel
theorem dX4_source_148 : decode cX4_source 148 = .ok (.putfield 53, 3) := by decide +kernel
theorem dX4_source_151 : decode cX4_source 151 = .ok (.new 61, 3) := by decide +kernel
theorem dX4_source_154 : decode cX4_source 154 = .ok (.dup, 1) := by decide +kernel
theorem dX4_source_155 : decode cX4_source 155 = .ok (.invokespecial 63, 3) := by decide +kernel
theorem dX4_source_158 : decode cX4_source 158 = .ok (.athrow, 1) := by decide +kernel
theorem dX4_source_159 : decode cX4_source 159 = .ok (.aload 8, 2) := by decide +kernel
theorem dX4_source_161 : decode cX4_source 161 = .ok (.invokevirtual 72, 3) := by decide +kernel
theorem dX4_source_164 : decode cX4_source 164 = .ok (.return_, 1) := by decide +kernel
theorem dX4_base_0 : decode cX4_base 0 = .ok (.iload_n 1, 1) := by decide +kernel
theorem dX4_base_1 : decode cX4_base 1 = .ok (.iconst 0, 1) := by decide +kernel
theorem dX4_base_2 : decode cX4_base 2 = .ok (.iconst 5, 1) := by decide +kernel
theorem dX4_base_3 : decode cX4_base 3 = .ok (.invokestatic 43, 3) := by decide +kernel
theorem dX4_base_6 : decode cX4_base 6 = .ok (.ifCond .ne 11, 3) := by decide +kernel
theorem dX4_base_9 : decode cX4_base 9 = .ok (.new 47, 3) := by decide +kernel
theorem dX4_base_12 : decode cX4_base 12 = .ok (.dup, 1) := by decide +kernel
theorem dX4_base_13 : decode cX4_base 13 = .ok (.invokespecial 49, 3) := by decide +kernel
theorem dX4_base_16 : decode cX4_base 16 = .ok (.athrow, 1) := by decide +kernel
theorem dX4_base_17 : decode cX4_base 17 = .ok (.iload_n 2, 1) := by decide +kernel
theorem dX4_base_18 : decode cX4_base 18 = .ok (.iconst 1, 1) := by decide +kernel
theorem dX4_base_19 : decode cX4_base 19 = .ok (.sipush 2000, 3) := by decide +kernel
theorem dX4_base_22 : decode cX4_base 22 = .ok (.invokestatic 43, 3) := by decide +kernel
theorem dX4_base_25 : decode cX4_base 25 = .ok (.ifCond .eq 25, 3) := by decide +kernel
theorem dX4_base_28 : decode cX4_base 28 = .ok (.iload_n 3, 1) := by decide +kernel
theorem dX4_base_29 : decode cX4_base 29 = .ok (.iconst 1, 1) := by decide +kernel
theorem dX4_base_30 : decode cX4_base 30 = .ok (.sipush 500, 3) := by decide +kernel
theorem dX4_base_33 : decode cX4_base 33 = .ok (.invokestatic 43, 3) := by decide +kernel
theorem dX4_base_36 : decode cX4_base 36 = .ok (.ifCond .eq 14, 3) := by decide +kernel
theorem dX4_base_39 : decode cX4_base 39 = .ok (.iload 4, 2) := by decide +kernel
theorem dX4_base_41 : decode cX4_base 41 = .ok (.iconst 0, 1) := by decide +kernel
theorem dX4_base_42 : decode cX4_base 42 = .ok (.bipush 31, 2) := by decide +kernel
theorem dX4_base_44 : decode cX4_base 44 = .ok (.invokestatic 43, 3) := by decide +kernel
theorem dX4_base_47 : decode cX4_base 47 = .ok (.ifCond .ne 11, 3) := by decide +kernel
theorem dX4_base_50 : decode cX4_base 50 = .ok (.new 50, 3) := by decide +kernel
theorem dX4_base_53 : decode cX4_base 53 = .ok (.dup, 1) := by decide +kernel
theorem dX4_base_54 : decode cX4_base 54 = .ok (.invokespecial 52, 3) := by decide +kernel
theorem dX4_base_57 : decode cX4_base 57 = .ok (.athrow, 1) := by decide +kernel
theorem dX4_base_58 : decode cX4_base 58 = .ok (.aload_n 0, 1) := by decide +kernel
theorem dX4_base_59 : decode cX4_base 59 = .ok (.getfield 18, 3) := by decide +kernel
theorem dX4_base_62 : decode cX4_base 62 = .ok (.iload_n 1, 1) := by decide +kernel
theorem dX4_base_63 : decode cX4_base 63 = .ok (.aaload, 1) := by decide +kernel
theorem dX4_base_64 : decode cX4_base 64 = .ok (.astore 5, 2) := by decide +kernel
theorem dX4_base_66 : decode cX4_base 66 = .ok (.aload 5, 2) := by decide +kernel
theorem dX4_base_68 : decode cX4_base 68 = .ok (.getfield 75, 3) := by decide +kernel
theorem dX4_base_71 : decode cX4_base 71 = .ok (.ifCond .ne 12, 3) := by decide +kernel
theorem dX4_base_74 : decode cX4_base 74 = .ok (.aload_n 0, 1) := by decide +kernel
theorem dX4_base_75 : decode cX4_base 75 = .ok (.iload 4, 2) := by decide +kernel
theorem dX4_base_77 : decode cX4_base 77 = .ok (.invokevirtual 76, 3) := by decide +kernel
theorem dX4_base_80 : decode cX4_base 80 = .ok (.ifCond .eq 11, 3) := by decide +kernel
theorem dX4_base_83 : decode cX4_base 83 = .ok (.new 61, 3) := by decide +kernel
theorem dX4_base_86 : decode cX4_base 86 = .ok (.dup, 1) := by decide +kernel
theorem dX4_base_87 : decode cX4_base 87 = .ok (.invokespecial 63, 3) := by decide +kernel
theorem dX4_base_90 : decode cX4_base 90 = .ok (.athrow, 1) := by decide +kernel
theorem dX4_base_91 : decode cX4_base 91 = .ok (.aload 5, 2) := by decide +kernel
theorem dX4_base_93 : decode cX4_base 93 = .ok (.iload_n 2, 1) := by decide +kernel
theorem dX4_base_94 : decode cX4_base 94 = .ok (.iload_n 3, 1) := by decide +kernel
theorem dX4_base_95 : decode cX4_base 95 = .ok (.iload 4, 2) := by decide +kernel
theorem dX4_base_97 : decode cX4_base 97 = .ok (.aload_n 0, 1) := by decide +kernel
theorem dX4_base_98 : decode cX4_base 98 = .ok (.getfield 40, 3) := by decide +kernel
theorem dX4_base_101 : decode cX4_base 101 = .ok (.invokevirtual 79, 3) := by decide +kernel
theorem dX4_base_104 : decode cX4_base 104 = .ok (.aload 5, 2) := by decide +kernel
theorem dX4_base_106 : decode cX4_base 106 = .ok (.aload_n 0, 1) := by decide +kernel
theorem dX4_base_107 : decode cX4_base 107 = .ok (.invokevirtual 68, 3) := by decide +kernel
theorem dX4_base_110 : decode cX4_base 110 = .ok (.putfield 75, 3) := by decide +kernel
theorem dX4_base_113 : decode cX4_base 113 = .ok (.aload 5, 2) := by decide +kernel
theorem dX4_base_115 : decode cX4_base 115 = .ok (.getfield 75, 3) := by decide +kernel
theorem dX4_base_118 : decode cX4_base 118 = .ok (.ireturn, 1) := by decide +kernel
theorem dX4_event_0 : decode cX4_event 0 = .ok (.aload_n 0, 1) := by decide +kernel
theorem dX4_event_1 : decode cX4_event 1 = .ok (.iload_n 1, 1) := by decide +kernel
theorem dX4_event_2 : decode cX4_event 2 = .ok (.invokevirtual 82, 3) := by decide +kernel
theorem dX4_event_5 : decode cX4_event 5 = .ok (.astore_n 2, 1) := by decide +kernel
theorem dX4_event_6 : decode cX4_event 6 = .ok (.aload_n 2, 1) := by decide +kernel
theorem dX4_event_7 : decode cX4_event 7 = .ok (.aload_n 0, 1) := by decide +kernel
theorem dX4_event_8 : decode cX4_event 8 = .ok (.getfield 40, 3) := by decide +kernel
theorem dX4_event_11 : decode cX4_event 11 = .ok (.invokevirtual 86, 3) := by decide +kernel
theorem dX4_event_14 : decode cX4_event 14 = .ok (.ifCond .ne 5, 3) := by decide +kernel
theorem dX4_event_17 : decode cX4_event 17 = .ok (.iconst 0, 1) := by decide +kernel
theorem dX4_event_18 : decode cX4_event 18 = .ok (.ireturn, 1) := by decide +kernel
theorem dX4_event_19 : decode cX4_event 19 = .ok (.aload_n 2, 1) := by decide +kernel
theorem dX4_event_20 : decode cX4_event 20 = .ok (.getfield 89, 3) := by decide +kernel
theorem dX4_event_23 : decode cX4_event 23 = .ok (.ifCond .le 11, 3) := by decide +kernel
theorem dX4_event_26 : decode cX4_event 26 = .ok (.aload_n 0, 1) := by decide +kernel
theorem dX4_event_27 : decode cX4_event 27 = .ok (.getfield 28, 3) := by decide +kernel
theorem dX4_event_30 : decode cX4_event 30 = .ok (.iload_n 1, 1) := by decide +kernel
theorem dX4_event_31 : decode cX4_event 31 = .ok (.invokevirtual 92, 3) := by decide +kernel
theorem dX4_event_34 : decode cX4_event 34 = .ok (.iconst 1, 1) := by decide +kernel
theorem dX4_event_35 : decode cX4_event 35 = .ok (.ireturn, 1) := by decide +kernel
theorem dX4_tick_0 : decode cX4_tick 0 = .ok (.aload_n 0, 1) := by decide +kernel
theorem dX4_tick_1 : decode cX4_tick 1 = .ok (.invokevirtual 95, 3) := by decide +kernel
theorem dX4_tick_4 : decode cX4_tick 4 = .ok (.aload_n 0, 1) := by decide +kernel
theorem dX4_tick_5 : decode cX4_tick 5 = .ok (.invokevirtual 98, 3) := by decide +kernel
theorem dX4_tick_8 : decode cX4_tick 8 = .ok (.istore_n 1, 1) := by decide +kernel
theorem dX4_tick_9 : decode cX4_tick 9 = .ok (.aload_n 0, 1) := by decide +kernel
theorem dX4_tick_10 : decode cX4_tick 10 = .ok (.getfield 32, 3) := by decide +kernel
theorem dX4_tick_13 : decode cX4_tick 13 = .ok (.aload_n 0, 1) := by decide +kernel
theorem dX4_tick_14 : decode cX4_tick 14 = .ok (.getfield 40, 3) := by decide +kernel
theorem dX4_tick_17 : decode cX4_tick 17 = .ok (.sipush 1000, 3) := by decide +kernel
theorem dX4_tick_20 : decode cX4_tick 20 = .ok (.invokestatic 102, 3) := by decide +kernel
theorem dX4_tick_23 : decode cX4_tick 23 = .ok (.iload_n 1, 1) := by decide +kernel
theorem dX4_tick_24 : decode cX4_tick 24 = .ok (.i2b, 1) := by decide +kernel
theorem dX4_tick_25 : decode cX4_tick 25 = .ok (.bastore, 1) := by decide +kernel
theorem dX4_tick_26 : decode cX4_tick 26 = .ok (.aload_n 0, 1) := by decide +kernel
theorem dX4_tick_27 : decode cX4_tick 27 = .ok (.dup, 1) := by decide +kernel
theorem dX4_tick_28 : decode cX4_tick 28 = .ok (.getfield 40, 3) := by decide +kernel
theorem dX4_tick_31 : decode cX4_tick 31 = .ok (.iconst 1, 1) := by decide +kernel
theorem dX4_tick_32 : decode cX4_tick 32 = .ok (.iadd, 1) := by decide +kernel
theorem dX4_tick_33 : decode cX4_tick 33 = .ok (.putfield 40, 3) := by decide +kernel
theorem dX4_tick_36 : decode cX4_tick 36 = .ok (.aload_n 0, 1) := by decide +kernel
theorem dX4_tick_37 : decode cX4_tick 37 = .ok (.invokevirtual 108, 3) := by decide +kernel
theorem dX4_tick_40 : decode cX4_tick 40 = .ok (.iload_n 1, 1) := by decide +kernel
theorem dX4_tick_41 : decode cX4_tick 41 = .ok (.ireturn, 1) := by decide +kernel
theorem dX4_ticks_0 : decode cX4_ticks 0 = .ok (.iload_n 1, 1) := by decide +kernel
theorem dX4_ticks_1 : decode cX4_ticks 1 = .ok (.iconst 0, 1) := by decide +kernel
theorem dX4_ticks_2 : decode cX4_ticks 2 = .ok (.sipush 500, 3) := by decide +kernel
theorem dX4_ticks_5 : decode cX4_ticks 5 = .ok (.invokestatic 43, 3) := by decide +kernel
theorem dX4_ticks_8 : decode cX4_ticks 8 = .ok (.ifCond .ne 11, 3) := by decide +kernel
theorem dX4_ticks_11 : decode cX4_ticks 11 = .ok (.new 50, 3) := by decide +kernel
theorem dX4_ticks_14 : decode cX4_ticks 14 = .ok (.dup, 1) := by decide +kernel
theorem dX4_ticks_15 : decode cX4_ticks 15 = .ok (.invokespecial 52, 3) := by decide +kernel
theorem dX4_ticks_18 : decode cX4_ticks 18 = .ok (.athrow, 1) := by decide +kernel
theorem dX4_ticks_19 : decode cX4_ticks 19 = .ok (.iconst 0, 1) := by decide +kernel
theorem dX4_ticks_20 : decode cX4_ticks 20 = .ok (.istore_n 2, 1) := by decide +kernel
theorem dX4_ticks_21 : decode cX4_ticks 21 = .ok (.iconst 0, 1) := by decide +kernel
theorem dX4_ticks_22 : decode cX4_ticks 22 = .ok (.istore_n 3, 1) := by decide +kernel
theorem dX4_ticks_23 : decode cX4_ticks 23 = .ok (.iload_n 3, 1) := by decide +kernel
theorem dX4_ticks_24 : decode cX4_ticks 24 = .ok (.iload_n 1, 1) := by decide +kernel
theorem dX4_ticks_25 : decode cX4_ticks 25 = .ok (.if_icmp .ge 19, 3) := by decide +kernel
theorem dX4_ticks_28 : decode cX4_ticks 28 = .ok (.aload_n 0, 1) := by decide +kernel
theorem dX4_ticks_29 : decode cX4_ticks 29 = .ok (.invokevirtual 111, 3) := by decide +kernel
theorem dX4_ticks_32 : decode cX4_ticks 32 = .ok (.ifCond .eq 6, 3) := by decide +kernel
theorem dX4_ticks_35 : decode cX4_ticks 35 = .ok (.iinc 2 1, 3) := by decide +kernel
theorem dX4_ticks_38 : decode cX4_ticks 38 = .ok (.iinc 3 1, 3) := by decide +kernel
theorem dX4_ticks_41 : decode cX4_ticks 41 = .ok (.goto (-18), 3) := by decide +kernel
theorem dX4_ticks_44 : decode cX4_ticks 44 = .ok (.iload_n 2, 1) := by decide +kernel
theorem dX4_ticks_45 : decode cX4_ticks 45 = .ok (.ireturn, 1) := by decide +kernel
theorem dX4_about_0 : decode cX4_about 0 = .ok (.aload_n 0, 1) := by decide +kernel
theorem dX4_about_1 : decode cX4_about 1 = .ok (.iload_n 1, 1) := by decide +kernel
theorem dX4_about_2 : decode cX4_about 2 = .ok (.invokevirtual 82, 3) := by decide +kernel
theorem dX4_about_5 : decode cX4_about 5 = .ok (.astore_n 3, 1) := by decide +kernel
theorem dX4_about_6 : decode cX4_about 6 = .ok (.iload_n 2, 1) := by decide +kernel
theorem dX4_about_7 : decode cX4_about 7 = .ok (.tableswitch 167 0 12 #[65, 70, 75, 80, 88, 101, 106, 114, 122, 130, 138, 143, 148], 65) := by decide +kernel
theorem dX4_about_72 : decode cX4_about 72 = .ok (.aload_n 3, 1) := by decide +kernel
theorem dX4_about_73 : decode cX4_about 73 = .ok (.getfield 114, 3) := by decide +kernel
theorem dX4_about_76 : decode cX4_about 76 = .ok (.ireturn, 1) := by decide +kernel
theorem dX4_about_77 : decode cX4_about 77 = .ok (.aload_n 3, 1) := by decide +kernel
theorem dX4_about_78 : decode cX4_about 78 = .ok (.getfield 117, 3) := by decide +kernel
theorem dX4_about_81 : decode cX4_about 81 = .ok (.ireturn, 1) := by decide +kernel
theorem dX4_about_82 : decode cX4_about 82 = .ok (.aload_n 3, 1) := by decide +kernel
theorem dX4_about_83 : decode cX4_about 83 = .ok (.getfield 120, 3) := by decide +kernel
theorem dX4_about_86 : decode cX4_about 86 = .ok (.ireturn, 1) := by decide +kernel
theorem dX4_about_87 : decode cX4_about 87 = .ok (.aload_n 3, 1) := by decide +kernel
theorem dX4_about_88 : decode cX4_about 88 = .ok (.getfield 123, 3) := by decide +kernel
theorem dX4_about_91 : decode cX4_about 91 = .ok (.getfield 126, 3) := by decide +kernel
theorem dX4_about_94 : decode cX4_about 94 = .ok (.ireturn, 1) := by decide +kernel
theorem dX4_about_95 : decode cX4_about 95 = .ok (.aload_n 3, 1) := by decide +kernel
theorem dX4_about_96 : decode cX4_about 96 = .ok (.getfield 129, 3) := by decide +kernel
theorem dX4_about_99 : decode cX4_about 99 = .ok (.ifCond .eq 7, 3) := by decide +kernel
theorem dX4_about_102 : decode cX4_about 102 = .ok (.iconst 1, 1) := by decide +kernel
theorem dX4_about_103 : decode cX4_about 103 = .ok (.goto 4, 3) := by decide +kernel
theorem dX4_about_106 : decode cX4_about 106 = .ok (.iconst 0, 1) := by decide +kernel
theorem dX4_about_107 : decode cX4_about 107 = .ok (.ireturn, 1) := by decide +kernel
theorem dX4_about_108 : decode cX4_about 108 = .ok (.aload_n 3, 1) := by decide +kernel
theorem dX4_about_109 : decode cX4_about 109 = .ok (.getfield 132, 3) := by decide +kernel
theorem dX4_about_112 : decode cX4_about 112 = .ok (.ireturn, 1) := by decide +kernel
theorem dX4_about_113 : decode cX4_about 113 = .ok (.aload_n 3, 1) := by decide +kernel
theorem dX4_about_114 : decode cX4_about 114 = .ok (.getfield 135, 3) := by decide +kernel
theorem dX4_about_117 : decode cX4_about 117 = .ok (.getfield 126, 3) := by decide +kernel
theorem dX4_about_120 : decode cX4_about 120 = .ok (.ireturn, 1) := by decide +kernel
theorem dX4_about_121 : decode cX4_about 121 = .ok (.aload_n 3, 1) := by decide +kernel
theorem dX4_about_122 : decode cX4_about 122 = .ok (.getfield 138, 3) := by decide +kernel
theorem dX4_about_125 : decode cX4_about 125 = .ok (.getfield 142, 3) := by decide +kernel
theorem dX4_about_128 : decode cX4_about 128 = .ok (.ireturn, 1) := by decide +kernel
theorem dX4_about_129 : decode cX4_about 129 = .ok (.aload_n 3, 1) := by decide +kernel
theorem dX4_about_130 : decode cX4_about 130 = .ok (.getfield 138, 3) := by decide +kernel
theorem dX4_about_133 : decode cX4_about 133 = .ok (.invokevirtual 145, 3) := by decide +kernel
theorem dX4_about_136 : decode cX4_about 136 = .ok (.ireturn, 1) := by decide +kernel
theorem dX4_about_137 : decode cX4_about 137 = .ok (.aload_n 3, 1) := by decide +kernel
theorem dX4_about_138 : decode cX4_about 138 = .ok (.getfield 138, 3) := by decide +kernel
theorem dX4_about_141 : decode cX4_about 141 = .ok (.invokevirtual 148, 3) := by decide +kernel
theorem dX4_about_144 : decode cX4_about 144 = .ok (.ireturn, 1) := by decide +kernel
theorem dX4_about_145 : decode cX4_about 145 = .ok (.aload_n 3, 1) := by decide +kernel
theorem dX4_about_146 : decode cX4_about 146 = .ok (.getfield 151, 3) := by decide +kernel
theorem dX4_about_149 : decode cX4_about 149 = .ok (.ireturn, 1) := by decide +kernel
theorem dX4_about_150 : decode cX4_about 150 = .ok (.aload_n 3, 1) := by decide +kernel
theorem dX4_about_151 : decode cX4_about 151 = .ok (.getfield 154, 3) := by decide +kernel
theorem dX4_about_154 : decode cX4_about 154 = .ok (.ireturn, 1) := by decide +kernel
theorem dX4_about_155 : decode cX4_about 155 = .ok (.aload_n 3, 1) := by decide +kernel
theorem dX4_about_156 : decode cX4_about 156 = .ok (.getfield 123, 3) := by decide +kernel
theorem dX4_about_159 : decode cX4_about 159 = .ok (.getfield 126, 3) := by decide +kernel
theorem dX4_about_162 : decode cX4_about 162 = .ok (.ifCond .le 10, 3) := by decide +kernel
theorem dX4_about_165 : decode cX4_about 165 = .ok (.aload_n 3, 1) := by decide +kernel
theorem dX4_about_166 : decode cX4_about 166 = .ok (.getfield 157, 3) := by decide +kernel
theorem dX4_about_169 : decode cX4_about 169 = .ok (.goto 4, 3) := by decide +kernel
theorem dX4_about_172 : decode cX4_about 172 = .ok (.iconst (-1), 1) := by decide +kernel
theorem dX4_about_173 : decode cX4_about 173 = .ok (.ireturn, 1) := by decide +kernel
theorem dX4_about_174 : decode cX4_about 174 = .ok (.new 160, 3) := by decide +kernel
theorem dX4_about_177 : decode cX4_about 177 = .ok (.dup, 1) := by decide +kernel
theorem dX4_about_178 : decode cX4_about 178 = .ok (.invokespecial 162, 3) := by decide +kernel
theorem dX4_about_181 : decode cX4_about 181 = .ok (.athrow, 1) := by decide +kernel
theorem dX4_task_0 : decode cX4_task 0 = .ok (.iload_n 1, 1) := by decide +kernel
theorem dX4_task_1 : decode cX4_task 1 = .ok (.iconst 0, 1) := by decide +kernel
theorem dX4_task_2 : decode cX4_task 2 = .ok (.iconst 5, 1) := by decide +kernel
theorem dX4_task_3 : decode cX4_task 3 = .ok (.invokestatic 43, 3) := by decide +kernel
theorem dX4_task_6 : decode cX4_task 6 = .ok (.ifCond .eq 15, 3) := by decide +kernel
theorem dX4_task_9 : decode cX4_task 9 = .ok (.aload_n 0, 1) := by decide +kernel
theorem dX4_task_10 : decode cX4_task 10 = .ok (.getfield 18, 3) := by decide +kernel
theorem dX4_task_13 : decode cX4_task 13 = .ok (.iload_n 1, 1) := by decide +kernel
theorem dX4_task_14 : decode cX4_task 14 = .ok (.aaload, 1) := by decide +kernel
theorem dX4_task_15 : decode cX4_task 15 = .ok (.getfield 75, 3) := by decide +kernel
theorem dX4_task_18 : decode cX4_task 18 = .ok (.ifCond .ne 11, 3) := by decide +kernel
theorem dX4_task_21 : decode cX4_task 21 = .ok (.new 47, 3) := by decide +kernel
theorem dX4_task_24 : decode cX4_task 24 = .ok (.dup, 1) := by decide +kernel
theorem dX4_task_25 : decode cX4_task 25 = .ok (.invokespecial 49, 3) := by decide +kernel
theorem dX4_task_28 : decode cX4_task 28 = .ok (.athrow, 1) := by decide +kernel
theorem dX4_task_29 : decode cX4_task 29 = .ok (.aload_n 0, 1) := by decide +kernel
theorem dX4_task_30 : decode cX4_task 30 = .ok (.getfield 18, 3) := by decide +kernel
theorem dX4_task_33 : decode cX4_task 33 = .ok (.iload_n 1, 1) := by decide +kernel
theorem dX4_task_34 : decode cX4_task 34 = .ok (.aaload, 1) := by decide +kernel
theorem dX4_task_35 : decode cX4_task 35 = .ok (.astore_n 3, 1) := by decide +kernel
theorem dX4_task_36 : decode cX4_task 36 = .ok (.iload_n 2, 1) := by decide +kernel
theorem dX4_task_37 : decode cX4_task 37 = .ok (.tableswitch 52 0 3 #[31, 36, 41, 46], 31) := by decide +kernel
theorem dX4_task_68 : decode cX4_task 68 = .ok (.aload_n 3, 1) := by decide +kernel
theorem dX4_task_69 : decode cX4_task 69 = .ok (.getfield 163, 3) := by decide +kernel
theorem dX4_task_72 : decode cX4_task 72 = .ok (.ireturn, 1) := by decide +kernel
theorem dX4_task_73 : decode cX4_task 73 = .ok (.aload_n 3, 1) := by decide +kernel
theorem dX4_task_74 : decode cX4_task 74 = .ok (.getfield 166, 3) := by decide +kernel
theorem dX4_task_77 : decode cX4_task 77 = .ok (.ireturn, 1) := by decide +kernel
theorem dX4_task_78 : decode cX4_task 78 = .ok (.aload_n 3, 1) := by decide +kernel
theorem dX4_task_79 : decode cX4_task 79 = .ok (.getfield 169, 3) := by decide +kernel
theorem dX4_task_82 : decode cX4_task 82 = .ok (.ireturn, 1) := by decide +kernel
theorem dX4_task_83 : decode cX4_task 83 = .ok (.aload_n 0, 1) := by decide +kernel
theorem dX4_task_84 : decode cX4_task 84 = .ok (.aload_n 3, 1) := by decide +kernel
theorem dX4_task_85 : decode cX4_task 85 = .ok (.invokevirtual 172, 3) := by decide +kernel
theorem dX4_task_88 : decode cX4_task 88 = .ok (.ireturn, 1) := by decide +kernel
theorem dX4_task_89 : decode cX4_task 89 = .ok (.new 160, 3) := by decide +kernel
theorem dX4_task_92 : decode cX4_task 92 = .ok (.dup, 1) := by decide +kernel
theorem dX4_task_93 : decode cX4_task 93 = .ok (.invokespecial 162, 3) := by decide +kernel
theorem dX4_task_96 : decode cX4_task 96 = .ok (.athrow, 1) := by decide +kernel
theorem dX4_bound_0 : decode cX4_bound 0 = .ok (.aload_n 0, 1) := by decide +kernel
theorem dX4_bound_1 : decode cX4_bound 1 = .ok (.aload_n 0, 1) := by decide +kernel
theorem dX4_bound_2 : decode cX4_bound 2 = .ok (.iload_n 1, 1) := by decide +kernel
theorem dX4_bound_3 : decode cX4_bound 3 = .ok (.invokevirtual 82, 3) := by decide +kernel
theorem dX4_bound_6 : decode cX4_bound 6 = .ok (.invokevirtual 176, 3) := by decide +kernel
theorem dX4_bound_9 : decode cX4_bound 9 = .ok (.ireturn, 1) := by decide +kernel
theorem dX4_used_0 : decode cX4_used 0 = .ok (.aload_n 0, 1) := by decide +kernel
theorem dX4_used_1 : decode cX4_used 1 = .ok (.iload_n 1, 1) := by decide +kernel
theorem dX4_used_2 : decode cX4_used 2 = .ok (.invokevirtual 82, 3) := by decide +kernel
theorem dX4_used_5 : decode cX4_used 5 = .ok (.pop, 1) := by decide +kernel
theorem dX4_used_6 : decode cX4_used 6 = .ok (.iload_n 3, 1) := by decide +kernel
theorem dX4_used_7 : decode cX4_used 7 = .ok (.ifCond .lt 30, 3) := by decide +kernel
theorem dX4_used_10 : decode cX4_used 10 = .ok (.iload_n 3, 1) := by decide +kernel
theorem dX4_used_11 : decode cX4_used 11 = .ok (.iload 4, 2) := by decide +kernel
theorem dX4_used_13 : decode cX4_used 13 = .ok (.if_icmp .gt 24, 3) := by decide +kernel
theorem dX4_used_16 : decode cX4_used 16 = .ok (.iload 4, 2) := by decide +kernel
theorem dX4_used_18 : decode cX4_used 18 = .ok (.aload_n 0, 1) := by decide +kernel
theorem dX4_used_19 : decode cX4_used 19 = .ok (.getfield 40, 3) := by decide +kernel
theorem dX4_used_22 : decode cX4_used 22 = .ok (.if_icmp .gt 15, 3) := by decide +kernel
theorem dX4_used_25 : decode cX4_used 25 = .ok (.aload_n 0, 1) := by decide +kernel
theorem dX4_used_26 : decode cX4_used 26 = .ok (.getfield 40, 3) := by decide +kernel
theorem dX4_used_29 : decode cX4_used 29 = .ok (.iload_n 3, 1) := by decide +kernel
theorem dX4_used_30 : decode cX4_used 30 = .ok (.isub, 1) := by decide +kernel
theorem dX4_used_31 : decode cX4_used 31 = .ok (.sipush 1000, 3) := by decide +kernel
theorem dX4_used_34 : decode cX4_used 34 = .ok (.if_icmp .le 11, 3) := by decide +kernel
theorem dX4_used_37 : decode cX4_used 37 = .ok (.new 160, 3) := by decide +kernel
theorem dX4_used_40 : decode cX4_used 40 = .ok (.dup, 1) := by decide +kernel
theorem dX4_used_41 : decode cX4_used 41 = .ok (.invokespecial 162, 3) := by decide +kernel
theorem dX4_used_44 : decode cX4_used 44 = .ok (.athrow, 1) := by decide +kernel
theorem dX4_used_45 : decode cX4_used 45 = .ok (.iconst 0, 1) := by decide +kernel
theorem dX4_used_46 : decode cX4_used 46 = .ok (.istore 5, 2) := by decide +kernel
theorem dX4_used_48 : decode cX4_used 48 = .ok (.iload_n 3, 1) := by decide +kernel
theorem dX4_used_49 : decode cX4_used 49 = .ok (.istore 6, 2) := by decide +kernel
theorem dX4_used_51 : decode cX4_used 51 = .ok (.iload 6, 2) := by decide +kernel
theorem dX4_used_53 : decode cX4_used 53 = .ok (.iload 4, 2) := by decide +kernel
theorem dX4_used_55 : decode cX4_used 55 = .ok (.if_icmp .ge 47, 3) := by decide +kernel
theorem dX4_used_58 : decode cX4_used 58 = .ok (.aload_n 0, 1) := by decide +kernel
theorem dX4_used_59 : decode cX4_used 59 = .ok (.getfield 32, 3) := by decide +kernel
theorem dX4_used_62 : decode cX4_used 62 = .ok (.iload 6, 2) := by decide +kernel
theorem dX4_used_64 : decode cX4_used 64 = .ok (.sipush 1000, 3) := by decide +kernel
theorem dX4_used_67 : decode cX4_used 67 = .ok (.irem, 1) := by decide +kernel
theorem dX4_used_68 : decode cX4_used 68 = .ok (.baload, 1) := by decide +kernel
theorem dX4_used_69 : decode cX4_used 69 = .ok (.istore 7, 2) := by decide +kernel
theorem dX4_used_71 : decode cX4_used 71 = .ok (.iload 7, 2) := by decide +kernel
theorem dX4_used_73 : decode cX4_used 73 = .ok (.bipush 20, 2) := by decide +kernel
theorem dX4_used_75 : decode cX4_used 75 = .ok (.iload_n 1, 1) := by decide +kernel
theorem dX4_used_76 : decode cX4_used 76 = .ok (.iadd, 1) := by decide +kernel
theorem dX4_used_77 : decode cX4_used 77 = .ok (.if_icmp .eq 16, 3) := by decide +kernel
theorem dX4_used_80 : decode cX4_used 80 = .ok (.iload_n 2, 1) := by decide +kernel
theorem dX4_used_81 : decode cX4_used 81 = .ok (.ifCond .eq 15, 3) := by decide +kernel
theorem dX4_used_84 : decode cX4_used 84 = .ok (.iload 7, 2) := by decide +kernel
theorem dX4_used_86 : decode cX4_used 86 = .ok (.bipush 10, 2) := by decide +kernel
theorem dX4_used_88 : decode cX4_used 88 = .ok (.iload_n 1, 1) := by decide +kernel
theorem dX4_used_89 : decode cX4_used 89 = .ok (.iadd, 1) := by decide +kernel
theorem dX4_used_90 : decode cX4_used 90 = .ok (.if_icmp .ne 6, 3) := by decide +kernel
theorem dX4_used_93 : decode cX4_used 93 = .ok (.iinc 5 1, 3) := by decide +kernel
theorem dX4_used_96 : decode cX4_used 96 = .ok (.iinc 6 1, 3) := by decide +kernel
theorem dX4_used_99 : decode cX4_used 99 = .ok (.goto (-48), 3) := by decide +kernel
theorem dX4_used_102 : decode cX4_used 102 = .ok (.iload 5, 2) := by decide +kernel
theorem dX4_used_104 : decode cX4_used 104 = .ok (.ireturn, 1) := by decide +kernel
theorem dX4_floor_0 : decode cX4_floor 0 = .ok (.iload_n 1, 1) := by decide +kernel
theorem dX4_floor_1 : decode cX4_floor 1 = .ok (.iconst 0, 1) := by decide +kernel
theorem dX4_floor_2 : decode cX4_floor 2 = .ok (.ldc 180, 2) := by decide +kernel
theorem dX4_floor_4 : decode cX4_floor 4 = .ok (.invokestatic 43, 3) := by decide +kernel
theorem dX4_floor_7 : decode cX4_floor 7 = .ok (.ifCond .ne 11, 3) := by decide +kernel
theorem dX4_floor_10 : decode cX4_floor 10 = .ok (.new 50, 3) := by decide +kernel
theorem dX4_floor_13 : decode cX4_floor 13 = .ok (.dup, 1) := by decide +kernel
theorem dX4_floor_14 : decode cX4_floor 14 = .ok (.invokespecial 52, 3) := by decide +kernel
theorem dX4_floor_17 : decode cX4_floor 17 = .ok (.athrow, 1) := by decide +kernel
theorem dX4_floor_18 : decode cX4_floor 18 = .ok (.iconst 0, 1) := by decide +kernel
theorem dX4_floor_19 : decode cX4_floor 19 = .ok (.iload_n 1, 1) := by decide +kernel
theorem dX4_floor_20 : decode cX4_floor 20 = .ok (.aload_n 0, 1) := by decide +kernel
theorem dX4_floor_21 : decode cX4_floor 21 = .ok (.iconst (-1), 1) := by decide +kernel
theorem dX4_floor_22 : decode cX4_floor 22 = .ok (.iload_n 1, 1) := by decide +kernel
theorem dX4_floor_23 : decode cX4_floor 23 = .ok (.invokevirtual 181, 3) := by decide +kernel
theorem dX4_floor_26 : decode cX4_floor 26 = .ok (.isub, 1) := by decide +kernel
theorem dX4_floor_27 : decode cX4_floor 27 = .ok (.aload_n 0, 1) := by decide +kernel
theorem dX4_floor_28 : decode cX4_floor 28 = .ok (.iload_n 1, 1) := by decide +kernel
theorem dX4_floor_29 : decode cX4_floor 29 = .ok (.invokevirtual 184, 3) := by decide +kernel
theorem dX4_floor_32 : decode cX4_floor 32 = .ok (.isub, 1) := by decide +kernel
theorem dX4_floor_33 : decode cX4_floor 33 = .ok (.invokestatic 188, 3) := by decide +kernel
theorem dX4_floor_36 : decode cX4_floor 36 = .ok (.ireturn, 1) := by decide +kernel
theorem dX4_time_0 : decode cX4_time 0 = .ok (.aload_n 0, 1) := by decide +kernel
theorem dX4_time_1 : decode cX4_time 1 = .ok (.getfield 40, 3) := by decide +kernel
theorem dX4_time_4 : decode cX4_time 4 = .ok (.ireturn, 1) := by decide +kernel
theorem dX4_within_0 : decode cX4_within 0 = .ok (.iload_n 1, 1) := by decide +kernel
theorem dX4_within_1 : decode cX4_within 1 = .ok (.iload_n 0, 1) := by decide +kernel
theorem dX4_within_2 : decode cX4_within 2 = .ok (.if_icmp .gt 12, 3) := by decide +kernel
theorem dX4_within_5 : decode cX4_within 5 = .ok (.iload_n 0, 1) := by decide +kernel
theorem dX4_within_6 : decode cX4_within 6 = .ok (.iload_n 2, 1) := by decide +kernel
theorem dX4_within_7 : decode cX4_within 7 = .ok (.if_icmp .gt 7, 3) := by decide +kernel
theorem dX4_within_10 : decode cX4_within 10 = .ok (.iconst 1, 1) := by decide +kernel
theorem dX4_within_11 : decode cX4_within 11 = .ok (.goto 4, 3) := by decide +kernel
theorem dX4_within_14 : decode cX4_within 14 = .ok (.iconst 0, 1) := by decide +kernel
theorem dX4_within_15 : decode cX4_within 15 = .ok (.ireturn, 1) := by decide +kernel
theorem dX4_toldSource_0 : decode cX4_toldSource 0 = .ok (.iload_n 1, 1) := by decide +kernel
theorem dX4_toldSource_1 : decode cX4_toldSource 1 = .ok (.iconst 0, 1) := by decide +kernel
theorem dX4_toldSource_2 : decode cX4_toldSource 2 = .ok (.iconst 5, 1) := by decide +kernel
theorem dX4_toldSource_3 : decode cX4_toldSource 3 = .ok (.invokestatic 43, 3) := by decide +kernel
theorem dX4_toldSource_6 : decode cX4_toldSource 6 = .ok (.ifCond .eq 15, 3) := by decide +kernel
theorem dX4_toldSource_9 : decode cX4_toldSource 9 = .ok (.aload_n 0, 1) := by decide +kernel
theorem dX4_toldSource_10 : decode cX4_toldSource 10 = .ok (.getfield 11, 3) := by decide +kernel
theorem dX4_toldSource_13 : decode cX4_toldSource 13 = .ok (.iload_n 1, 1) := by decide +kernel
theorem dX4_toldSource_14 : decode cX4_toldSource 14 = .ok (.aaload, 1) := by decide +kernel
theorem dX4_toldSource_15 : decode cX4_toldSource 15 = .ok (.getfield 53, 3) := by decide +kernel
theorem dX4_toldSource_18 : decode cX4_toldSource 18 = .ok (.ifCond .ne 11, 3) := by decide +kernel
theorem dX4_toldSource_21 : decode cX4_toldSource 21 = .ok (.new 47, 3) := by decide +kernel
theorem dX4_toldSource_24 : decode cX4_toldSource 24 = .ok (.dup, 1) := by decide +kernel
theorem dX4_toldSource_25 : decode cX4_toldSource 25 = .ok (.invokespecial 49, 3) := by decide +kernel
theorem dX4_toldSource_28 : decode cX4_toldSource 28 = .ok (.athrow, 1) := by decide +kernel
theorem dX4_toldSource_29 : decode cX4_toldSource 29 = .ok (.aload_n 0, 1) := by decide +kernel
theorem dX4_toldSource_30 : decode cX4_toldSource 30 = .ok (.getfield 11, 3) := by decide +kernel
theorem dX4_toldSource_33 : decode cX4_toldSource 33 = .ok (.iload_n 1, 1) := by decide +kernel
theorem dX4_toldSource_34 : decode cX4_toldSource 34 = .ok (.aaload, 1) := by decide +kernel
theorem dX4_toldSource_35 : decode cX4_toldSource 35 = .ok (.areturn, 1) := by decide +kernel
theorem dX4_sourceHasPriority_0 : decode cX4_sourceHasPriority 0 = .ok (.iconst 0, 1) := by decide +kernel
theorem dX4_sourceHasPriority_1 : decode cX4_sourceHasPriority 1 = .ok (.istore_n 2, 1) := by decide +kernel
theorem dX4_sourceHasPriority_2 : decode cX4_sourceHasPriority 2 = .ok (.iload_n 2, 1) := by decide +kernel
theorem dX4_sourceHasPriority_3 : decode cX4_sourceHasPriority 3 = .ok (.bipush 6, 2) := by decide +kernel
theorem dX4_sourceHasPriority_5 : decode cX4_sourceHasPriority 5 = .ok (.if_icmp .ge 36, 3) := by decide +kernel
theorem dX4_sourceHasPriority_8 : decode cX4_sourceHasPriority 8 = .ok (.aload_n 0, 1) := by decide +kernel
theorem dX4_sourceHasPriority_9 : decode cX4_sourceHasPriority 9 = .ok (.getfield 11, 3) := by decide +kernel
theorem dX4_sourceHasPriority_12 : decode cX4_sourceHasPriority 12 = .ok (.iload_n 2, 1) := by decide +kernel
theorem dX4_sourceHasPriority_13 : decode cX4_sourceHasPriority 13 = .ok (.aaload, 1) := by decide +kernel
theorem dX4_sourceHasPriority_14 : decode cX4_sourceHasPriority 14 = .ok (.getfield 53, 3) := by decide +kernel
theorem dX4_sourceHasPriority_17 : decode cX4_sourceHasPriority 17 = .ok (.ifCond .eq 18, 3) := by decide +kernel
theorem dX4_sourceHasPriority_20 : decode cX4_sourceHasPriority 20 = .ok (.aload_n 0, 1) := by decide +kernel
theorem dX4_sourceHasPriority_21 : decode cX4_sourceHasPriority 21 = .ok (.getfield 11, 3) := by decide +kernel
theorem dX4_sourceHasPriority_24 : decode cX4_sourceHasPriority 24 = .ok (.iload_n 2, 1) := by decide +kernel
theorem dX4_sourceHasPriority_25 : decode cX4_sourceHasPriority 25 = .ok (.aaload, 1) := by decide +kernel
theorem dX4_sourceHasPriority_26 : decode cX4_sourceHasPriority 26 = .ok (.getfield 191, 3) := by decide +kernel
theorem dX4_sourceHasPriority_29 : decode cX4_sourceHasPriority 29 = .ok (.iload_n 1, 1) := by decide +kernel
theorem dX4_sourceHasPriority_30 : decode cX4_sourceHasPriority 30 = .ok (.if_icmp .ne 5, 3) := by decide +kernel
theorem dX4_sourceHasPriority_33 : decode cX4_sourceHasPriority 33 = .ok (.iconst 1, 1) := by decide +kernel
theorem dX4_sourceHasPriority_34 : decode cX4_sourceHasPriority 34 = .ok (.ireturn, 1) := by decide +kernel
theorem dX4_sourceHasPriority_35 : decode cX4_sourceHasPriority 35 = .ok (.iinc 2 1, 3) := by decide +kernel
theorem dX4_sourceHasPriority_38 : decode cX4_sourceHasPriority 38 = .ok (.goto (-36), 3) := by decide +kernel
theorem dX4_sourceHasPriority_41 : decode cX4_sourceHasPriority 41 = .ok (.iconst 0, 1) := by decide +kernel
theorem dX4_sourceHasPriority_42 : decode cX4_sourceHasPriority 42 = .ok (.ireturn, 1) := by decide +kernel
theorem dX4_taskHasPriority_0 : decode cX4_taskHasPriority 0 = .ok (.iconst 0, 1) := by decide +kernel
theorem dX4_taskHasPriority_1 : decode cX4_taskHasPriority 1 = .ok (.istore_n 2, 1) := by decide +kernel
theorem dX4_taskHasPriority_2 : decode cX4_taskHasPriority 2 = .ok (.iload_n 2, 1) := by decide +kernel
theorem dX4_taskHasPriority_3 : decode cX4_taskHasPriority 3 = .ok (.bipush 6, 2) := by decide +kernel
theorem dX4_taskHasPriority_5 : decode cX4_taskHasPriority 5 = .ok (.if_icmp .ge 36, 3) := by decide +kernel
theorem dX4_taskHasPriority_8 : decode cX4_taskHasPriority 8 = .ok (.aload_n 0, 1) := by decide +kernel
theorem dX4_taskHasPriority_9 : decode cX4_taskHasPriority 9 = .ok (.getfield 18, 3) := by decide +kernel
theorem dX4_taskHasPriority_12 : decode cX4_taskHasPriority 12 = .ok (.iload_n 2, 1) := by decide +kernel
theorem dX4_taskHasPriority_13 : decode cX4_taskHasPriority 13 = .ok (.aaload, 1) := by decide +kernel
theorem dX4_taskHasPriority_14 : decode cX4_taskHasPriority 14 = .ok (.getfield 75, 3) := by decide +kernel
theorem dX4_taskHasPriority_17 : decode cX4_taskHasPriority 17 = .ok (.ifCond .eq 18, 3) := by decide +kernel
theorem dX4_taskHasPriority_20 : decode cX4_taskHasPriority 20 = .ok (.aload_n 0, 1) := by decide +kernel
theorem dX4_taskHasPriority_21 : decode cX4_taskHasPriority 21 = .ok (.getfield 18, 3) := by decide +kernel
theorem dX4_taskHasPriority_24 : decode cX4_taskHasPriority 24 = .ok (.iload_n 2, 1) := by decide +kernel
theorem dX4_taskHasPriority_25 : decode cX4_taskHasPriority 25 = .ok (.aaload, 1) := by decide +kernel
theorem dX4_taskHasPriority_26 : decode cX4_taskHasPriority 26 = .ok (.getfield 194, 3) := by decide +kernel
theorem dX4_taskHasPriority_29 : decode cX4_taskHasPriority 29 = .ok (.iload_n 1, 1) := by decide +kernel
theorem dX4_taskHasPriority_30 : decode cX4_taskHasPriority 30 = .ok (.if_icmp .ne 5, 3) := by decide +kernel
theorem dX4_taskHasPriority_33 : decode cX4_taskHasPriority 33 = .ok (.iconst 1, 1) := by decide +kernel
theorem dX4_taskHasPriority_34 : decode cX4_taskHasPriority 34 = .ok (.ireturn, 1) := by decide +kernel
theorem dX4_taskHasPriority_35 : decode cX4_taskHasPriority 35 = .ok (.iinc 2 1, 3) := by decide +kernel
theorem dX4_taskHasPriority_38 : decode cX4_taskHasPriority 38 = .ok (.goto (-36), 3) := by decide +kernel
theorem dX4_taskHasPriority_41 : decode cX4_taskHasPriority 41 = .ok (.iconst 0, 1) := by decide +kernel
theorem dX4_taskHasPriority_42 : decode cX4_taskHasPriority 42 = .ok (.ireturn, 1) := by decide +kernel
theorem dX4_beginPeriods_0 : decode cX4_beginPeriods 0 = .ok (.iconst 0, 1) := by decide +kernel
theorem dX4_beginPeriods_1 : decode cX4_beginPeriods 1 = .ok (.istore_n 1, 1) := by decide +kernel
theorem dX4_beginPeriods_2 : decode cX4_beginPeriods 2 = .ok (.iload_n 1, 1) := by decide +kernel
theorem dX4_beginPeriods_3 : decode cX4_beginPeriods 3 = .ok (.bipush 6, 2) := by decide +kernel
theorem dX4_beginPeriods_5 : decode cX4_beginPeriods 5 = .ok (.if_icmp .ge 34, 3) := by decide +kernel
theorem dX4_beginPeriods_8 : decode cX4_beginPeriods 8 = .ok (.aload_n 0, 1) := by decide +kernel
theorem dX4_beginPeriods_9 : decode cX4_beginPeriods 9 = .ok (.getfield 18, 3) := by decide +kernel
theorem dX4_beginPeriods_12 : decode cX4_beginPeriods 12 = .ok (.iload_n 1, 1) := by decide +kernel
theorem dX4_beginPeriods_13 : decode cX4_beginPeriods 13 = .ok (.aaload, 1) := by decide +kernel
theorem dX4_beginPeriods_14 : decode cX4_beginPeriods 14 = .ok (.getfield 75, 3) := by decide +kernel
theorem dX4_beginPeriods_17 : decode cX4_beginPeriods 17 = .ok (.ifCond .eq 16, 3) := by decide +kernel
theorem dX4_beginPeriods_20 : decode cX4_beginPeriods 20 = .ok (.aload_n 0, 1) := by decide +kernel
theorem dX4_beginPeriods_21 : decode cX4_beginPeriods 21 = .ok (.getfield 18, 3) := by decide +kernel
theorem dX4_beginPeriods_24 : decode cX4_beginPeriods 24 = .ok (.iload_n 1, 1) := by decide +kernel
theorem dX4_beginPeriods_25 : decode cX4_beginPeriods 25 = .ok (.aaload, 1) := by decide +kernel
theorem dX4_beginPeriods_26 : decode cX4_beginPeriods 26 = .ok (.aload_n 0, 1) := by decide +kernel
theorem dX4_beginPeriods_27 : decode cX4_beginPeriods 27 = .ok (.getfield 40, 3) := by decide +kernel
theorem dX4_beginPeriods_30 : decode cX4_beginPeriods 30 = .ok (.invokevirtual 195, 3) := by decide +kernel
theorem dX4_beginPeriods_33 : decode cX4_beginPeriods 33 = .ok (.iinc 1 1, 3) := by decide +kernel
theorem dX4_beginPeriods_36 : decode cX4_beginPeriods 36 = .ok (.goto (-34), 3) := by decide +kernel
theorem dX4_beginPeriods_39 : decode cX4_beginPeriods 39 = .ok (.return_, 1) := by decide +kernel
theorem dX4_giveBack_0 : decode cX4_giveBack 0 = .ok (.iconst 0, 1) := by decide +kernel
theorem dX4_giveBack_1 : decode cX4_giveBack 1 = .ok (.istore_n 1, 1) := by decide +kernel
theorem dX4_giveBack_2 : decode cX4_giveBack 2 = .ok (.iload_n 1, 1) := by decide +kernel
theorem dX4_giveBack_3 : decode cX4_giveBack 3 = .ok (.bipush 6, 2) := by decide +kernel
theorem dX4_giveBack_5 : decode cX4_giveBack 5 = .ok (.if_icmp .ge 34, 3) := by decide +kernel
theorem dX4_giveBack_8 : decode cX4_giveBack 8 = .ok (.aload_n 0, 1) := by decide +kernel
theorem dX4_giveBack_9 : decode cX4_giveBack 9 = .ok (.getfield 11, 3) := by decide +kernel
theorem dX4_giveBack_12 : decode cX4_giveBack 12 = .ok (.iload_n 1, 1) := by decide +kernel
theorem dX4_giveBack_13 : decode cX4_giveBack 13 = .ok (.aaload, 1) := by decide +kernel
theorem dX4_giveBack_14 : decode cX4_giveBack 14 = .ok (.getfield 53, 3) := by decide +kernel
theorem dX4_giveBack_17 : decode cX4_giveBack 17 = .ok (.ifCond .eq 16, 3) := by decide +kernel
theorem dX4_giveBack_20 : decode cX4_giveBack 20 = .ok (.aload_n 0, 1) := by decide +kernel
theorem dX4_giveBack_21 : decode cX4_giveBack 21 = .ok (.getfield 11, 3) := by decide +kernel
theorem dX4_giveBack_24 : decode cX4_giveBack 24 = .ok (.iload_n 1, 1) := by decide +kernel
theorem dX4_giveBack_25 : decode cX4_giveBack 25 = .ok (.aaload, 1) := by decide +kernel
theorem dX4_giveBack_26 : decode cX4_giveBack 26 = .ok (.aload_n 0, 1) := by decide +kernel
theorem dX4_giveBack_27 : decode cX4_giveBack 27 = .ok (.getfield 40, 3) := by decide +kernel
theorem dX4_giveBack_30 : decode cX4_giveBack 30 = .ok (.invokevirtual 198, 3) := by decide +kernel
theorem dX4_giveBack_33 : decode cX4_giveBack 33 = .ok (.iinc 1 1, 3) := by decide +kernel
theorem dX4_giveBack_36 : decode cX4_giveBack 36 = .ok (.goto (-34), 3) := by decide +kernel
theorem dX4_giveBack_39 : decode cX4_giveBack 39 = .ok (.return_, 1) := by decide +kernel
theorem dX4_runOne_0 : decode cX4_runOne 0 = .ok (.aload_n 0, 1) := by decide +kernel
theorem dX4_runOne_1 : decode cX4_runOne 1 = .ok (.getfield 28, 3) := by decide +kernel
theorem dX4_runOne_4 : decode cX4_runOne 4 = .ok (.getfield 126, 3) := by decide +kernel
theorem dX4_runOne_7 : decode cX4_runOne 7 = .ok (.ifCond .le 11, 3) := by decide +kernel
theorem dX4_runOne_10 : decode cX4_runOne 10 = .ok (.bipush 10, 2) := by decide +kernel
theorem dX4_runOne_12 : decode cX4_runOne 12 = .ok (.aload_n 0, 1) := by decide +kernel
theorem dX4_runOne_13 : decode cX4_runOne 13 = .ok (.invokevirtual 200, 3) := by decide +kernel
theorem dX4_runOne_16 : decode cX4_runOne 16 = .ok (.iadd, 1) := by decide +kernel
theorem dX4_runOne_17 : decode cX4_runOne 17 = .ok (.ireturn, 1) := by decide +kernel
theorem dX4_runOne_18 : decode cX4_runOne 18 = .ok (.aload_n 0, 1) := by decide +kernel
theorem dX4_runOne_19 : decode cX4_runOne 19 = .ok (.invokevirtual 203, 3) := by decide +kernel
theorem dX4_runOne_22 : decode cX4_runOne 22 = .ok (.istore_n 1, 1) := by decide +kernel
theorem dX4_runOne_23 : decode cX4_runOne 23 = .ok (.iload_n 1, 1) := by decide +kernel
theorem dX4_runOne_24 : decode cX4_runOne 24 = .ok (.iconst (-1), 1) := by decide +kernel
theorem dX4_runOne_25 : decode cX4_runOne 25 = .ok (.if_icmp .eq 21, 3) := by decide +kernel
theorem dX4_runOne_28 : decode cX4_runOne 28 = .ok (.aload_n 0, 1) := by decide +kernel
theorem dX4_runOne_29 : decode cX4_runOne 29 = .ok (.getfield 11, 3) := by decide +kernel
theorem dX4_runOne_32 : decode cX4_runOne 32 = .ok (.iload_n 1, 1) := by decide +kernel
theorem dX4_runOne_33 : decode cX4_runOne 33 = .ok (.aaload, 1) := by decide +kernel
theorem dX4_runOne_34 : decode cX4_runOne 34 = .ok (.aload_n 0, 1) := by decide +kernel
theorem dX4_runOne_35 : decode cX4_runOne 35 = .ok (.getfield 40, 3) := by decide +kernel
theorem dX4_runOne_38 : decode cX4_runOne 38 = .ok (.invokevirtual 206, 3) := by decide +kernel
theorem dX4_runOne_41 : decode cX4_runOne 41 = .ok (.bipush 20, 2) := by decide +kernel
theorem dX4_runOne_43 : decode cX4_runOne 43 = .ok (.iload_n 1, 1) := by decide +kernel
theorem dX4_runOne_44 : decode cX4_runOne 44 = .ok (.iadd, 1) := by decide +kernel
theorem dX4_runOne_45 : decode cX4_runOne 45 = .ok (.ireturn, 1) := by decide +kernel
theorem dX4_runOne_46 : decode cX4_runOne 46 = .ok (.aload_n 0, 1) := by decide +kernel
theorem dX4_runOne_47 : decode cX4_runOne 47 = .ok (.invokevirtual 209, 3) := by decide +kernel
theorem dX4_runOne_50 : decode cX4_runOne 50 = .ok (.istore_n 2, 1) := by decide +kernel
theorem dX4_runOne_51 : decode cX4_runOne 51 = .ok (.iload_n 2, 1) := by decide +kernel
theorem dX4_runOne_52 : decode cX4_runOne 52 = .ok (.iconst (-1), 1) := by decide +kernel
theorem dX4_runOne_53 : decode cX4_runOne 53 = .ok (.if_icmp .eq 17, 3) := by decide +kernel
theorem dX4_runOne_56 : decode cX4_runOne 56 = .ok (.aload_n 0, 1) := by decide +kernel
theorem dX4_runOne_57 : decode cX4_runOne 57 = .ok (.getfield 18, 3) := by decide +kernel
theorem dX4_runOne_60 : decode cX4_runOne 60 = .ok (.iload_n 2, 1) := by decide +kernel
theorem dX4_runOne_61 : decode cX4_runOne 61 = .ok (.aaload, 1) := by decide +kernel
theorem dX4_runOne_62 : decode cX4_runOne 62 = .ok (.invokevirtual 212, 3) := by decide +kernel
theorem dX4_runOne_65 : decode cX4_runOne 65 = .ok (.bipush 30, 2) := by decide +kernel
theorem dX4_runOne_67 : decode cX4_runOne 67 = .ok (.iload_n 2, 1) := by decide +kernel
theorem dX4_runOne_68 : decode cX4_runOne 68 = .ok (.iadd, 1) := by decide +kernel
theorem dX4_runOne_69 : decode cX4_runOne 69 = .ok (.ireturn, 1) := by decide +kernel
theorem dX4_runOne_70 : decode cX4_runOne 70 = .ok (.iconst 0, 1) := by decide +kernel
theorem dX4_runOne_71 : decode cX4_runOne 71 = .ok (.ireturn, 1) := by decide +kernel
theorem dX4_runTop_0 : decode cX4_runTop 0 = .ok (.aload_n 0, 1) := by decide +kernel
theorem dX4_runTop_1 : decode cX4_runTop 1 = .ok (.getfield 28, 3) := by decide +kernel
theorem dX4_runTop_4 : decode cX4_runTop 4 = .ok (.invokevirtual 215, 3) := by decide +kernel
theorem dX4_runTop_7 : decode cX4_runTop 7 = .ok (.istore_n 1, 1) := by decide +kernel
theorem dX4_runTop_8 : decode cX4_runTop 8 = .ok (.aload_n 0, 1) := by decide +kernel
theorem dX4_runTop_9 : decode cX4_runTop 9 = .ok (.dup, 1) := by decide +kernel
theorem dX4_runTop_10 : decode cX4_runTop 10 = .ok (.getfield 36, 3) := by decide +kernel
theorem dX4_runTop_13 : decode cX4_runTop 13 = .ok (.iconst 1, 1) := by decide +kernel
theorem dX4_runTop_14 : decode cX4_runTop 14 = .ok (.iadd, 1) := by decide +kernel
theorem dX4_runTop_15 : decode cX4_runTop 15 = .ok (.putfield 36, 3) := by decide +kernel
theorem dX4_runTop_18 : decode cX4_runTop 18 = .ok (.aload_n 0, 1) := by decide +kernel
theorem dX4_runTop_19 : decode cX4_runTop 19 = .ok (.getfield 36, 3) := by decide +kernel
theorem dX4_runTop_22 : decode cX4_runTop 22 = .ok (.aload_n 0, 1) := by decide +kernel
theorem dX4_runTop_23 : decode cX4_runTop 23 = .ok (.getfield 11, 3) := by decide +kernel
theorem dX4_runTop_26 : decode cX4_runTop 26 = .ok (.iload_n 1, 1) := by decide +kernel
theorem dX4_runTop_27 : decode cX4_runTop 27 = .ok (.aaload, 1) := by decide +kernel
theorem dX4_runTop_28 : decode cX4_runTop 28 = .ok (.getfield 89, 3) := by decide +kernel
theorem dX4_runTop_31 : decode cX4_runTop 31 = .ok (.if_icmp .lt 15, 3) := by decide +kernel
theorem dX4_runTop_34 : decode cX4_runTop 34 = .ok (.aload_n 0, 1) := by decide +kernel
theorem dX4_runTop_35 : decode cX4_runTop 35 = .ok (.getfield 28, 3) := by decide +kernel
theorem dX4_runTop_38 : decode cX4_runTop 38 = .ok (.invokevirtual 218, 3) := by decide +kernel
theorem dX4_runTop_41 : decode cX4_runTop 41 = .ok (.aload_n 0, 1) := by decide +kernel
theorem dX4_runTop_42 : decode cX4_runTop 42 = .ok (.iconst 0, 1) := by decide +kernel
theorem dX4_runTop_43 : decode cX4_runTop 43 = .ok (.putfield 36, 3) := by decide +kernel
theorem dX4_runTop_46 : decode cX4_runTop 46 = .ok (.iload_n 1, 1) := by decide +kernel
theorem dX4_runTop_47 : decode cX4_runTop 47 = .ok (.ireturn, 1) := by decide +kernel
theorem dX4_highestReadySource_0 : decode cX4_highestReadySource 0 = .ok (.iconst (-1), 1) := by decide +kernel
theorem dX4_highestReadySource_1 : decode cX4_highestReadySource 1 = .ok (.istore_n 1, 1) := by decide +kernel
theorem dX4_highestReadySource_2 : decode cX4_highestReadySource 2 = .ok (.iconst (-1), 1) := by decide +kernel
theorem dX4_highestReadySource_3 : decode cX4_highestReadySource 3 = .ok (.istore_n 2, 1) := by decide +kernel
theorem dX4_highestReadySource_4 : decode cX4_highestReadySource 4 = .ok (.iconst 0, 1) := by decide +kernel
theorem dX4_highestReadySource_5 : decode cX4_highestReadySource 5 = .ok (.istore_n 3, 1) := by decide +kernel
theorem dX4_highestReadySource_6 : decode cX4_highestReadySource 6 = .ok (.iload_n 3, 1) := by decide +kernel
theorem dX4_highestReadySource_7 : decode cX4_highestReadySource 7 = .ok (.bipush 6, 2) := by decide +kernel
theorem dX4_highestReadySource_9 : decode cX4_highestReadySource 9 = .ok (.if_icmp .ge 58, 3) := by decide +kernel
theorem dX4_highestReadySource_12 : decode cX4_highestReadySource 12 = .ok (.aload_n 0, 1) := by decide +kernel
theorem dX4_highestReadySource_13 : decode cX4_highestReadySource 13 = .ok (.getfield 11, 3) := by decide +kernel
theorem dX4_highestReadySource_16 : decode cX4_highestReadySource 16 = .ok (.iload_n 3, 1) := by decide +kernel
theorem dX4_highestReadySource_17 : decode cX4_highestReadySource 17 = .ok (.aaload, 1) := by decide +kernel
theorem dX4_highestReadySource_18 : decode cX4_highestReadySource 18 = .ok (.getfield 53, 3) := by decide +kernel
theorem dX4_highestReadySource_21 : decode cX4_highestReadySource 21 = .ok (.ifCond .eq 40, 3) := by decide +kernel
theorem dX4_highestReadySource_24 : decode cX4_highestReadySource 24 = .ok (.aload_n 0, 1) := by decide +kernel
theorem dX4_highestReadySource_25 : decode cX4_highestReadySource 25 = .ok (.getfield 11, 3) := by decide +kernel
theorem dX4_highestReadySource_28 : decode cX4_highestReadySource 28 = .ok (.iload_n 3, 1) := by decide +kernel
theorem dX4_highestReadySource_29 : decode cX4_highestReadySource 29 = .ok (.aaload, 1) := by decide +kernel
theorem dX4_highestReadySource_30 : decode cX4_highestReadySource 30 = .ok (.invokevirtual 221, 3) := by decide +kernel
theorem dX4_highestReadySource_33 : decode cX4_highestReadySource 33 = .ok (.ifCond .eq 28, 3) := by decide +kernel
theorem dX4_highestReadySource_36 : decode cX4_highestReadySource 36 = .ok (.aload_n 0, 1) := by decide +kernel
theorem dX4_highestReadySource_37 : decode cX4_highestReadySource 37 = .ok (.getfield 11, 3) := by decide +kernel
theorem dX4_highestReadySource_40 : decode cX4_highestReadySource 40 = .ok (.iload_n 3, 1) := by decide +kernel
theorem dX4_highestReadySource_41 : decode cX4_highestReadySource 41 = .ok (.aaload, 1) := by decide +kernel
theorem dX4_highestReadySource_42 : decode cX4_highestReadySource 42 = .ok (.getfield 191, 3) := by decide +kernel
theorem dX4_highestReadySource_45 : decode cX4_highestReadySource 45 = .ok (.iload_n 2, 1) := by decide +kernel
theorem dX4_highestReadySource_46 : decode cX4_highestReadySource 46 = .ok (.if_icmp .le 15, 3) := by decide +kernel
theorem dX4_highestReadySource_49 : decode cX4_highestReadySource 49 = .ok (.iload_n 3, 1) := by decide +kernel
theorem dX4_highestReadySource_50 : decode cX4_highestReadySource 50 = .ok (.istore_n 1, 1) := by decide +kernel
theorem dX4_highestReadySource_51 : decode cX4_highestReadySource 51 = .ok (.aload_n 0, 1) := by decide +kernel
theorem dX4_highestReadySource_52 : decode cX4_highestReadySource 52 = .ok (.getfield 11, 3) := by decide +kernel
theorem dX4_highestReadySource_55 : decode cX4_highestReadySource 55 = .ok (.iload_n 3, 1) := by decide +kernel
theorem dX4_highestReadySource_56 : decode cX4_highestReadySource 56 = .ok (.aaload, 1) := by decide +kernel
theorem dX4_highestReadySource_57 : decode cX4_highestReadySource 57 = .ok (.getfield 191, 3) := by decide +kernel
theorem dX4_highestReadySource_60 : decode cX4_highestReadySource 60 = .ok (.istore_n 2, 1) := by decide +kernel
theorem dX4_highestReadySource_61 : decode cX4_highestReadySource 61 = .ok (.iinc 3 1, 3) := by decide +kernel
theorem dX4_highestReadySource_64 : decode cX4_highestReadySource 64 = .ok (.goto (-58), 3) := by decide +kernel
theorem dX4_highestReadySource_67 : decode cX4_highestReadySource 67 = .ok (.iload_n 1, 1) := by decide +kernel
theorem dX4_highestReadySource_68 : decode cX4_highestReadySource 68 = .ok (.ireturn, 1) := by decide +kernel
theorem dX4_highestTaskWithWork_0 : decode cX4_highestTaskWithWork 0 = .ok (.iconst (-1), 1) := by decide +kernel
theorem dX4_highestTaskWithWork_1 : decode cX4_highestTaskWithWork 1 = .ok (.istore_n 1, 1) := by decide +kernel
theorem dX4_highestTaskWithWork_2 : decode cX4_highestTaskWithWork 2 = .ok (.iconst (-1), 1) := by decide +kernel
theorem dX4_highestTaskWithWork_3 : decode cX4_highestTaskWithWork 3 = .ok (.istore_n 2, 1) := by decide +kernel
theorem dX4_highestTaskWithWork_4 : decode cX4_highestTaskWithWork 4 = .ok (.iconst 0, 1) := by decide +kernel
theorem dX4_highestTaskWithWork_5 : decode cX4_highestTaskWithWork 5 = .ok (.istore_n 3, 1) := by decide +kernel
theorem dX4_highestTaskWithWork_6 : decode cX4_highestTaskWithWork 6 = .ok (.iload_n 3, 1) := by decide +kernel
theorem dX4_highestTaskWithWork_7 : decode cX4_highestTaskWithWork 7 = .ok (.bipush 6, 2) := by decide +kernel
theorem dX4_highestTaskWithWork_9 : decode cX4_highestTaskWithWork 9 = .ok (.if_icmp .ge 58, 3) := by decide +kernel
theorem dX4_highestTaskWithWork_12 : decode cX4_highestTaskWithWork 12 = .ok (.aload_n 0, 1) := by decide +kernel
theorem dX4_highestTaskWithWork_13 : decode cX4_highestTaskWithWork 13 = .ok (.getfield 18, 3) := by decide +kernel
theorem dX4_highestTaskWithWork_16 : decode cX4_highestTaskWithWork 16 = .ok (.iload_n 3, 1) := by decide +kernel
theorem dX4_highestTaskWithWork_17 : decode cX4_highestTaskWithWork 17 = .ok (.aaload, 1) := by decide +kernel
theorem dX4_highestTaskWithWork_18 : decode cX4_highestTaskWithWork 18 = .ok (.getfield 75, 3) := by decide +kernel
theorem dX4_highestTaskWithWork_21 : decode cX4_highestTaskWithWork 21 = .ok (.ifCond .eq 40, 3) := by decide +kernel
theorem dX4_highestTaskWithWork_24 : decode cX4_highestTaskWithWork 24 = .ok (.aload_n 0, 1) := by decide +kernel
theorem dX4_highestTaskWithWork_25 : decode cX4_highestTaskWithWork 25 = .ok (.getfield 18, 3) := by decide +kernel
theorem dX4_highestTaskWithWork_28 : decode cX4_highestTaskWithWork 28 = .ok (.iload_n 3, 1) := by decide +kernel
theorem dX4_highestTaskWithWork_29 : decode cX4_highestTaskWithWork 29 = .ok (.aaload, 1) := by decide +kernel
theorem dX4_highestTaskWithWork_30 : decode cX4_highestTaskWithWork 30 = .ok (.getfield 163, 3) := by decide +kernel
theorem dX4_highestTaskWithWork_33 : decode cX4_highestTaskWithWork 33 = .ok (.ifCond .le 28, 3) := by decide +kernel
theorem dX4_highestTaskWithWork_36 : decode cX4_highestTaskWithWork 36 = .ok (.aload_n 0, 1) := by decide +kernel
theorem dX4_highestTaskWithWork_37 : decode cX4_highestTaskWithWork 37 = .ok (.getfield 18, 3) := by decide +kernel
theorem dX4_highestTaskWithWork_40 : decode cX4_highestTaskWithWork 40 = .ok (.iload_n 3, 1) := by decide +kernel
theorem dX4_highestTaskWithWork_41 : decode cX4_highestTaskWithWork 41 = .ok (.aaload, 1) := by decide +kernel
theorem dX4_highestTaskWithWork_42 : decode cX4_highestTaskWithWork 42 = .ok (.getfield 194, 3) := by decide +kernel
theorem dX4_highestTaskWithWork_45 : decode cX4_highestTaskWithWork 45 = .ok (.iload_n 2, 1) := by decide +kernel
theorem dX4_highestTaskWithWork_46 : decode cX4_highestTaskWithWork 46 = .ok (.if_icmp .le 15, 3) := by decide +kernel
theorem dX4_highestTaskWithWork_49 : decode cX4_highestTaskWithWork 49 = .ok (.iload_n 3, 1) := by decide +kernel
theorem dX4_highestTaskWithWork_50 : decode cX4_highestTaskWithWork 50 = .ok (.istore_n 1, 1) := by decide +kernel
theorem dX4_highestTaskWithWork_51 : decode cX4_highestTaskWithWork 51 = .ok (.aload_n 0, 1) := by decide +kernel
theorem dX4_highestTaskWithWork_52 : decode cX4_highestTaskWithWork 52 = .ok (.getfield 18, 3) := by decide +kernel
theorem dX4_highestTaskWithWork_55 : decode cX4_highestTaskWithWork 55 = .ok (.iload_n 3, 1) := by decide +kernel
theorem dX4_highestTaskWithWork_56 : decode cX4_highestTaskWithWork 56 = .ok (.aaload, 1) := by decide +kernel
theorem dX4_highestTaskWithWork_57 : decode cX4_highestTaskWithWork 57 = .ok (.getfield 194, 3) := by decide +kernel
theorem dX4_highestTaskWithWork_60 : decode cX4_highestTaskWithWork 60 = .ok (.istore_n 2, 1) := by decide +kernel
theorem dX4_highestTaskWithWork_61 : decode cX4_highestTaskWithWork 61 = .ok (.iinc 3 1, 3) := by decide +kernel
theorem dX4_highestTaskWithWork_64 : decode cX4_highestTaskWithWork 64 = .ok (.goto (-58), 3) := by decide +kernel
theorem dX4_highestTaskWithWork_67 : decode cX4_highestTaskWithWork 67 = .ok (.iload_n 1, 1) := by decide +kernel
theorem dX4_highestTaskWithWork_68 : decode cX4_highestTaskWithWork 68 = .ok (.ireturn, 1) := by decide +kernel
theorem dX4_tasksAdmitted_0 : decode cX4_tasksAdmitted 0 = .ok (.iconst 0, 1) := by decide +kernel
theorem dX4_tasksAdmitted_1 : decode cX4_tasksAdmitted 1 = .ok (.istore_n 1, 1) := by decide +kernel
theorem dX4_tasksAdmitted_2 : decode cX4_tasksAdmitted 2 = .ok (.iload_n 1, 1) := by decide +kernel
theorem dX4_tasksAdmitted_3 : decode cX4_tasksAdmitted 3 = .ok (.bipush 6, 2) := by decide +kernel
theorem dX4_tasksAdmitted_5 : decode cX4_tasksAdmitted 5 = .ok (.if_icmp .ge 37, 3) := by decide +kernel
theorem dX4_tasksAdmitted_8 : decode cX4_tasksAdmitted 8 = .ok (.aload_n 0, 1) := by decide +kernel
theorem dX4_tasksAdmitted_9 : decode cX4_tasksAdmitted 9 = .ok (.getfield 18, 3) := by decide +kernel
theorem dX4_tasksAdmitted_12 : decode cX4_tasksAdmitted 12 = .ok (.iload_n 1, 1) := by decide +kernel
theorem dX4_tasksAdmitted_13 : decode cX4_tasksAdmitted 13 = .ok (.aaload, 1) := by decide +kernel
theorem dX4_tasksAdmitted_14 : decode cX4_tasksAdmitted 14 = .ok (.getfield 75, 3) := by decide +kernel
theorem dX4_tasksAdmitted_17 : decode cX4_tasksAdmitted 17 = .ok (.ifCond .eq 19, 3) := by decide +kernel
theorem dX4_tasksAdmitted_20 : decode cX4_tasksAdmitted 20 = .ok (.aload_n 0, 1) := by decide +kernel
theorem dX4_tasksAdmitted_21 : decode cX4_tasksAdmitted 21 = .ok (.aload_n 0, 1) := by decide +kernel
theorem dX4_tasksAdmitted_22 : decode cX4_tasksAdmitted 22 = .ok (.getfield 18, 3) := by decide +kernel
theorem dX4_tasksAdmitted_25 : decode cX4_tasksAdmitted 25 = .ok (.iload_n 1, 1) := by decide +kernel
theorem dX4_tasksAdmitted_26 : decode cX4_tasksAdmitted 26 = .ok (.aaload, 1) := by decide +kernel
theorem dX4_tasksAdmitted_27 : decode cX4_tasksAdmitted 27 = .ok (.invokevirtual 172, 3) := by decide +kernel
theorem dX4_tasksAdmitted_30 : decode cX4_tasksAdmitted 30 = .ok (.iconst (-1), 1) := by decide +kernel
theorem dX4_tasksAdmitted_31 : decode cX4_tasksAdmitted 31 = .ok (.if_icmp .ne 5, 3) := by decide +kernel
theorem dX4_tasksAdmitted_34 : decode cX4_tasksAdmitted 34 = .ok (.iconst 0, 1) := by decide +kernel
theorem dX4_tasksAdmitted_35 : decode cX4_tasksAdmitted 35 = .ok (.ireturn, 1) := by decide +kernel
theorem dX4_tasksAdmitted_36 : decode cX4_tasksAdmitted 36 = .ok (.iinc 1 1, 3) := by decide +kernel
theorem dX4_tasksAdmitted_39 : decode cX4_tasksAdmitted 39 = .ok (.goto (-37), 3) := by decide +kernel
theorem dX4_tasksAdmitted_42 : decode cX4_tasksAdmitted 42 = .ok (.iconst 1, 1) := by decide +kernel
theorem dX4_tasksAdmitted_43 : decode cX4_tasksAdmitted 43 = .ok (.ireturn, 1) := by decide +kernel
theorem dX4_taskBound_0 : decode cX4_taskBound 0 = .ok (.aload_n 0, 1) := by decide +kernel
theorem dX4_taskBound_1 : decode cX4_taskBound 1 = .ok (.aload_n 1, 1) := by decide +kernel
theorem dX4_taskBound_2 : decode cX4_taskBound 2 = .ok (.getfield 224, 3) := by decide +kernel
theorem dX4_taskBound_5 : decode cX4_taskBound 5 = .ok (.aload_n 1, 1) := by decide +kernel
theorem dX4_taskBound_6 : decode cX4_taskBound 6 = .ok (.getfield 227, 3) := by decide +kernel
theorem dX4_taskBound_9 : decode cX4_taskBound 9 = .ok (.iconst (-1), 1) := by decide +kernel
theorem dX4_taskBound_10 : decode cX4_taskBound 10 = .ok (.aload_n 1, 1) := by decide +kernel
theorem dX4_taskBound_11 : decode cX4_taskBound 11 = .ok (.getfield 194, 3) := by decide +kernel
theorem dX4_taskBound_14 : decode cX4_taskBound 14 = .ok (.invokevirtual 230, 3) := by decide +kernel
theorem dX4_taskBound_17 : decode cX4_taskBound 17 = .ok (.ireturn, 1) := by decide +kernel
theorem dX4_sourceBound_0 : decode cX4_sourceBound 0 = .ok (.aload_n 1, 1) := by decide +kernel
theorem dX4_sourceBound_1 : decode cX4_sourceBound 1 = .ok (.getfield 234, 3) := by decide +kernel
theorem dX4_sourceBound_4 : decode cX4_sourceBound 4 = .ok (.aload_n 1, 1) := by decide +kernel
theorem dX4_sourceBound_5 : decode cX4_sourceBound 5 = .ok (.getfield 235, 3) := by decide +kernel
theorem dX4_sourceBound_8 : decode cX4_sourceBound 8 = .ok (.if_icmp .gt 14, 3) := by decide +kernel
theorem dX4_sourceBound_11 : decode cX4_sourceBound 11 = .ok (.aload_n 1, 1) := by decide +kernel
theorem dX4_sourceBound_12 : decode cX4_sourceBound 12 = .ok (.getfield 238, 3) := by decide +kernel
theorem dX4_sourceBound_15 : decode cX4_sourceBound 15 = .ok (.aload_n 1, 1) := by decide +kernel
theorem dX4_sourceBound_16 : decode cX4_sourceBound 16 = .ok (.getfield 241, 3) := by decide +kernel
theorem dX4_sourceBound_19 : decode cX4_sourceBound 19 = .ok (.if_icmp .ge 5, 3) := by decide +kernel
theorem dX4_sourceBound_22 : decode cX4_sourceBound 22 = .ok (.iconst (-1), 1) := by decide +kernel
theorem dX4_sourceBound_23 : decode cX4_sourceBound 23 = .ok (.ireturn, 1) := by decide +kernel
theorem dX4_sourceBound_24 : decode cX4_sourceBound 24 = .ok (.aload_n 0, 1) := by decide +kernel
theorem dX4_sourceBound_25 : decode cX4_sourceBound 25 = .ok (.aload_n 1, 1) := by decide +kernel
theorem dX4_sourceBound_26 : decode cX4_sourceBound 26 = .ok (.getfield 234, 3) := by decide +kernel
theorem dX4_sourceBound_29 : decode cX4_sourceBound 29 = .ok (.aload_n 1, 1) := by decide +kernel
theorem dX4_sourceBound_30 : decode cX4_sourceBound 30 = .ok (.getfield 241, 3) := by decide +kernel
theorem dX4_sourceBound_33 : decode cX4_sourceBound 33 = .ok (.aload_n 1, 1) := by decide +kernel
theorem dX4_sourceBound_34 : decode cX4_sourceBound 34 = .ok (.getfield 191, 3) := by decide +kernel
theorem dX4_sourceBound_37 : decode cX4_sourceBound 37 = .ok (.bipush 31, 2) := by decide +kernel
theorem dX4_sourceBound_39 : decode cX4_sourceBound 39 = .ok (.invokevirtual 230, 3) := by decide +kernel
theorem dX4_sourceBound_42 : decode cX4_sourceBound 42 = .ok (.ireturn, 1) := by decide +kernel
theorem dX4_leastBound_0 : decode cX4_leastBound 0 = .ok (.iconst 1, 1) := by decide +kernel
theorem dX4_leastBound_1 : decode cX4_leastBound 1 = .ok (.istore 5, 2) := by decide +kernel
theorem dX4_leastBound_3 : decode cX4_leastBound 3 = .ok (.iconst 0, 1) := by decide +kernel
theorem dX4_leastBound_4 : decode cX4_leastBound 4 = .ok (.istore 6, 2) := by decide +kernel
theorem dX4_leastBound_6 : decode cX4_leastBound 6 = .ok (.iload 6, 2) := by decide +kernel
theorem dX4_leastBound_8 : decode cX4_leastBound 8 = .ok (.iload_n 2, 1) := by decide +kernel
theorem dX4_leastBound_9 : decode cX4_leastBound 9 = .ok (.if_icmp .gt 58, 3) := by decide +kernel
theorem dX4_leastBound_12 : decode cX4_leastBound 12 = .ok (.iload_n 1, 1) := by decide +kernel
theorem dX4_leastBound_13 : decode cX4_leastBound 13 = .ok (.aload_n 0, 1) := by decide +kernel
theorem dX4_leastBound_14 : decode cX4_leastBound 14 = .ok (.iload_n 3, 1) := by decide +kernel
theorem dX4_leastBound_15 : decode cX4_leastBound 15 = .ok (.iload 5, 2) := by decide +kernel
theorem dX4_leastBound_17 : decode cX4_leastBound 17 = .ok (.invokevirtual 181, 3) := by decide +kernel
theorem dX4_leastBound_20 : decode cX4_leastBound 20 = .ok (.iadd, 1) := by decide +kernel
theorem dX4_leastBound_21 : decode cX4_leastBound 21 = .ok (.aload_n 0, 1) := by decide +kernel
theorem dX4_leastBound_22 : decode cX4_leastBound 22 = .ok (.iload 5, 2) := by decide +kernel
theorem dX4_leastBound_24 : decode cX4_leastBound 24 = .ok (.invokevirtual 184, 3) := by decide +kernel
theorem dX4_leastBound_27 : decode cX4_leastBound 27 = .ok (.iadd, 1) := by decide +kernel
theorem dX4_leastBound_28 : decode cX4_leastBound 28 = .ok (.aload_n 0, 1) := by decide +kernel
theorem dX4_leastBound_29 : decode cX4_leastBound 29 = .ok (.iload 4, 2) := by decide +kernel
theorem dX4_leastBound_31 : decode cX4_leastBound 31 = .ok (.iload 5, 2) := by decide +kernel
theorem dX4_leastBound_33 : decode cX4_leastBound 33 = .ok (.invokevirtual 242, 3) := by decide +kernel
theorem dX4_leastBound_36 : decode cX4_leastBound 36 = .ok (.iadd, 1) := by decide +kernel
theorem dX4_leastBound_37 : decode cX4_leastBound 37 = .ok (.istore 7, 2) := by decide +kernel
theorem dX4_leastBound_39 : decode cX4_leastBound 39 = .ok (.iload 7, 2) := by decide +kernel
theorem dX4_leastBound_41 : decode cX4_leastBound 41 = .ok (.iload_n 2, 1) := by decide +kernel
theorem dX4_leastBound_42 : decode cX4_leastBound 42 = .ok (.if_icmp .le 5, 3) := by decide +kernel
theorem dX4_leastBound_45 : decode cX4_leastBound 45 = .ok (.iconst (-1), 1) := by decide +kernel
theorem dX4_leastBound_46 : decode cX4_leastBound 46 = .ok (.ireturn, 1) := by decide +kernel
theorem dX4_leastBound_47 : decode cX4_leastBound 47 = .ok (.iload 7, 2) := by decide +kernel
theorem dX4_leastBound_49 : decode cX4_leastBound 49 = .ok (.iload 5, 2) := by decide +kernel
theorem dX4_leastBound_51 : decode cX4_leastBound 51 = .ok (.if_icmp .ne 6, 3) := by decide +kernel
theorem dX4_leastBound_54 : decode cX4_leastBound 54 = .ok (.iload 5, 2) := by decide +kernel
theorem dX4_leastBound_56 : decode cX4_leastBound 56 = .ok (.ireturn, 1) := by decide +kernel
theorem dX4_leastBound_57 : decode cX4_leastBound 57 = .ok (.iload 7, 2) := by decide +kernel
theorem dX4_leastBound_59 : decode cX4_leastBound 59 = .ok (.istore 5, 2) := by decide +kernel
theorem dX4_leastBound_61 : decode cX4_leastBound 61 = .ok (.iinc 6 1, 3) := by decide +kernel
theorem dX4_leastBound_64 : decode cX4_leastBound 64 = .ok (.goto (-58), 3) := by decide +kernel
theorem dX4_leastBound_67 : decode cX4_leastBound 67 = .ok (.iconst (-1), 1) := by decide +kernel
theorem dX4_leastBound_68 : decode cX4_leastBound 68 = .ok (.ireturn, 1) := by decide +kernel
theorem dX4_handlersTake_0 : decode cX4_handlersTake 0 = .ok (.iconst 0, 1) := by decide +kernel
theorem dX4_handlersTake_1 : decode cX4_handlersTake 1 = .ok (.istore_n 3, 1) := by decide +kernel
theorem dX4_handlersTake_2 : decode cX4_handlersTake 2 = .ok (.iconst 0, 1) := by decide +kernel
theorem dX4_handlersTake_3 : decode cX4_handlersTake 3 = .ok (.istore 4, 2) := by decide +kernel
theorem dX4_handlersTake_5 : decode cX4_handlersTake 5 = .ok (.iload 4, 2) := by decide +kernel
theorem dX4_handlersTake_7 : decode cX4_handlersTake 7 = .ok (.bipush 6, 2) := by decide +kernel
theorem dX4_handlersTake_9 : decode cX4_handlersTake 9 = .ok (.if_icmp .ge 66, 3) := by decide +kernel
theorem dX4_handlersTake_12 : decode cX4_handlersTake 12 = .ok (.aload_n 0, 1) := by decide +kernel
theorem dX4_handlersTake_13 : decode cX4_handlersTake 13 = .ok (.getfield 11, 3) := by decide +kernel
theorem dX4_handlersTake_16 : decode cX4_handlersTake 16 = .ok (.iload 4, 2) := by decide +kernel
theorem dX4_handlersTake_18 : decode cX4_handlersTake 18 = .ok (.aaload, 1) := by decide +kernel
theorem dX4_handlersTake_19 : decode cX4_handlersTake 19 = .ok (.getfield 53, 3) := by decide +kernel
theorem dX4_handlersTake_22 : decode cX4_handlersTake 22 = .ok (.ifCond .eq 47, 3) := by decide +kernel
theorem dX4_handlersTake_25 : decode cX4_handlersTake 25 = .ok (.aload_n 0, 1) := by decide +kernel
theorem dX4_handlersTake_26 : decode cX4_handlersTake 26 = .ok (.getfield 11, 3) := by decide +kernel
theorem dX4_handlersTake_29 : decode cX4_handlersTake 29 = .ok (.iload 4, 2) := by decide +kernel
theorem dX4_handlersTake_31 : decode cX4_handlersTake 31 = .ok (.aaload, 1) := by decide +kernel
theorem dX4_handlersTake_32 : decode cX4_handlersTake 32 = .ok (.getfield 191, 3) := by decide +kernel
theorem dX4_handlersTake_35 : decode cX4_handlersTake 35 = .ok (.iload_n 1, 1) := by decide +kernel
theorem dX4_handlersTake_36 : decode cX4_handlersTake 36 = .ok (.if_icmp .le 33, 3) := by decide +kernel
theorem dX4_handlersTake_39 : decode cX4_handlersTake 39 = .ok (.iload_n 3, 1) := by decide +kernel
theorem dX4_handlersTake_40 : decode cX4_handlersTake 40 = .ok (.iload_n 2, 1) := by decide +kernel
theorem dX4_handlersTake_41 : decode cX4_handlersTake 41 = .ok (.aload_n 0, 1) := by decide +kernel
theorem dX4_handlersTake_42 : decode cX4_handlersTake 42 = .ok (.getfield 11, 3) := by decide +kernel
theorem dX4_handlersTake_45 : decode cX4_handlersTake 45 = .ok (.iload 4, 2) := by decide +kernel
theorem dX4_handlersTake_47 : decode cX4_handlersTake 47 = .ok (.aaload, 1) := by decide +kernel
theorem dX4_handlersTake_48 : decode cX4_handlersTake 48 = .ok (.getfield 241, 3) := by decide +kernel
theorem dX4_handlersTake_51 : decode cX4_handlersTake 51 = .ok (.invokestatic 245, 3) := by decide +kernel
theorem dX4_handlersTake_54 : decode cX4_handlersTake 54 = .ok (.iconst 1, 1) := by decide +kernel
theorem dX4_handlersTake_55 : decode cX4_handlersTake 55 = .ok (.iadd, 1) := by decide +kernel
theorem dX4_handlersTake_56 : decode cX4_handlersTake 56 = .ok (.aload_n 0, 1) := by decide +kernel
theorem dX4_handlersTake_57 : decode cX4_handlersTake 57 = .ok (.getfield 11, 3) := by decide +kernel
theorem dX4_handlersTake_60 : decode cX4_handlersTake 60 = .ok (.iload 4, 2) := by decide +kernel
theorem dX4_handlersTake_62 : decode cX4_handlersTake 62 = .ok (.aaload, 1) := by decide +kernel
theorem dX4_handlersTake_63 : decode cX4_handlersTake 63 = .ok (.getfield 235, 3) := by decide +kernel
theorem dX4_handlersTake_66 : decode cX4_handlersTake 66 = .ok (.imul, 1) := by decide +kernel
theorem dX4_handlersTake_67 : decode cX4_handlersTake 67 = .ok (.iadd, 1) := by decide +kernel
theorem dX4_handlersTake_68 : decode cX4_handlersTake 68 = .ok (.istore_n 3, 1) := by decide +kernel
theorem dX4_handlersTake_69 : decode cX4_handlersTake 69 = .ok (.iinc 4 1, 3) := by decide +kernel
theorem dX4_handlersTake_72 : decode cX4_handlersTake 72 = .ok (.goto (-67), 3) := by decide +kernel
theorem dX4_handlersTake_75 : decode cX4_handlersTake 75 = .ok (.iload_n 3, 1) := by decide +kernel
theorem dX4_handlersTake_76 : decode cX4_handlersTake 76 = .ok (.ireturn, 1) := by decide +kernel
theorem dX4_topsTake_0 : decode cX4_topsTake 0 = .ok (.iconst 0, 1) := by decide +kernel
theorem dX4_topsTake_1 : decode cX4_topsTake 1 = .ok (.istore_n 2, 1) := by decide +kernel
theorem dX4_topsTake_2 : decode cX4_topsTake 2 = .ok (.iconst 0, 1) := by decide +kernel
theorem dX4_topsTake_3 : decode cX4_topsTake 3 = .ok (.istore_n 3, 1) := by decide +kernel
theorem dX4_topsTake_4 : decode cX4_topsTake 4 = .ok (.iload_n 3, 1) := by decide +kernel
theorem dX4_topsTake_5 : decode cX4_topsTake 5 = .ok (.bipush 6, 2) := by decide +kernel
theorem dX4_topsTake_7 : decode cX4_topsTake 7 = .ok (.if_icmp .ge 49, 3) := by decide +kernel
theorem dX4_topsTake_10 : decode cX4_topsTake 10 = .ok (.aload_n 0, 1) := by decide +kernel
theorem dX4_topsTake_11 : decode cX4_topsTake 11 = .ok (.getfield 11, 3) := by decide +kernel
theorem dX4_topsTake_14 : decode cX4_topsTake 14 = .ok (.iload_n 3, 1) := by decide +kernel
theorem dX4_topsTake_15 : decode cX4_topsTake 15 = .ok (.aaload, 1) := by decide +kernel
theorem dX4_topsTake_16 : decode cX4_topsTake 16 = .ok (.getfield 53, 3) := by decide +kernel
theorem dX4_topsTake_19 : decode cX4_topsTake 19 = .ok (.ifCond .eq 31, 3) := by decide +kernel
theorem dX4_topsTake_22 : decode cX4_topsTake 22 = .ok (.iload_n 2, 1) := by decide +kernel
theorem dX4_topsTake_23 : decode cX4_topsTake 23 = .ok (.iload_n 1, 1) := by decide +kernel
theorem dX4_topsTake_24 : decode cX4_topsTake 24 = .ok (.aload_n 0, 1) := by decide +kernel
theorem dX4_topsTake_25 : decode cX4_topsTake 25 = .ok (.getfield 11, 3) := by decide +kernel
theorem dX4_topsTake_28 : decode cX4_topsTake 28 = .ok (.iload_n 3, 1) := by decide +kernel
theorem dX4_topsTake_29 : decode cX4_topsTake 29 = .ok (.aaload, 1) := by decide +kernel
theorem dX4_topsTake_30 : decode cX4_topsTake 30 = .ok (.getfield 238, 3) := by decide +kernel
theorem dX4_topsTake_33 : decode cX4_topsTake 33 = .ok (.invokestatic 245, 3) := by decide +kernel
theorem dX4_topsTake_36 : decode cX4_topsTake 36 = .ok (.iconst 1, 1) := by decide +kernel
theorem dX4_topsTake_37 : decode cX4_topsTake 37 = .ok (.iadd, 1) := by decide +kernel
theorem dX4_topsTake_38 : decode cX4_topsTake 38 = .ok (.aload_n 0, 1) := by decide +kernel
theorem dX4_topsTake_39 : decode cX4_topsTake 39 = .ok (.getfield 11, 3) := by decide +kernel
theorem dX4_topsTake_42 : decode cX4_topsTake 42 = .ok (.iload_n 3, 1) := by decide +kernel
theorem dX4_topsTake_43 : decode cX4_topsTake 43 = .ok (.aaload, 1) := by decide +kernel
theorem dX4_topsTake_44 : decode cX4_topsTake 44 = .ok (.getfield 89, 3) := by decide +kernel
theorem dX4_topsTake_47 : decode cX4_topsTake 47 = .ok (.imul, 1) := by decide +kernel
theorem dX4_topsTake_48 : decode cX4_topsTake 48 = .ok (.iadd, 1) := by decide +kernel
theorem dX4_topsTake_49 : decode cX4_topsTake 49 = .ok (.istore_n 2, 1) := by decide +kernel
theorem dX4_topsTake_50 : decode cX4_topsTake 50 = .ok (.iinc 3 1, 3) := by decide +kernel
theorem dX4_topsTake_53 : decode cX4_topsTake 53 = .ok (.goto (-49), 3) := by decide +kernel
theorem dX4_topsTake_56 : decode cX4_topsTake 56 = .ok (.iload_n 2, 1) := by decide +kernel
theorem dX4_topsTake_57 : decode cX4_topsTake 57 = .ok (.ireturn, 1) := by decide +kernel
theorem dX4_tasksTake_0 : decode cX4_tasksTake 0 = .ok (.iconst 0, 1) := by decide +kernel
theorem dX4_tasksTake_1 : decode cX4_tasksTake 1 = .ok (.istore_n 3, 1) := by decide +kernel
theorem dX4_tasksTake_2 : decode cX4_tasksTake 2 = .ok (.iconst 0, 1) := by decide +kernel
theorem dX4_tasksTake_3 : decode cX4_tasksTake 3 = .ok (.istore 4, 2) := by decide +kernel
theorem dX4_tasksTake_5 : decode cX4_tasksTake 5 = .ok (.iload 4, 2) := by decide +kernel
theorem dX4_tasksTake_7 : decode cX4_tasksTake 7 = .ok (.bipush 6, 2) := by decide +kernel
theorem dX4_tasksTake_9 : decode cX4_tasksTake 9 = .ok (.if_icmp .ge 64, 3) := by decide +kernel
theorem dX4_tasksTake_12 : decode cX4_tasksTake 12 = .ok (.aload_n 0, 1) := by decide +kernel
theorem dX4_tasksTake_13 : decode cX4_tasksTake 13 = .ok (.getfield 18, 3) := by decide +kernel
theorem dX4_tasksTake_16 : decode cX4_tasksTake 16 = .ok (.iload 4, 2) := by decide +kernel
theorem dX4_tasksTake_18 : decode cX4_tasksTake 18 = .ok (.aaload, 1) := by decide +kernel
theorem dX4_tasksTake_19 : decode cX4_tasksTake 19 = .ok (.getfield 75, 3) := by decide +kernel
theorem dX4_tasksTake_22 : decode cX4_tasksTake 22 = .ok (.ifCond .eq 45, 3) := by decide +kernel
theorem dX4_tasksTake_25 : decode cX4_tasksTake 25 = .ok (.aload_n 0, 1) := by decide +kernel
theorem dX4_tasksTake_26 : decode cX4_tasksTake 26 = .ok (.getfield 18, 3) := by decide +kernel
theorem dX4_tasksTake_29 : decode cX4_tasksTake 29 = .ok (.iload 4, 2) := by decide +kernel
theorem dX4_tasksTake_31 : decode cX4_tasksTake 31 = .ok (.aaload, 1) := by decide +kernel
theorem dX4_tasksTake_32 : decode cX4_tasksTake 32 = .ok (.getfield 194, 3) := by decide +kernel
theorem dX4_tasksTake_35 : decode cX4_tasksTake 35 = .ok (.iload_n 1, 1) := by decide +kernel
theorem dX4_tasksTake_36 : decode cX4_tasksTake 36 = .ok (.if_icmp .le 31, 3) := by decide +kernel
theorem dX4_tasksTake_39 : decode cX4_tasksTake 39 = .ok (.iload_n 3, 1) := by decide +kernel
theorem dX4_tasksTake_40 : decode cX4_tasksTake 40 = .ok (.iload_n 2, 1) := by decide +kernel
theorem dX4_tasksTake_41 : decode cX4_tasksTake 41 = .ok (.aload_n 0, 1) := by decide +kernel
theorem dX4_tasksTake_42 : decode cX4_tasksTake 42 = .ok (.getfield 18, 3) := by decide +kernel
theorem dX4_tasksTake_45 : decode cX4_tasksTake 45 = .ok (.iload 4, 2) := by decide +kernel
theorem dX4_tasksTake_47 : decode cX4_tasksTake 47 = .ok (.aaload, 1) := by decide +kernel
theorem dX4_tasksTake_48 : decode cX4_tasksTake 48 = .ok (.getfield 227, 3) := by decide +kernel
theorem dX4_tasksTake_51 : decode cX4_tasksTake 51 = .ok (.invokestatic 245, 3) := by decide +kernel
theorem dX4_tasksTake_54 : decode cX4_tasksTake 54 = .ok (.aload_n 0, 1) := by decide +kernel
theorem dX4_tasksTake_55 : decode cX4_tasksTake 55 = .ok (.getfield 18, 3) := by decide +kernel
theorem dX4_tasksTake_58 : decode cX4_tasksTake 58 = .ok (.iload 4, 2) := by decide +kernel
theorem dX4_tasksTake_60 : decode cX4_tasksTake 60 = .ok (.aaload, 1) := by decide +kernel
theorem dX4_tasksTake_61 : decode cX4_tasksTake 61 = .ok (.getfield 224, 3) := by decide +kernel
theorem dX4_tasksTake_64 : decode cX4_tasksTake 64 = .ok (.imul, 1) := by decide +kernel
theorem dX4_tasksTake_65 : decode cX4_tasksTake 65 = .ok (.iadd, 1) := by decide +kernel
theorem dX4_tasksTake_66 : decode cX4_tasksTake 66 = .ok (.istore_n 3, 1) := by decide +kernel
theorem dX4_tasksTake_67 : decode cX4_tasksTake 67 = .ok (.iinc 4 1, 3) := by decide +kernel
theorem dX4_tasksTake_70 : decode cX4_tasksTake 70 = .ok (.goto (-65), 3) := by decide +kernel
theorem dX4_tasksTake_73 : decode cX4_tasksTake 73 = .ok (.iload_n 3, 1) := by decide +kernel
theorem dX4_tasksTake_74 : decode cX4_tasksTake 74 = .ok (.ireturn, 1) := by decide +kernel
theorem dX4_ceil_0 : decode cX4_ceil 0 = .ok (.iload_n 0, 1) := by decide +kernel
theorem dX4_ceil_1 : decode cX4_ceil 1 = .ok (.iload_n 1, 1) := by decide +kernel
theorem dX4_ceil_2 : decode cX4_ceil 2 = .ok (.iadd, 1) := by decide +kernel
theorem dX4_ceil_3 : decode cX4_ceil 3 = .ok (.iconst 1, 1) := by decide +kernel
theorem dX4_ceil_4 : decode cX4_ceil 4 = .ok (.isub, 1) := by decide +kernel
theorem dX4_ceil_5 : decode cX4_ceil 5 = .ok (.iload_n 1, 1) := by decide +kernel
theorem dX4_ceil_6 : decode cX4_ceil 6 = .ok (.idiv, 1) := by decide +kernel
theorem dX4_ceil_7 : decode cX4_ceil 7 = .ok (.ireturn, 1) := by decide +kernel
