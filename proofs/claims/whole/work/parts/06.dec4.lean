theorem dX5_base_184 : decode cX5_base 184 = .ok (.iload_n 1, 1) := by decide +kernel
theorem dX5_base_185 : decode cX5_base 185 = .ok (.baload, 1) := by decide +kernel
theorem dX5_base_186 : decode cX5_base 186 = .ok (.ireturn, 1) := by decide +kernel
theorem dX5_isSource_0 : decode cX5_isSource 0 = .ok (.iload_n 1, 1) := by decide +kernel
theorem dX5_isSource_1 : decode cX5_isSource 1 = .ok (.iconst 0, 1) := by decide +kernel
theorem dX5_isSource_2 : decode cX5_isSource 2 = .ok (.iconst 5, 1) := by decide +kernel
theorem dX5_isSource_3 : decode cX5_isSource 3 = .ok (.invokestatic 140, 3) := by decide +kernel
theorem dX5_isSource_6 : decode cX5_isSource 6 = .ok (.ifCond .eq 16, 3) := by decide +kernel
theorem dX5_isSource_9 : decode cX5_isSource 9 = .ok (.aload_n 0, 1) := by decide +kernel
theorem dX5_isSource_10 : decode cX5_isSource 10 = .ok (.getfield 7, 3) := by decide +kernel
theorem dX5_isSource_13 : decode cX5_isSource 13 = .ok (.iload_n 1, 1) := by decide +kernel
theorem dX5_isSource_14 : decode cX5_isSource 14 = .ok (.baload, 1) := by decide +kernel
theorem dX5_isSource_15 : decode cX5_isSource 15 = .ok (.ifCond .eq 7, 3) := by decide +kernel
theorem dX5_isSource_18 : decode cX5_isSource 18 = .ok (.iconst 1, 1) := by decide +kernel
theorem dX5_isSource_19 : decode cX5_isSource 19 = .ok (.goto 4, 3) := by decide +kernel
theorem dX5_isSource_22 : decode cX5_isSource 22 = .ok (.iconst 0, 1) := by decide +kernel
theorem dX5_isSource_23 : decode cX5_isSource 23 = .ok (.ireturn, 1) := by decide +kernel
theorem dX5_event_0 : decode cX5_event 0 = .ok (.aload_n 0, 1) := by decide +kernel
theorem dX5_event_1 : decode cX5_event 1 = .ok (.aload_n 0, 1) := by decide +kernel
theorem dX5_event_2 : decode cX5_event 2 = .ok (.iload_n 1, 1) := by decide +kernel
theorem dX5_event_3 : decode cX5_event 3 = .ok (.invokevirtual 148, 3) := by decide +kernel
theorem dX5_event_6 : decode cX5_event 6 = .ok (.ifCond .eq 7, 3) := by decide +kernel
theorem dX5_event_9 : decode cX5_event 9 = .ok (.iconst 0, 1) := by decide +kernel
theorem dX5_event_10 : decode cX5_event 10 = .ok (.goto 4, 3) := by decide +kernel
theorem dX5_event_13 : decode cX5_event 13 = .ok (.iconst 1, 1) := by decide +kernel
theorem dX5_event_14 : decode cX5_event 14 = .ok (.putfield 107, 3) := by decide +kernel
theorem dX5_event_17 : decode cX5_event 17 = .ok (.aload_n 0, 1) := by decide +kernel
theorem dX5_event_18 : decode cX5_event 18 = .ok (.getfield 107, 3) := by decide +kernel
theorem dX5_event_21 : decode cX5_event 21 = .ok (.ifCond .le 5, 3) := by decide +kernel
theorem dX5_event_24 : decode cX5_event 24 = .ok (.iconst 0, 1) := by decide +kernel
theorem dX5_event_25 : decode cX5_event 25 = .ok (.ireturn, 1) := by decide +kernel
theorem dX5_event_26 : decode cX5_event 26 = .ok (.aload_n 0, 1) := by decide +kernel
theorem dX5_event_27 : decode cX5_event 27 = .ok (.getfield 56, 3) := by decide +kernel
theorem dX5_event_30 : decode cX5_event 30 = .ok (.iload_n 1, 1) := by decide +kernel
theorem dX5_event_31 : decode cX5_event 31 = .ok (.baload, 1) := by decide +kernel
theorem dX5_event_32 : decode cX5_event 32 = .ok (.ifCond .ne 14, 3) := by decide +kernel
theorem dX5_event_35 : decode cX5_event 35 = .ok (.aload_n 0, 1) := by decide +kernel
theorem dX5_event_36 : decode cX5_event 36 = .ok (.getfield 32, 3) := by decide +kernel
theorem dX5_event_39 : decode cX5_event 39 = .ok (.iload_n 1, 1) := by decide +kernel
theorem dX5_event_40 : decode cX5_event 40 = .ok (.iaload, 1) := by decide +kernel
theorem dX5_event_41 : decode cX5_event 41 = .ok (.bipush 32, 2) := by decide +kernel
theorem dX5_event_43 : decode cX5_event 43 = .ok (.if_icmp .ne 15, 3) := by decide +kernel
theorem dX5_event_46 : decode cX5_event 46 = .ok (.aload_n 0, 1) := by decide +kernel
theorem dX5_event_47 : decode cX5_event 47 = .ok (.getfield 68, 3) := by decide +kernel
theorem dX5_event_50 : decode cX5_event 50 = .ok (.iload_n 1, 1) := by decide +kernel
theorem dX5_event_51 : decode cX5_event 51 = .ok (.dup2, 1) := by decide +kernel
theorem dX5_event_52 : decode cX5_event 52 = .ok (.iaload, 1) := by decide +kernel
theorem dX5_event_53 : decode cX5_event 53 = .ok (.iconst 1, 1) := by decide +kernel
theorem dX5_event_54 : decode cX5_event 54 = .ok (.iadd, 1) := by decide +kernel
theorem dX5_event_55 : decode cX5_event 55 = .ok (.iastore, 1) := by decide +kernel
theorem dX5_event_56 : decode cX5_event 56 = .ok (.iconst 0, 1) := by decide +kernel
theorem dX5_event_57 : decode cX5_event 57 = .ok (.ireturn, 1) := by decide +kernel
theorem dX5_event_58 : decode cX5_event 58 = .ok (.aload_n 0, 1) := by decide +kernel
theorem dX5_event_59 : decode cX5_event 59 = .ok (.getfield 41, 3) := by decide +kernel
theorem dX5_event_62 : decode cX5_event 62 = .ok (.iload_n 1, 1) := by decide +kernel
theorem dX5_event_63 : decode cX5_event 63 = .ok (.aload_n 0, 1) := by decide +kernel
theorem dX5_event_64 : decode cX5_event 64 = .ok (.getfield 32, 3) := by decide +kernel
theorem dX5_event_67 : decode cX5_event 67 = .ok (.iload_n 1, 1) := by decide +kernel
theorem dX5_event_68 : decode cX5_event 68 = .ok (.iaload, 1) := by decide +kernel
theorem dX5_event_69 : decode cX5_event 69 = .ok (.ifCond .ne 10, 3) := by decide +kernel
theorem dX5_event_72 : decode cX5_event 72 = .ok (.aload_n 0, 1) := by decide +kernel
theorem dX5_event_73 : decode cX5_event 73 = .ok (.getfield 115, 3) := by decide +kernel
theorem dX5_event_76 : decode cX5_event 76 = .ok (.goto 9, 3) := by decide +kernel
theorem dX5_event_79 : decode cX5_event 79 = .ok (.aload_n 0, 1) := by decide +kernel
theorem dX5_event_80 : decode cX5_event 80 = .ok (.getfield 41, 3) := by decide +kernel
theorem dX5_event_83 : decode cX5_event 83 = .ok (.iload_n 1, 1) := by decide +kernel
theorem dX5_event_84 : decode cX5_event 84 = .ok (.iaload, 1) := by decide +kernel
theorem dX5_event_85 : decode cX5_event 85 = .ok (.iastore, 1) := by decide +kernel
theorem dX5_event_86 : decode cX5_event 86 = .ok (.aload_n 0, 1) := by decide +kernel
theorem dX5_event_87 : decode cX5_event 87 = .ok (.getfield 35, 3) := by decide +kernel
theorem dX5_event_90 : decode cX5_event 90 = .ok (.bipush 32, 2) := by decide +kernel
theorem dX5_event_92 : decode cX5_event 92 = .ok (.iload_n 1, 1) := by decide +kernel
theorem dX5_event_93 : decode cX5_event 93 = .ok (.imul, 1) := by decide +kernel
theorem dX5_event_94 : decode cX5_event 94 = .ok (.aload_n 0, 1) := by decide +kernel
theorem dX5_event_95 : decode cX5_event 95 = .ok (.getfield 32, 3) := by decide +kernel
theorem dX5_event_98 : decode cX5_event 98 = .ok (.iload_n 1, 1) := by decide +kernel
theorem dX5_event_99 : decode cX5_event 99 = .ok (.iaload, 1) := by decide +kernel
theorem dX5_event_100 : decode cX5_event 100 = .ok (.iadd, 1) := by decide +kernel
theorem dX5_event_101 : decode cX5_event 101 = .ok (.aload_n 0, 1) := by decide +kernel
theorem dX5_event_102 : decode cX5_event 102 = .ok (.getfield 115, 3) := by decide +kernel
theorem dX5_event_105 : decode cX5_event 105 = .ok (.iastore, 1) := by decide +kernel
theorem dX5_event_106 : decode cX5_event 106 = .ok (.aload_n 0, 1) := by decide +kernel
theorem dX5_event_107 : decode cX5_event 107 = .ok (.getfield 32, 3) := by decide +kernel
theorem dX5_event_110 : decode cX5_event 110 = .ok (.iload_n 1, 1) := by decide +kernel
theorem dX5_event_111 : decode cX5_event 111 = .ok (.dup2, 1) := by decide +kernel
theorem dX5_event_112 : decode cX5_event 112 = .ok (.iaload, 1) := by decide +kernel
theorem dX5_event_113 : decode cX5_event 113 = .ok (.iconst 1, 1) := by decide +kernel
theorem dX5_event_114 : decode cX5_event 114 = .ok (.iadd, 1) := by decide +kernel
theorem dX5_event_115 : decode cX5_event 115 = .ok (.iastore, 1) := by decide +kernel
theorem dX5_event_116 : decode cX5_event 116 = .ok (.aload_n 0, 1) := by decide +kernel
theorem dX5_event_117 : decode cX5_event 117 = .ok (.getfield 62, 3) := by decide +kernel
theorem dX5_event_120 : decode cX5_event 120 = .ok (.iload_n 1, 1) := by decide +kernel
theorem dX5_event_121 : decode cX5_event 121 = .ok (.dup2, 1) := by decide +kernel
theorem dX5_event_122 : decode cX5_event 122 = .ok (.iaload, 1) := by decide +kernel
theorem dX5_event_123 : decode cX5_event 123 = .ok (.iconst 1, 1) := by decide +kernel
theorem dX5_event_124 : decode cX5_event 124 = .ok (.iadd, 1) := by decide +kernel
theorem dX5_event_125 : decode cX5_event 125 = .ok (.iastore, 1) := by decide +kernel
theorem dX5_event_126 : decode cX5_event 126 = .ok (.aload_n 0, 1) := by decide +kernel
theorem dX5_event_127 : decode cX5_event 127 = .ok (.getfield 32, 3) := by decide +kernel
theorem dX5_event_130 : decode cX5_event 130 = .ok (.iload_n 1, 1) := by decide +kernel
theorem dX5_event_131 : decode cX5_event 131 = .ok (.iaload, 1) := by decide +kernel
theorem dX5_event_132 : decode cX5_event 132 = .ok (.bipush 24, 2) := by decide +kernel
theorem dX5_event_134 : decode cX5_event 134 = .ok (.if_icmp .le 20, 3) := by decide +kernel
theorem dX5_event_137 : decode cX5_event 137 = .ok (.aload_n 0, 1) := by decide +kernel
theorem dX5_event_138 : decode cX5_event 138 = .ok (.getfield 56, 3) := by decide +kernel
theorem dX5_event_141 : decode cX5_event 141 = .ok (.iload_n 1, 1) := by decide +kernel
theorem dX5_event_142 : decode cX5_event 142 = .ok (.iconst 1, 1) := by decide +kernel
theorem dX5_event_143 : decode cX5_event 143 = .ok (.bastore, 1) := by decide +kernel
theorem dX5_event_144 : decode cX5_event 144 = .ok (.aload_n 0, 1) := by decide +kernel
theorem dX5_event_145 : decode cX5_event 145 = .ok (.getfield 59, 3) := by decide +kernel
theorem dX5_event_148 : decode cX5_event 148 = .ok (.iload_n 1, 1) := by decide +kernel
theorem dX5_event_149 : decode cX5_event 149 = .ok (.dup2, 1) := by decide +kernel
theorem dX5_event_150 : decode cX5_event 150 = .ok (.iaload, 1) := by decide +kernel
theorem dX5_event_151 : decode cX5_event 151 = .ok (.iconst 1, 1) := by decide +kernel
theorem dX5_event_152 : decode cX5_event 152 = .ok (.iadd, 1) := by decide +kernel
theorem dX5_event_153 : decode cX5_event 153 = .ok (.iastore, 1) := by decide +kernel
theorem dX5_event_154 : decode cX5_event 154 = .ok (.aload_n 0, 1) := by decide +kernel
theorem dX5_event_155 : decode cX5_event 155 = .ok (.getfield 13, 3) := by decide +kernel
theorem dX5_event_158 : decode cX5_event 158 = .ok (.iload_n 1, 1) := by decide +kernel
theorem dX5_event_159 : decode cX5_event 159 = .ok (.iaload, 1) := by decide +kernel
theorem dX5_event_160 : decode cX5_event 160 = .ok (.ifCond .le 38, 3) := by decide +kernel
theorem dX5_event_163 : decode cX5_event 163 = .ok (.aload_n 0, 1) := by decide +kernel
theorem dX5_event_164 : decode cX5_event 164 = .ok (.getfield 98, 3) := by decide +kernel
theorem dX5_event_167 : decode cX5_event 167 = .ok (.aload_n 0, 1) := by decide +kernel
theorem dX5_event_168 : decode cX5_event 168 = .ok (.getfield 152, 3) := by decide +kernel
theorem dX5_event_171 : decode cX5_event 171 = .ok (.iload_n 1, 1) := by decide +kernel
theorem dX5_event_172 : decode cX5_event 172 = .ok (.iastore, 1) := by decide +kernel
theorem dX5_event_173 : decode cX5_event 173 = .ok (.aload_n 0, 1) := by decide +kernel
theorem dX5_event_174 : decode cX5_event 174 = .ok (.getfield 101, 3) := by decide +kernel
theorem dX5_event_177 : decode cX5_event 177 = .ok (.aload_n 0, 1) := by decide +kernel
theorem dX5_event_178 : decode cX5_event 178 = .ok (.getfield 152, 3) := by decide +kernel
theorem dX5_event_181 : decode cX5_event 181 = .ok (.aload_n 0, 1) := by decide +kernel
theorem dX5_event_182 : decode cX5_event 182 = .ok (.getfield 13, 3) := by decide +kernel
theorem dX5_event_185 : decode cX5_event 185 = .ok (.iload_n 1, 1) := by decide +kernel
theorem dX5_event_186 : decode cX5_event 186 = .ok (.iaload, 1) := by decide +kernel
theorem dX5_event_187 : decode cX5_event 187 = .ok (.iastore, 1) := by decide +kernel
theorem dX5_event_188 : decode cX5_event 188 = .ok (.aload_n 0, 1) := by decide +kernel
theorem dX5_event_189 : decode cX5_event 189 = .ok (.dup, 1) := by decide +kernel
theorem dX5_event_190 : decode cX5_event 190 = .ok (.getfield 152, 3) := by decide +kernel
theorem dX5_event_193 : decode cX5_event 193 = .ok (.iconst 1, 1) := by decide +kernel
theorem dX5_event_194 : decode cX5_event 194 = .ok (.iadd, 1) := by decide +kernel
theorem dX5_event_195 : decode cX5_event 195 = .ok (.putfield 152, 3) := by decide +kernel
theorem dX5_event_198 : decode cX5_event 198 = .ok (.iconst 1, 1) := by decide +kernel
theorem dX5_event_199 : decode cX5_event 199 = .ok (.ireturn, 1) := by decide +kernel
theorem dX5_runTop_0 : decode cX5_runTop 0 = .ok (.aload_n 0, 1) := by decide +kernel
theorem dX5_runTop_1 : decode cX5_runTop 1 = .ok (.getfield 98, 3) := by decide +kernel
theorem dX5_runTop_4 : decode cX5_runTop 4 = .ok (.iconst 0, 1) := by decide +kernel
theorem dX5_runTop_5 : decode cX5_runTop 5 = .ok (.iaload, 1) := by decide +kernel
theorem dX5_runTop_6 : decode cX5_runTop 6 = .ok (.istore_n 1, 1) := by decide +kernel
theorem dX5_runTop_7 : decode cX5_runTop 7 = .ok (.aload_n 0, 1) := by decide +kernel
theorem dX5_runTop_8 : decode cX5_runTop 8 = .ok (.getfield 101, 3) := by decide +kernel
theorem dX5_runTop_11 : decode cX5_runTop 11 = .ok (.iconst 0, 1) := by decide +kernel
theorem dX5_runTop_12 : decode cX5_runTop 12 = .ok (.dup2, 1) := by decide +kernel
theorem dX5_runTop_13 : decode cX5_runTop 13 = .ok (.iaload, 1) := by decide +kernel
theorem dX5_runTop_14 : decode cX5_runTop 14 = .ok (.iconst 1, 1) := by decide +kernel
theorem dX5_runTop_15 : decode cX5_runTop 15 = .ok (.isub, 1) := by decide +kernel
theorem dX5_runTop_16 : decode cX5_runTop 16 = .ok (.iastore, 1) := by decide +kernel
theorem dX5_runTop_17 : decode cX5_runTop 17 = .ok (.aload_n 0, 1) := by decide +kernel
theorem dX5_runTop_18 : decode cX5_runTop 18 = .ok (.getfield 101, 3) := by decide +kernel
theorem dX5_runTop_21 : decode cX5_runTop 21 = .ok (.iconst 0, 1) := by decide +kernel
theorem dX5_runTop_22 : decode cX5_runTop 22 = .ok (.iaload, 1) := by decide +kernel
theorem dX5_runTop_23 : decode cX5_runTop 23 = .ok (.ifCond .ne 57, 3) := by decide +kernel
theorem dX5_runTop_26 : decode cX5_runTop 26 = .ok (.aload_n 0, 1) := by decide +kernel
theorem dX5_runTop_27 : decode cX5_runTop 27 = .ok (.dup, 1) := by decide +kernel
theorem dX5_runTop_28 : decode cX5_runTop 28 = .ok (.getfield 152, 3) := by decide +kernel
theorem dX5_runTop_31 : decode cX5_runTop 31 = .ok (.iconst 1, 1) := by decide +kernel
theorem dX5_runTop_32 : decode cX5_runTop 32 = .ok (.isub, 1) := by decide +kernel
theorem dX5_runTop_33 : decode cX5_runTop 33 = .ok (.putfield 152, 3) := by decide +kernel
theorem dX5_runTop_36 : decode cX5_runTop 36 = .ok (.iconst 0, 1) := by decide +kernel
theorem dX5_runTop_37 : decode cX5_runTop 37 = .ok (.istore_n 2, 1) := by decide +kernel
theorem dX5_runTop_38 : decode cX5_runTop 38 = .ok (.iload_n 2, 1) := by decide +kernel
theorem dX5_runTop_39 : decode cX5_runTop 39 = .ok (.aload_n 0, 1) := by decide +kernel
theorem dX5_runTop_40 : decode cX5_runTop 40 = .ok (.getfield 152, 3) := by decide +kernel
theorem dX5_runTop_43 : decode cX5_runTop 43 = .ok (.if_icmp .ge 37, 3) := by decide +kernel
theorem dX5_runTop_46 : decode cX5_runTop 46 = .ok (.aload_n 0, 1) := by decide +kernel
theorem dX5_runTop_47 : decode cX5_runTop 47 = .ok (.getfield 98, 3) := by decide +kernel
theorem dX5_runTop_50 : decode cX5_runTop 50 = .ok (.iload_n 2, 1) := by decide +kernel
theorem dX5_runTop_51 : decode cX5_runTop 51 = .ok (.aload_n 0, 1) := by decide +kernel
theorem dX5_runTop_52 : decode cX5_runTop 52 = .ok (.getfield 98, 3) := by decide +kernel
theorem dX5_runTop_55 : decode cX5_runTop 55 = .ok (.iload_n 2, 1) := by decide +kernel
theorem dX5_runTop_56 : decode cX5_runTop 56 = .ok (.iconst 1, 1) := by decide +kernel
theorem dX5_runTop_57 : decode cX5_runTop 57 = .ok (.iadd, 1) := by decide +kernel
theorem dX5_runTop_58 : decode cX5_runTop 58 = .ok (.iaload, 1) := by decide +kernel
theorem dX5_runTop_59 : decode cX5_runTop 59 = .ok (.iastore, 1) := by decide +kernel
theorem dX5_runTop_60 : decode cX5_runTop 60 = .ok (.aload_n 0, 1) := by decide +kernel
theorem dX5_runTop_61 : decode cX5_runTop 61 = .ok (.getfield 101, 3) := by decide +kernel
theorem dX5_runTop_64 : decode cX5_runTop 64 = .ok (.iload_n 2, 1) := by decide +kernel
theorem dX5_runTop_65 : decode cX5_runTop 65 = .ok (.aload_n 0, 1) := by decide +kernel
theorem dX5_runTop_66 : decode cX5_runTop 66 = .ok (.getfield 101, 3) := by decide +kernel
theorem dX5_runTop_69 : decode cX5_runTop 69 = .ok (.iload_n 2, 1) := by decide +kernel
theorem dX5_runTop_70 : decode cX5_runTop 70 = .ok (.iconst 1, 1) := by decide +kernel
theorem dX5_runTop_71 : decode cX5_runTop 71 = .ok (.iadd, 1) := by decide +kernel
theorem dX5_runTop_72 : decode cX5_runTop 72 = .ok (.iaload, 1) := by decide +kernel
theorem dX5_runTop_73 : decode cX5_runTop 73 = .ok (.iastore, 1) := by decide +kernel
theorem dX5_runTop_74 : decode cX5_runTop 74 = .ok (.iinc 2 1, 3) := by decide +kernel
theorem dX5_runTop_77 : decode cX5_runTop 77 = .ok (.goto (-39), 3) := by decide +kernel
theorem dX5_runTop_80 : decode cX5_runTop 80 = .ok (.bipush 10, 2) := by decide +kernel
theorem dX5_runTop_82 : decode cX5_runTop 82 = .ok (.iload_n 1, 1) := by decide +kernel
theorem dX5_runTop_83 : decode cX5_runTop 83 = .ok (.iadd, 1) := by decide +kernel
theorem dX5_runTop_84 : decode cX5_runTop 84 = .ok (.ireturn, 1) := by decide +kernel
theorem dX5_runHandler_0 : decode cX5_runHandler 0 = .ok (.aload_n 0, 1) := by decide +kernel
theorem dX5_runHandler_1 : decode cX5_runHandler 1 = .ok (.iload_n 1, 1) := by decide +kernel
theorem dX5_runHandler_2 : decode cX5_runHandler 2 = .ok (.invokevirtual 111, 3) := by decide +kernel
theorem dX5_runHandler_5 : decode cX5_runHandler 5 = .ok (.istore_n 2, 1) := by decide +kernel
theorem dX5_runHandler_6 : decode cX5_runHandler 6 = .ok (.aload_n 0, 1) := by decide +kernel
theorem dX5_runHandler_7 : decode cX5_runHandler 7 = .ok (.getfield 44, 3) := by decide +kernel
theorem dX5_runHandler_10 : decode cX5_runHandler 10 = .ok (.bipush 30, 2) := by decide +kernel
theorem dX5_runHandler_12 : decode cX5_runHandler 12 = .ok (.iload_n 1, 1) := by decide +kernel
theorem dX5_runHandler_13 : decode cX5_runHandler 13 = .ok (.imul, 1) := by decide +kernel
theorem dX5_runHandler_14 : decode cX5_runHandler 14 = .ok (.iaload, 1) := by decide +kernel
theorem dX5_runHandler_15 : decode cX5_runHandler 15 = .ok (.aload_n 0, 1) := by decide +kernel
theorem dX5_runHandler_16 : decode cX5_runHandler 16 = .ok (.getfield 41, 3) := by decide +kernel
theorem dX5_runHandler_19 : decode cX5_runHandler 19 = .ok (.iload_n 1, 1) := by decide +kernel
theorem dX5_runHandler_20 : decode cX5_runHandler 20 = .ok (.iaload, 1) := by decide +kernel
theorem dX5_runHandler_21 : decode cX5_runHandler 21 = .ok (.if_icmp .le 15, 3) := by decide +kernel
theorem dX5_runHandler_24 : decode cX5_runHandler 24 = .ok (.aload_n 0, 1) := by decide +kernel
theorem dX5_runHandler_25 : decode cX5_runHandler 25 = .ok (.getfield 44, 3) := by decide +kernel
theorem dX5_runHandler_28 : decode cX5_runHandler 28 = .ok (.bipush 30, 2) := by decide +kernel
theorem dX5_runHandler_30 : decode cX5_runHandler 30 = .ok (.iload_n 1, 1) := by decide +kernel
theorem dX5_runHandler_31 : decode cX5_runHandler 31 = .ok (.imul, 1) := by decide +kernel
theorem dX5_runHandler_32 : decode cX5_runHandler 32 = .ok (.iaload, 1) := by decide +kernel
theorem dX5_runHandler_33 : decode cX5_runHandler 33 = .ok (.goto 9, 3) := by decide +kernel
theorem dX5_runHandler_36 : decode cX5_runHandler 36 = .ok (.aload_n 0, 1) := by decide +kernel
theorem dX5_runHandler_37 : decode cX5_runHandler 37 = .ok (.getfield 41, 3) := by decide +kernel
theorem dX5_runHandler_40 : decode cX5_runHandler 40 = .ok (.iload_n 1, 1) := by decide +kernel
theorem dX5_runHandler_41 : decode cX5_runHandler 41 = .ok (.iaload, 1) := by decide +kernel
theorem dX5_runHandler_42 : decode cX5_runHandler 42 = .ok (.istore_n 3, 1) := by decide +kernel
theorem dX5_runHandler_43 : decode cX5_runHandler 43 = .ok (.bipush 30, 2) := by decide +kernel
theorem dX5_runHandler_45 : decode cX5_runHandler 45 = .ok (.iload_n 1, 1) := by decide +kernel
theorem dX5_runHandler_46 : decode cX5_runHandler 46 = .ok (.imul, 1) := by decide +kernel
theorem dX5_runHandler_47 : decode cX5_runHandler 47 = .ok (.iconst 1, 1) := by decide +kernel
theorem dX5_runHandler_48 : decode cX5_runHandler 48 = .ok (.iadd, 1) := by decide +kernel
theorem dX5_runHandler_49 : decode cX5_runHandler 49 = .ok (.istore 4, 2) := by decide +kernel
theorem dX5_runHandler_51 : decode cX5_runHandler 51 = .ok (.iload 4, 2) := by decide +kernel
theorem dX5_runHandler_53 : decode cX5_runHandler 53 = .ok (.bipush 30, 2) := by decide +kernel
theorem dX5_runHandler_55 : decode cX5_runHandler 55 = .ok (.iload_n 1, 1) := by decide +kernel
theorem dX5_runHandler_56 : decode cX5_runHandler 56 = .ok (.imul, 1) := by decide +kernel
theorem dX5_runHandler_57 : decode cX5_runHandler 57 = .ok (.iload_n 2, 1) := by decide +kernel
theorem dX5_runHandler_58 : decode cX5_runHandler 58 = .ok (.iadd, 1) := by decide +kernel
theorem dX5_runHandler_59 : decode cX5_runHandler 59 = .ok (.if_icmp .ge 25, 3) := by decide +kernel
theorem dX5_runHandler_62 : decode cX5_runHandler 62 = .ok (.aload_n 0, 1) := by decide +kernel
theorem dX5_runHandler_63 : decode cX5_runHandler 63 = .ok (.getfield 44, 3) := by decide +kernel
theorem dX5_runHandler_66 : decode cX5_runHandler 66 = .ok (.iload 4, 2) := by decide +kernel
theorem dX5_runHandler_68 : decode cX5_runHandler 68 = .ok (.iconst 1, 1) := by decide +kernel
theorem dX5_runHandler_69 : decode cX5_runHandler 69 = .ok (.isub, 1) := by decide +kernel
theorem dX5_runHandler_70 : decode cX5_runHandler 70 = .ok (.aload_n 0, 1) := by decide +kernel
theorem dX5_runHandler_71 : decode cX5_runHandler 71 = .ok (.getfield 44, 3) := by decide +kernel
theorem dX5_runHandler_74 : decode cX5_runHandler 74 = .ok (.iload 4, 2) := by decide +kernel
theorem dX5_runHandler_76 : decode cX5_runHandler 76 = .ok (.iaload, 1) := by decide +kernel
theorem dX5_runHandler_77 : decode cX5_runHandler 77 = .ok (.iastore, 1) := by decide +kernel
theorem dX5_runHandler_78 : decode cX5_runHandler 78 = .ok (.iinc 4 1, 3) := by decide +kernel
theorem dX5_runHandler_81 : decode cX5_runHandler 81 = .ok (.goto (-30), 3) := by decide +kernel
theorem dX5_runHandler_84 : decode cX5_runHandler 84 = .ok (.aload_n 0, 1) := by decide +kernel
theorem dX5_runHandler_85 : decode cX5_runHandler 85 = .ok (.getfield 115, 3) := by decide +kernel
theorem dX5_runHandler_88 : decode cX5_runHandler 88 = .ok (.iload_n 3, 1) := by decide +kernel
theorem dX5_runHandler_89 : decode cX5_runHandler 89 = .ok (.isub, 1) := by decide +kernel
theorem dX5_runHandler_90 : decode cX5_runHandler 90 = .ok (.aload_n 0, 1) := by decide +kernel
theorem dX5_runHandler_91 : decode cX5_runHandler 91 = .ok (.getfield 26, 3) := by decide +kernel
theorem dX5_runHandler_94 : decode cX5_runHandler 94 = .ok (.iload_n 1, 1) := by decide +kernel
theorem dX5_runHandler_95 : decode cX5_runHandler 95 = .ok (.iaload, 1) := by decide +kernel
theorem dX5_runHandler_96 : decode cX5_runHandler 96 = .ok (.if_icmp .lt 10, 3) := by decide +kernel
theorem dX5_runHandler_99 : decode cX5_runHandler 99 = .ok (.aload_n 0, 1) := by decide +kernel
theorem dX5_runHandler_100 : decode cX5_runHandler 100 = .ok (.getfield 115, 3) := by decide +kernel
theorem dX5_runHandler_103 : decode cX5_runHandler 103 = .ok (.goto 4, 3) := by decide +kernel
theorem dX5_runHandler_106 : decode cX5_runHandler 106 = .ok (.iload_n 3, 1) := by decide +kernel
theorem dX5_runHandler_107 : decode cX5_runHandler 107 = .ok (.istore_n 3, 1) := by decide +kernel
theorem dX5_runHandler_108 : decode cX5_runHandler 108 = .ok (.aload_n 0, 1) := by decide +kernel
theorem dX5_runHandler_109 : decode cX5_runHandler 109 = .ok (.iload_n 1, 1) := by decide +kernel
theorem dX5_runHandler_110 : decode cX5_runHandler 110 = .ok (.iload_n 3, 1) := by decide +kernel
theorem dX5_runHandler_111 : decode cX5_runHandler 111 = .ok (.aload_n 0, 1) := by decide +kernel
theorem dX5_runHandler_112 : decode cX5_runHandler 112 = .ok (.getfield 26, 3) := by decide +kernel
theorem dX5_runHandler_115 : decode cX5_runHandler 115 = .ok (.iload_n 1, 1) := by decide +kernel
theorem dX5_runHandler_116 : decode cX5_runHandler 116 = .ok (.iaload, 1) := by decide +kernel
theorem dX5_runHandler_117 : decode cX5_runHandler 117 = .ok (.iadd, 1) := by decide +kernel
theorem dX5_runHandler_118 : decode cX5_runHandler 118 = .ok (.invokevirtual 155, 3) := by decide +kernel
theorem dX5_runHandler_121 : decode cX5_runHandler 121 = .ok (.aload_n 0, 1) := by decide +kernel
theorem dX5_runHandler_122 : decode cX5_runHandler 122 = .ok (.getfield 38, 3) := by decide +kernel
theorem dX5_runHandler_125 : decode cX5_runHandler 125 = .ok (.iload_n 1, 1) := by decide +kernel
theorem dX5_runHandler_126 : decode cX5_runHandler 126 = .ok (.dup2, 1) := by decide +kernel
theorem dX5_runHandler_127 : decode cX5_runHandler 127 = .ok (.iaload, 1) := by decide +kernel
theorem dX5_runHandler_128 : decode cX5_runHandler 128 = .ok (.iconst 1, 1) := by decide +kernel
theorem dX5_runHandler_129 : decode cX5_runHandler 129 = .ok (.iadd, 1) := by decide +kernel
theorem dX5_runHandler_130 : decode cX5_runHandler 130 = .ok (.iastore, 1) := by decide +kernel
theorem dX5_runHandler_131 : decode cX5_runHandler 131 = .ok (.aload_n 0, 1) := by decide +kernel
theorem dX5_runHandler_132 : decode cX5_runHandler 132 = .ok (.getfield 38, 3) := by decide +kernel
theorem dX5_runHandler_135 : decode cX5_runHandler 135 = .ok (.iload_n 1, 1) := by decide +kernel
theorem dX5_runHandler_136 : decode cX5_runHandler 136 = .ok (.iaload, 1) := by decide +kernel
theorem dX5_runHandler_137 : decode cX5_runHandler 137 = .ok (.aload_n 0, 1) := by decide +kernel
theorem dX5_runHandler_138 : decode cX5_runHandler 138 = .ok (.getfield 17, 3) := by decide +kernel
theorem dX5_runHandler_141 : decode cX5_runHandler 141 = .ok (.iload_n 1, 1) := by decide +kernel
theorem dX5_runHandler_142 : decode cX5_runHandler 142 = .ok (.iaload, 1) := by decide +kernel
theorem dX5_runHandler_143 : decode cX5_runHandler 143 = .ok (.if_icmp .ne 176, 3) := by decide +kernel
theorem dX5_runHandler_146 : decode cX5_runHandler 146 = .ok (.aload_n 0, 1) := by decide +kernel
theorem dX5_runHandler_147 : decode cX5_runHandler 147 = .ok (.getfield 38, 3) := by decide +kernel
theorem dX5_runHandler_150 : decode cX5_runHandler 150 = .ok (.iload_n 1, 1) := by decide +kernel
theorem dX5_runHandler_151 : decode cX5_runHandler 151 = .ok (.iconst 0, 1) := by decide +kernel
theorem dX5_runHandler_152 : decode cX5_runHandler 152 = .ok (.iastore, 1) := by decide +kernel
theorem dX5_runHandler_153 : decode cX5_runHandler 153 = .ok (.aload_n 0, 1) := by decide +kernel
theorem dX5_runHandler_154 : decode cX5_runHandler 154 = .ok (.getfield 115, 3) := by decide +kernel
theorem dX5_runHandler_157 : decode cX5_runHandler 157 = .ok (.iconst 1, 1) := by decide +kernel
theorem dX5_runHandler_158 : decode cX5_runHandler 158 = .ok (.iadd, 1) := by decide +kernel
theorem dX5_runHandler_159 : decode cX5_runHandler 159 = .ok (.aload_n 0, 1) := by decide +kernel
theorem dX5_runHandler_160 : decode cX5_runHandler 160 = .ok (.getfield 35, 3) := by decide +kernel
theorem dX5_runHandler_163 : decode cX5_runHandler 163 = .ok (.bipush 32, 2) := by decide +kernel
theorem dX5_runHandler_165 : decode cX5_runHandler 165 = .ok (.iload_n 1, 1) := by decide +kernel
theorem dX5_runHandler_166 : decode cX5_runHandler 166 = .ok (.imul, 1) := by decide +kernel
theorem dX5_runHandler_167 : decode cX5_runHandler 167 = .ok (.iaload, 1) := by decide +kernel
theorem dX5_runHandler_168 : decode cX5_runHandler 168 = .ok (.isub, 1) := by decide +kernel
theorem dX5_runHandler_169 : decode cX5_runHandler 169 = .ok (.istore 4, 2) := by decide +kernel
theorem dX5_runHandler_171 : decode cX5_runHandler 171 = .ok (.aload_n 0, 1) := by decide +kernel
theorem dX5_runHandler_172 : decode cX5_runHandler 172 = .ok (.getfield 71, 3) := by decide +kernel
theorem dX5_runHandler_175 : decode cX5_runHandler 175 = .ok (.iload_n 1, 1) := by decide +kernel
theorem dX5_runHandler_176 : decode cX5_runHandler 176 = .ok (.iload 4, 2) := by decide +kernel
theorem dX5_runHandler_178 : decode cX5_runHandler 178 = .ok (.aload_n 0, 1) := by decide +kernel
theorem dX5_runHandler_179 : decode cX5_runHandler 179 = .ok (.getfield 71, 3) := by decide +kernel
theorem dX5_runHandler_182 : decode cX5_runHandler 182 = .ok (.iload_n 1, 1) := by decide +kernel
theorem dX5_runHandler_183 : decode cX5_runHandler 183 = .ok (.iaload, 1) := by decide +kernel
theorem dX5_runHandler_184 : decode cX5_runHandler 184 = .ok (.if_icmp .le 8, 3) := by decide +kernel
theorem dX5_runHandler_187 : decode cX5_runHandler 187 = .ok (.iload 4, 2) := by decide +kernel
theorem dX5_runHandler_189 : decode cX5_runHandler 189 = .ok (.goto 9, 3) := by decide +kernel
theorem dX5_runHandler_192 : decode cX5_runHandler 192 = .ok (.aload_n 0, 1) := by decide +kernel
theorem dX5_runHandler_193 : decode cX5_runHandler 193 = .ok (.getfield 71, 3) := by decide +kernel
theorem dX5_runHandler_196 : decode cX5_runHandler 196 = .ok (.iload_n 1, 1) := by decide +kernel
theorem dX5_runHandler_197 : decode cX5_runHandler 197 = .ok (.iaload, 1) := by decide +kernel
theorem dX5_runHandler_198 : decode cX5_runHandler 198 = .ok (.iastore, 1) := by decide +kernel
theorem dX5_runHandler_199 : decode cX5_runHandler 199 = .ok (.aload_n 0, 1) := by decide +kernel
theorem dX5_runHandler_200 : decode cX5_runHandler 200 = .ok (.getfield 32, 3) := by decide +kernel
theorem dX5_runHandler_203 : decode cX5_runHandler 203 = .ok (.iload_n 1, 1) := by decide +kernel
theorem dX5_runHandler_204 : decode cX5_runHandler 204 = .ok (.dup2, 1) := by decide +kernel
theorem dX5_runHandler_205 : decode cX5_runHandler 205 = .ok (.iaload, 1) := by decide +kernel
theorem dX5_runHandler_206 : decode cX5_runHandler 206 = .ok (.iconst 1, 1) := by decide +kernel
theorem dX5_runHandler_207 : decode cX5_runHandler 207 = .ok (.isub, 1) := by decide +kernel
theorem dX5_runHandler_208 : decode cX5_runHandler 208 = .ok (.iastore, 1) := by decide +kernel
theorem dX5_runHandler_209 : decode cX5_runHandler 209 = .ok (.bipush 32, 2) := by decide +kernel
theorem dX5_runHandler_211 : decode cX5_runHandler 211 = .ok (.iload_n 1, 1) := by decide +kernel
theorem dX5_runHandler_212 : decode cX5_runHandler 212 = .ok (.imul, 1) := by decide +kernel
theorem dX5_runHandler_213 : decode cX5_runHandler 213 = .ok (.istore 5, 2) := by decide +kernel
theorem dX5_runHandler_215 : decode cX5_runHandler 215 = .ok (.iload 5, 2) := by decide +kernel
theorem dX5_runHandler_217 : decode cX5_runHandler 217 = .ok (.bipush 32, 2) := by decide +kernel
theorem dX5_runHandler_219 : decode cX5_runHandler 219 = .ok (.iload_n 1, 1) := by decide +kernel
theorem dX5_runHandler_220 : decode cX5_runHandler 220 = .ok (.imul, 1) := by decide +kernel
theorem dX5_runHandler_221 : decode cX5_runHandler 221 = .ok (.aload_n 0, 1) := by decide +kernel
theorem dX5_runHandler_222 : decode cX5_runHandler 222 = .ok (.getfield 32, 3) := by decide +kernel
theorem dX5_runHandler_225 : decode cX5_runHandler 225 = .ok (.iload_n 1, 1) := by decide +kernel
theorem dX5_runHandler_226 : decode cX5_runHandler 226 = .ok (.iaload, 1) := by decide +kernel
theorem dX5_runHandler_227 : decode cX5_runHandler 227 = .ok (.iadd, 1) := by decide +kernel
theorem dX5_runHandler_228 : decode cX5_runHandler 228 = .ok (.if_icmp .ge 25, 3) := by decide +kernel
theorem dX5_runHandler_231 : decode cX5_runHandler 231 = .ok (.aload_n 0, 1) := by decide +kernel
theorem dX5_runHandler_232 : decode cX5_runHandler 232 = .ok (.getfield 35, 3) := by decide +kernel
theorem dX5_runHandler_235 : decode cX5_runHandler 235 = .ok (.iload 5, 2) := by decide +kernel
theorem dX5_runHandler_237 : decode cX5_runHandler 237 = .ok (.aload_n 0, 1) := by decide +kernel
theorem dX5_runHandler_238 : decode cX5_runHandler 238 = .ok (.getfield 35, 3) := by decide +kernel
theorem dX5_runHandler_241 : decode cX5_runHandler 241 = .ok (.iload 5, 2) := by decide +kernel
theorem dX5_runHandler_243 : decode cX5_runHandler 243 = .ok (.iconst 1, 1) := by decide +kernel
theorem dX5_runHandler_244 : decode cX5_runHandler 244 = .ok (.iadd, 1) := by decide +kernel
theorem dX5_runHandler_245 : decode cX5_runHandler 245 = .ok (.iaload, 1) := by decide +kernel
theorem dX5_runHandler_246 : decode cX5_runHandler 246 = .ok (.iastore, 1) := by decide +kernel
theorem dX5_runHandler_247 : decode cX5_runHandler 247 = .ok (.iinc 5 1, 3) := by decide +kernel
theorem dX5_runHandler_250 : decode cX5_runHandler 250 = .ok (.goto (-35), 3) := by decide +kernel
theorem dX5_runHandler_253 : decode cX5_runHandler 253 = .ok (.aload_n 0, 1) := by decide +kernel
theorem dX5_runHandler_254 : decode cX5_runHandler 254 = .ok (.getfield 65, 3) := by decide +kernel
theorem dX5_runHandler_257 : decode cX5_runHandler 257 = .ok (.iload_n 1, 1) := by decide +kernel
theorem dX5_runHandler_258 : decode cX5_runHandler 258 = .ok (.dup2, 1) := by decide +kernel
theorem dX5_runHandler_259 : decode cX5_runHandler 259 = .ok (.iaload, 1) := by decide +kernel
theorem dX5_runHandler_260 : decode cX5_runHandler 260 = .ok (.iconst 1, 1) := by decide +kernel
theorem dX5_runHandler_261 : decode cX5_runHandler 261 = .ok (.iadd, 1) := by decide +kernel
theorem dX5_runHandler_262 : decode cX5_runHandler 262 = .ok (.iastore, 1) := by decide +kernel
theorem dX5_runHandler_263 : decode cX5_runHandler 263 = .ok (.aload_n 0, 1) := by decide +kernel
theorem dX5_runHandler_264 : decode cX5_runHandler 264 = .ok (.getfield 56, 3) := by decide +kernel
theorem dX5_runHandler_267 : decode cX5_runHandler 267 = .ok (.iload_n 1, 1) := by decide +kernel
theorem dX5_runHandler_268 : decode cX5_runHandler 268 = .ok (.aload_n 0, 1) := by decide +kernel
theorem dX5_runHandler_269 : decode cX5_runHandler 269 = .ok (.getfield 56, 3) := by decide +kernel
theorem dX5_runHandler_272 : decode cX5_runHandler 272 = .ok (.iload_n 1, 1) := by decide +kernel
theorem dX5_runHandler_273 : decode cX5_runHandler 273 = .ok (.baload, 1) := by decide +kernel
theorem dX5_runHandler_274 : decode cX5_runHandler 274 = .ok (.ifCond .eq 18, 3) := by decide +kernel
theorem dX5_runHandler_277 : decode cX5_runHandler 277 = .ok (.aload_n 0, 1) := by decide +kernel
theorem dX5_runHandler_278 : decode cX5_runHandler 278 = .ok (.getfield 32, 3) := by decide +kernel
theorem dX5_runHandler_281 : decode cX5_runHandler 281 = .ok (.iload_n 1, 1) := by decide +kernel
theorem dX5_runHandler_282 : decode cX5_runHandler 282 = .ok (.iaload, 1) := by decide +kernel
theorem dX5_runHandler_283 : decode cX5_runHandler 283 = .ok (.bipush 8, 2) := by decide +kernel
theorem dX5_runHandler_285 : decode cX5_runHandler 285 = .ok (.if_icmp .le 7, 3) := by decide +kernel
theorem dX5_runHandler_288 : decode cX5_runHandler 288 = .ok (.iconst 1, 1) := by decide +kernel
theorem dX5_runHandler_289 : decode cX5_runHandler 289 = .ok (.goto 4, 3) := by decide +kernel
theorem dX5_runHandler_292 : decode cX5_runHandler 292 = .ok (.iconst 0, 1) := by decide +kernel
theorem dX5_runHandler_293 : decode cX5_runHandler 293 = .ok (.bastore, 1) := by decide +kernel
theorem dX5_runHandler_294 : decode cX5_runHandler 294 = .ok (.aload_n 0, 1) := by decide +kernel
theorem dX5_runHandler_295 : decode cX5_runHandler 295 = .ok (.getfield 41, 3) := by decide +kernel
theorem dX5_runHandler_298 : decode cX5_runHandler 298 = .ok (.iload_n 1, 1) := by decide +kernel
theorem dX5_runHandler_299 : decode cX5_runHandler 299 = .ok (.aload_n 0, 1) := by decide +kernel
theorem dX5_runHandler_300 : decode cX5_runHandler 300 = .ok (.getfield 32, 3) := by decide +kernel
theorem dX5_runHandler_303 : decode cX5_runHandler 303 = .ok (.iload_n 1, 1) := by decide +kernel
theorem dX5_runHandler_304 : decode cX5_runHandler 304 = .ok (.iaload, 1) := by decide +kernel
theorem dX5_runHandler_305 : decode cX5_runHandler 305 = .ok (.ifCond .ne 7, 3) := by decide +kernel
theorem dX5_runHandler_308 : decode cX5_runHandler 308 = .ok (.iconst (-1), 1) := by decide +kernel
theorem dX5_runHandler_309 : decode cX5_runHandler 309 = .ok (.goto 9, 3) := by decide +kernel
theorem dX5_runHandler_312 : decode cX5_runHandler 312 = .ok (.aload_n 0, 1) := by decide +kernel
theorem dX5_runHandler_313 : decode cX5_runHandler 313 = .ok (.getfield 41, 3) := by decide +kernel
theorem dX5_runHandler_316 : decode cX5_runHandler 316 = .ok (.iload_n 1, 1) := by decide +kernel
theorem dX5_runHandler_317 : decode cX5_runHandler 317 = .ok (.iaload, 1) := by decide +kernel
theorem dX5_runHandler_318 : decode cX5_runHandler 318 = .ok (.iastore, 1) := by decide +kernel
theorem dX5_runHandler_319 : decode cX5_runHandler 319 = .ok (.return_, 1) := by decide +kernel
theorem dX5_runOne_0 : decode cX5_runOne 0 = .ok (.aload_n 0, 1) := by decide +kernel
theorem dX5_runOne_1 : decode cX5_runOne 1 = .ok (.getfield 152, 3) := by decide +kernel
theorem dX5_runOne_4 : decode cX5_runOne 4 = .ok (.ifCond .le 8, 3) := by decide +kernel
theorem dX5_runOne_7 : decode cX5_runOne 7 = .ok (.aload_n 0, 1) := by decide +kernel
theorem dX5_runOne_8 : decode cX5_runOne 8 = .ok (.invokevirtual 159, 3) := by decide +kernel
theorem dX5_runOne_11 : decode cX5_runOne 11 = .ok (.ireturn, 1) := by decide +kernel
theorem dX5_runOne_12 : decode cX5_runOne 12 = .ok (.iconst (-1), 1) := by decide +kernel
theorem dX5_runOne_13 : decode cX5_runOne 13 = .ok (.istore_n 1, 1) := by decide +kernel
theorem dX5_runOne_14 : decode cX5_runOne 14 = .ok (.iconst 0, 1) := by decide +kernel
theorem dX5_runOne_15 : decode cX5_runOne 15 = .ok (.istore_n 2, 1) := by decide +kernel
theorem dX5_runOne_16 : decode cX5_runOne 16 = .ok (.iload_n 2, 1) := by decide +kernel
theorem dX5_runOne_17 : decode cX5_runOne 17 = .ok (.bipush 6, 2) := by decide +kernel
theorem dX5_runOne_19 : decode cX5_runOne 19 = .ok (.if_icmp .ge 42, 3) := by decide +kernel
theorem dX5_runOne_22 : decode cX5_runOne 22 = .ok (.aload_n 0, 1) := by decide +kernel
theorem dX5_runOne_23 : decode cX5_runOne 23 = .ok (.iload_n 2, 1) := by decide +kernel
theorem dX5_runOne_24 : decode cX5_runOne 24 = .ok (.invokevirtual 163, 3) := by decide +kernel
theorem dX5_runOne_27 : decode cX5_runOne 27 = .ok (.ifCond .eq 26, 3) := by decide +kernel
theorem dX5_runOne_30 : decode cX5_runOne 30 = .ok (.iload_n 1, 1) := by decide +kernel
theorem dX5_runOne_31 : decode cX5_runOne 31 = .ok (.ifCond .lt 18, 3) := by decide +kernel
theorem dX5_runOne_34 : decode cX5_runOne 34 = .ok (.aload_n 0, 1) := by decide +kernel
theorem dX5_runOne_35 : decode cX5_runOne 35 = .ok (.getfield 29, 3) := by decide +kernel
theorem dX5_runOne_38 : decode cX5_runOne 38 = .ok (.iload_n 2, 1) := by decide +kernel
theorem dX5_runOne_39 : decode cX5_runOne 39 = .ok (.iaload, 1) := by decide +kernel
theorem dX5_runOne_40 : decode cX5_runOne 40 = .ok (.aload_n 0, 1) := by decide +kernel
theorem dX5_runOne_41 : decode cX5_runOne 41 = .ok (.getfield 29, 3) := by decide +kernel
theorem dX5_runOne_44 : decode cX5_runOne 44 = .ok (.iload_n 1, 1) := by decide +kernel
theorem dX5_runOne_45 : decode cX5_runOne 45 = .ok (.iaload, 1) := by decide +kernel
theorem dX5_runOne_46 : decode cX5_runOne 46 = .ok (.if_icmp .le 7, 3) := by decide +kernel
theorem dX5_runOne_49 : decode cX5_runOne 49 = .ok (.iload_n 2, 1) := by decide +kernel
theorem dX5_runOne_50 : decode cX5_runOne 50 = .ok (.goto 4, 3) := by decide +kernel
theorem dX5_runOne_53 : decode cX5_runOne 53 = .ok (.iload_n 1, 1) := by decide +kernel
theorem dX5_runOne_54 : decode cX5_runOne 54 = .ok (.istore_n 1, 1) := by decide +kernel
theorem dX5_runOne_55 : decode cX5_runOne 55 = .ok (.iinc 2 1, 3) := by decide +kernel
theorem dX5_runOne_58 : decode cX5_runOne 58 = .ok (.goto (-42), 3) := by decide +kernel
theorem dX5_runOne_61 : decode cX5_runOne 61 = .ok (.iload_n 1, 1) := by decide +kernel
theorem dX5_runOne_62 : decode cX5_runOne 62 = .ok (.ifCond .lt 13, 3) := by decide +kernel
theorem dX5_runOne_65 : decode cX5_runOne 65 = .ok (.aload_n 0, 1) := by decide +kernel
theorem dX5_runOne_66 : decode cX5_runOne 66 = .ok (.iload_n 1, 1) := by decide +kernel
theorem dX5_runOne_67 : decode cX5_runOne 67 = .ok (.invokevirtual 166, 3) := by decide +kernel
theorem dX5_runOne_70 : decode cX5_runOne 70 = .ok (.bipush 20, 2) := by decide +kernel
theorem dX5_runOne_72 : decode cX5_runOne 72 = .ok (.iload_n 1, 1) := by decide +kernel
theorem dX5_runOne_73 : decode cX5_runOne 73 = .ok (.iadd, 1) := by decide +kernel
theorem dX5_runOne_74 : decode cX5_runOne 74 = .ok (.ireturn, 1) := by decide +kernel
theorem dX5_runOne_75 : decode cX5_runOne 75 = .ok (.iconst 0, 1) := by decide +kernel
theorem dX5_runOne_76 : decode cX5_runOne 76 = .ok (.istore_n 2, 1) := by decide +kernel
theorem dX5_runOne_77 : decode cX5_runOne 77 = .ok (.iload_n 2, 1) := by decide +kernel
theorem dX5_runOne_78 : decode cX5_runOne 78 = .ok (.bipush 6, 2) := by decide +kernel
theorem dX5_runOne_80 : decode cX5_runOne 80 = .ok (.if_icmp .ge 52, 3) := by decide +kernel
theorem dX5_runOne_83 : decode cX5_runOne 83 = .ok (.aload_n 0, 1) := by decide +kernel
theorem dX5_runOne_84 : decode cX5_runOne 84 = .ok (.getfield 74, 3) := by decide +kernel
theorem dX5_runOne_87 : decode cX5_runOne 87 = .ok (.iload_n 2, 1) := by decide +kernel
theorem dX5_runOne_88 : decode cX5_runOne 88 = .ok (.baload, 1) := by decide +kernel
theorem dX5_runOne_89 : decode cX5_runOne 89 = .ok (.ifCond .eq 35, 3) := by decide +kernel
theorem dX5_runOne_92 : decode cX5_runOne 92 = .ok (.aload_n 0, 1) := by decide +kernel
theorem dX5_runOne_93 : decode cX5_runOne 93 = .ok (.getfield 89, 3) := by decide +kernel
theorem dX5_runOne_96 : decode cX5_runOne 96 = .ok (.iload_n 2, 1) := by decide +kernel
theorem dX5_runOne_97 : decode cX5_runOne 97 = .ok (.iaload, 1) := by decide +kernel
theorem dX5_runOne_98 : decode cX5_runOne 98 = .ok (.ifCond .le 26, 3) := by decide +kernel
theorem dX5_runOne_101 : decode cX5_runOne 101 = .ok (.iload_n 1, 1) := by decide +kernel
theorem dX5_runOne_102 : decode cX5_runOne 102 = .ok (.ifCond .lt 18, 3) := by decide +kernel
theorem dX5_runOne_105 : decode cX5_runOne 105 = .ok (.aload_n 0, 1) := by decide +kernel
theorem dX5_runOne_106 : decode cX5_runOne 106 = .ok (.getfield 83, 3) := by decide +kernel
theorem dX5_runOne_109 : decode cX5_runOne 109 = .ok (.iload_n 2, 1) := by decide +kernel
theorem dX5_runOne_110 : decode cX5_runOne 110 = .ok (.iaload, 1) := by decide +kernel
theorem dX5_runOne_111 : decode cX5_runOne 111 = .ok (.aload_n 0, 1) := by decide +kernel
theorem dX5_runOne_112 : decode cX5_runOne 112 = .ok (.getfield 83, 3) := by decide +kernel
theorem dX5_runOne_115 : decode cX5_runOne 115 = .ok (.iload_n 1, 1) := by decide +kernel
theorem dX5_runOne_116 : decode cX5_runOne 116 = .ok (.iaload, 1) := by decide +kernel
theorem dX5_runOne_117 : decode cX5_runOne 117 = .ok (.if_icmp .le 7, 3) := by decide +kernel
theorem dX5_runOne_120 : decode cX5_runOne 120 = .ok (.iload_n 2, 1) := by decide +kernel
theorem dX5_runOne_121 : decode cX5_runOne 121 = .ok (.goto 4, 3) := by decide +kernel
theorem dX5_runOne_124 : decode cX5_runOne 124 = .ok (.iload_n 1, 1) := by decide +kernel
theorem dX5_runOne_125 : decode cX5_runOne 125 = .ok (.istore_n 1, 1) := by decide +kernel
theorem dX5_runOne_126 : decode cX5_runOne 126 = .ok (.iinc 2 1, 3) := by decide +kernel
theorem dX5_runOne_129 : decode cX5_runOne 129 = .ok (.goto (-52), 3) := by decide +kernel
theorem dX5_runOne_132 : decode cX5_runOne 132 = .ok (.iload_n 1, 1) := by decide +kernel
theorem dX5_runOne_133 : decode cX5_runOne 133 = .ok (.ifCond .ge 5, 3) := by decide +kernel
theorem dX5_runOne_136 : decode cX5_runOne 136 = .ok (.iconst 0, 1) := by decide +kernel
theorem dX5_runOne_137 : decode cX5_runOne 137 = .ok (.ireturn, 1) := by decide +kernel
theorem dX5_runOne_138 : decode cX5_runOne 138 = .ok (.aload_n 0, 1) := by decide +kernel
theorem dX5_runOne_139 : decode cX5_runOne 139 = .ok (.getfield 89, 3) := by decide +kernel
theorem dX5_runOne_142 : decode cX5_runOne 142 = .ok (.iload_n 1, 1) := by decide +kernel
theorem dX5_runOne_143 : decode cX5_runOne 143 = .ok (.dup2, 1) := by decide +kernel
theorem dX5_runOne_144 : decode cX5_runOne 144 = .ok (.iaload, 1) := by decide +kernel
theorem dX5_runOne_145 : decode cX5_runOne 145 = .ok (.iconst 1, 1) := by decide +kernel
theorem dX5_runOne_146 : decode cX5_runOne 146 = .ok (.isub, 1) := by decide +kernel
theorem dX5_runOne_147 : decode cX5_runOne 147 = .ok (.iastore, 1) := by decide +kernel
theorem dX5_runOne_148 : decode cX5_runOne 148 = .ok (.aload_n 0, 1) := by decide +kernel
theorem dX5_runOne_149 : decode cX5_runOne 149 = .ok (.getfield 95, 3) := by decide +kernel
theorem dX5_runOne_152 : decode cX5_runOne 152 = .ok (.iload_n 1, 1) := by decide +kernel
theorem dX5_runOne_153 : decode cX5_runOne 153 = .ok (.aload_n 0, 1) := by decide +kernel
theorem dX5_runOne_154 : decode cX5_runOne 154 = .ok (.getfield 89, 3) := by decide +kernel
theorem dX5_runOne_157 : decode cX5_runOne 157 = .ok (.iload_n 1, 1) := by decide +kernel
theorem dX5_runOne_158 : decode cX5_runOne 158 = .ok (.iaload, 1) := by decide +kernel
theorem dX5_runOne_159 : decode cX5_runOne 159 = .ok (.ifCond .ne 14, 3) := by decide +kernel
theorem dX5_runOne_162 : decode cX5_runOne 162 = .ok (.aload_n 0, 1) := by decide +kernel
theorem dX5_runOne_163 : decode cX5_runOne 163 = .ok (.getfield 95, 3) := by decide +kernel
theorem dX5_runOne_166 : decode cX5_runOne 166 = .ok (.iload_n 1, 1) := by decide +kernel
theorem dX5_runOne_167 : decode cX5_runOne 167 = .ok (.iaload, 1) := by decide +kernel
theorem dX5_runOne_168 : decode cX5_runOne 168 = .ok (.iconst 1, 1) := by decide +kernel
theorem dX5_runOne_169 : decode cX5_runOne 169 = .ok (.iadd, 1) := by decide +kernel
theorem dX5_runOne_170 : decode cX5_runOne 170 = .ok (.goto 9, 3) := by decide +kernel
theorem dX5_runOne_173 : decode cX5_runOne 173 = .ok (.aload_n 0, 1) := by decide +kernel
theorem dX5_runOne_174 : decode cX5_runOne 174 = .ok (.getfield 95, 3) := by decide +kernel
theorem dX5_runOne_177 : decode cX5_runOne 177 = .ok (.iload_n 1, 1) := by decide +kernel
theorem dX5_runOne_178 : decode cX5_runOne 178 = .ok (.iaload, 1) := by decide +kernel
theorem dX5_runOne_179 : decode cX5_runOne 179 = .ok (.iastore, 1) := by decide +kernel
theorem dX5_runOne_180 : decode cX5_runOne 180 = .ok (.bipush 30, 2) := by decide +kernel
theorem dX5_runOne_182 : decode cX5_runOne 182 = .ok (.iload_n 1, 1) := by decide +kernel
theorem dX5_runOne_183 : decode cX5_runOne 183 = .ok (.iadd, 1) := by decide +kernel
theorem dX5_runOne_184 : decode cX5_runOne 184 = .ok (.ireturn, 1) := by decide +kernel
theorem dX5_pass_0 : decode cX5_pass 0 = .ok (.aload_n 0, 1) := by decide +kernel
theorem dX5_pass_1 : decode cX5_pass 1 = .ok (.invokevirtual 170, 3) := by decide +kernel
theorem dX5_pass_4 : decode cX5_pass 4 = .ok (.iconst 0, 1) := by decide +kernel
theorem dX5_pass_5 : decode cX5_pass 5 = .ok (.istore_n 1, 1) := by decide +kernel
theorem dX5_pass_6 : decode cX5_pass 6 = .ok (.iload_n 1, 1) := by decide +kernel
theorem dX5_pass_7 : decode cX5_pass 7 = .ok (.bipush 6, 2) := by decide +kernel
theorem dX5_pass_9 : decode cX5_pass 9 = .ok (.if_icmp .ge 83, 3) := by decide +kernel
theorem dX5_pass_12 : decode cX5_pass 12 = .ok (.aload_n 0, 1) := by decide +kernel
theorem dX5_pass_13 : decode cX5_pass 13 = .ok (.getfield 74, 3) := by decide +kernel
theorem dX5_pass_16 : decode cX5_pass 16 = .ok (.iload_n 1, 1) := by decide +kernel
theorem dX5_pass_17 : decode cX5_pass 17 = .ok (.baload, 1) := by decide +kernel
theorem dX5_pass_18 : decode cX5_pass 18 = .ok (.ifCond .eq 68, 3) := by decide +kernel
theorem dX5_pass_21 : decode cX5_pass 21 = .ok (.aload_n 0, 1) := by decide +kernel
theorem dX5_pass_22 : decode cX5_pass 22 = .ok (.getfield 115, 3) := by decide +kernel
theorem dX5_pass_25 : decode cX5_pass 25 = .ok (.aload_n 0, 1) := by decide +kernel
theorem dX5_pass_26 : decode cX5_pass 26 = .ok (.getfield 86, 3) := by decide +kernel
theorem dX5_pass_29 : decode cX5_pass 29 = .ok (.iload_n 1, 1) := by decide +kernel
theorem dX5_pass_30 : decode cX5_pass 30 = .ok (.iaload, 1) := by decide +kernel
theorem dX5_pass_31 : decode cX5_pass 31 = .ok (.isub, 1) := by decide +kernel
theorem dX5_pass_32 : decode cX5_pass 32 = .ok (.aload_n 0, 1) := by decide +kernel
theorem dX5_pass_33 : decode cX5_pass 33 = .ok (.getfield 77, 3) := by decide +kernel
theorem dX5_pass_36 : decode cX5_pass 36 = .ok (.iload_n 1, 1) := by decide +kernel
theorem dX5_pass_37 : decode cX5_pass 37 = .ok (.iaload, 1) := by decide +kernel
theorem dX5_pass_38 : decode cX5_pass 38 = .ok (.irem, 1) := by decide +kernel
theorem dX5_pass_39 : decode cX5_pass 39 = .ok (.ifCond .ne 47, 3) := by decide +kernel
theorem dX5_pass_42 : decode cX5_pass 42 = .ok (.aload_n 0, 1) := by decide +kernel
theorem dX5_pass_43 : decode cX5_pass 43 = .ok (.getfield 92, 3) := by decide +kernel
theorem dX5_pass_46 : decode cX5_pass 46 = .ok (.iload_n 1, 1) := by decide +kernel
theorem dX5_pass_47 : decode cX5_pass 47 = .ok (.aload_n 0, 1) := by decide +kernel
theorem dX5_pass_48 : decode cX5_pass 48 = .ok (.getfield 89, 3) := by decide +kernel
theorem dX5_pass_51 : decode cX5_pass 51 = .ok (.iload_n 1, 1) := by decide +kernel
theorem dX5_pass_52 : decode cX5_pass 52 = .ok (.iaload, 1) := by decide +kernel
theorem dX5_pass_53 : decode cX5_pass 53 = .ok (.ifCond .le 14, 3) := by decide +kernel
theorem dX5_pass_56 : decode cX5_pass 56 = .ok (.aload_n 0, 1) := by decide +kernel
theorem dX5_pass_57 : decode cX5_pass 57 = .ok (.getfield 92, 3) := by decide +kernel
theorem dX5_pass_60 : decode cX5_pass 60 = .ok (.iload_n 1, 1) := by decide +kernel
theorem dX5_pass_61 : decode cX5_pass 61 = .ok (.iaload, 1) := by decide +kernel
theorem dX5_pass_62 : decode cX5_pass 62 = .ok (.iconst 1, 1) := by decide +kernel
theorem dX5_pass_63 : decode cX5_pass 63 = .ok (.iadd, 1) := by decide +kernel
theorem dX5_pass_64 : decode cX5_pass 64 = .ok (.goto 9, 3) := by decide +kernel
theorem dX5_pass_67 : decode cX5_pass 67 = .ok (.aload_n 0, 1) := by decide +kernel
theorem dX5_pass_68 : decode cX5_pass 68 = .ok (.getfield 92, 3) := by decide +kernel
theorem dX5_pass_71 : decode cX5_pass 71 = .ok (.iload_n 1, 1) := by decide +kernel
theorem dX5_pass_72 : decode cX5_pass 72 = .ok (.iaload, 1) := by decide +kernel
theorem dX5_pass_73 : decode cX5_pass 73 = .ok (.iastore, 1) := by decide +kernel
theorem dX5_pass_74 : decode cX5_pass 74 = .ok (.aload_n 0, 1) := by decide +kernel
theorem dX5_pass_75 : decode cX5_pass 75 = .ok (.getfield 89, 3) := by decide +kernel
theorem dX5_pass_78 : decode cX5_pass 78 = .ok (.iload_n 1, 1) := by decide +kernel
theorem dX5_pass_79 : decode cX5_pass 79 = .ok (.aload_n 0, 1) := by decide +kernel
theorem dX5_pass_80 : decode cX5_pass 80 = .ok (.getfield 80, 3) := by decide +kernel
theorem dX5_pass_83 : decode cX5_pass 83 = .ok (.iload_n 1, 1) := by decide +kernel
theorem dX5_pass_84 : decode cX5_pass 84 = .ok (.iaload, 1) := by decide +kernel
theorem dX5_pass_85 : decode cX5_pass 85 = .ok (.iastore, 1) := by decide +kernel
theorem dX5_pass_86 : decode cX5_pass 86 = .ok (.iinc 1 1, 3) := by decide +kernel
theorem dX5_pass_89 : decode cX5_pass 89 = .ok (.goto (-83), 3) := by decide +kernel
theorem dX5_pass_92 : decode cX5_pass 92 = .ok (.aload_n 0, 1) := by decide +kernel
theorem dX5_pass_93 : decode cX5_pass 93 = .ok (.invokevirtual 173, 3) := by decide +kernel
theorem dX5_pass_96 : decode cX5_pass 96 = .ok (.istore_n 1, 1) := by decide +kernel
theorem dX5_pass_97 : decode cX5_pass 97 = .ok (.aload_n 0, 1) := by decide +kernel
theorem dX5_pass_98 : decode cX5_pass 98 = .ok (.getfield 104, 3) := by decide +kernel
theorem dX5_pass_101 : decode cX5_pass 101 = .ok (.aload_n 0, 1) := by decide +kernel
theorem dX5_pass_102 : decode cX5_pass 102 = .ok (.getfield 115, 3) := by decide +kernel
theorem dX5_pass_105 : decode cX5_pass 105 = .ok (.sipush 1024, 3) := by decide +kernel
theorem dX5_pass_108 : decode cX5_pass 108 = .ok (.irem, 1) := by decide +kernel
theorem dX5_pass_109 : decode cX5_pass 109 = .ok (.iload_n 1, 1) := by decide +kernel
theorem dX5_pass_110 : decode cX5_pass 110 = .ok (.iastore, 1) := by decide +kernel
theorem dX5_pass_111 : decode cX5_pass 111 = .ok (.aload_n 0, 1) := by decide +kernel
theorem dX5_pass_112 : decode cX5_pass 112 = .ok (.dup, 1) := by decide +kernel
theorem dX5_pass_113 : decode cX5_pass 113 = .ok (.getfield 115, 3) := by decide +kernel
theorem dX5_pass_116 : decode cX5_pass 116 = .ok (.iconst 1, 1) := by decide +kernel
theorem dX5_pass_117 : decode cX5_pass 117 = .ok (.iadd, 1) := by decide +kernel
theorem dX5_pass_118 : decode cX5_pass 118 = .ok (.putfield 115, 3) := by decide +kernel
theorem dX5_pass_121 : decode cX5_pass 121 = .ok (.aload_n 0, 1) := by decide +kernel
theorem dX5_pass_122 : decode cX5_pass 122 = .ok (.invokevirtual 170, 3) := by decide +kernel
theorem dX5_pass_125 : decode cX5_pass 125 = .ok (.iload_n 1, 1) := by decide +kernel
theorem dX5_pass_126 : decode cX5_pass 126 = .ok (.ireturn, 1) := by decide +kernel
theorem dX5_tick_0 : decode cX5_tick 0 = .ok (.aload_n 0, 1) := by decide +kernel
theorem dX5_tick_1 : decode cX5_tick 1 = .ok (.iconst 0, 1) := by decide +kernel
theorem dX5_tick_2 : decode cX5_tick 2 = .ok (.putfield 107, 3) := by decide +kernel
theorem dX5_tick_5 : decode cX5_tick 5 = .ok (.aload_n 0, 1) := by decide +kernel
theorem dX5_tick_6 : decode cX5_tick 6 = .ok (.invokevirtual 176, 3) := by decide +kernel
theorem dX5_tick_9 : decode cX5_tick 9 = .ok (.ireturn, 1) := by decide +kernel
theorem dX5_ticks_0 : decode cX5_ticks 0 = .ok (.aload_n 0, 1) := by decide +kernel
theorem dX5_ticks_1 : decode cX5_ticks 1 = .ok (.iload_n 1, 1) := by decide +kernel
theorem dX5_ticks_2 : decode cX5_ticks 2 = .ok (.iconst 0, 1) := by decide +kernel
theorem dX5_ticks_3 : decode cX5_ticks 3 = .ok (.sipush 500, 3) := by decide +kernel
theorem dX5_ticks_6 : decode cX5_ticks 6 = .ok (.invokestatic 140, 3) := by decide +kernel
theorem dX5_ticks_9 : decode cX5_ticks 9 = .ok (.ifCond .eq 7, 3) := by decide +kernel
theorem dX5_ticks_12 : decode cX5_ticks 12 = .ok (.iconst 0, 1) := by decide +kernel
theorem dX5_ticks_13 : decode cX5_ticks 13 = .ok (.goto 4, 3) := by decide +kernel
theorem dX5_ticks_16 : decode cX5_ticks 16 = .ok (.iconst 1, 1) := by decide +kernel
theorem dX5_ticks_17 : decode cX5_ticks 17 = .ok (.putfield 107, 3) := by decide +kernel
theorem dX5_ticks_20 : decode cX5_ticks 20 = .ok (.iconst 0, 1) := by decide +kernel
theorem dX5_ticks_21 : decode cX5_ticks 21 = .ok (.istore_n 2, 1) := by decide +kernel
theorem dX5_ticks_22 : decode cX5_ticks 22 = .ok (.iconst 0, 1) := by decide +kernel
theorem dX5_ticks_23 : decode cX5_ticks 23 = .ok (.istore_n 3, 1) := by decide +kernel
theorem dX5_ticks_24 : decode cX5_ticks 24 = .ok (.iload_n 3, 1) := by decide +kernel
theorem dX5_ticks_25 : decode cX5_ticks 25 = .ok (.iload_n 1, 1) := by decide +kernel
theorem dX5_ticks_26 : decode cX5_ticks 26 = .ok (.if_icmp .ge 31, 3) := by decide +kernel
theorem dX5_ticks_29 : decode cX5_ticks 29 = .ok (.aload_n 0, 1) := by decide +kernel
theorem dX5_ticks_30 : decode cX5_ticks 30 = .ok (.getfield 107, 3) := by decide +kernel
theorem dX5_ticks_33 : decode cX5_ticks 33 = .ok (.ifCond .ne 24, 3) := by decide +kernel
theorem dX5_ticks_36 : decode cX5_ticks 36 = .ok (.aload_n 0, 1) := by decide +kernel
theorem dX5_ticks_37 : decode cX5_ticks 37 = .ok (.invokevirtual 176, 3) := by decide +kernel
theorem dX5_ticks_40 : decode cX5_ticks 40 = .ok (.ifCond .le 9, 3) := by decide +kernel
theorem dX5_ticks_43 : decode cX5_ticks 43 = .ok (.iload_n 2, 1) := by decide +kernel
theorem dX5_ticks_44 : decode cX5_ticks 44 = .ok (.iconst 1, 1) := by decide +kernel
theorem dX5_ticks_45 : decode cX5_ticks 45 = .ok (.iadd, 1) := by decide +kernel
theorem dX5_ticks_46 : decode cX5_ticks 46 = .ok (.goto 4, 3) := by decide +kernel
theorem dX5_ticks_49 : decode cX5_ticks 49 = .ok (.iload_n 2, 1) := by decide +kernel
theorem dX5_ticks_50 : decode cX5_ticks 50 = .ok (.istore_n 2, 1) := by decide +kernel
theorem dX5_ticks_51 : decode cX5_ticks 51 = .ok (.iinc 3 1, 3) := by decide +kernel
theorem dX5_ticks_54 : decode cX5_ticks 54 = .ok (.goto (-30), 3) := by decide +kernel
theorem dX5_ticks_57 : decode cX5_ticks 57 = .ok (.iload_n 2, 1) := by decide +kernel
theorem dX5_ticks_58 : decode cX5_ticks 58 = .ok (.ireturn, 1) := by decide +kernel
theorem dX5_about_0 : decode cX5_about 0 = .ok (.aload_n 0, 1) := by decide +kernel
theorem dX5_about_1 : decode cX5_about 1 = .ok (.aload_n 0, 1) := by decide +kernel
theorem dX5_about_2 : decode cX5_about 2 = .ok (.iload_n 1, 1) := by decide +kernel
theorem dX5_about_3 : decode cX5_about 3 = .ok (.invokevirtual 148, 3) := by decide +kernel
theorem dX5_about_6 : decode cX5_about 6 = .ok (.ifCond .ne 7, 3) := by decide +kernel
theorem dX5_about_9 : decode cX5_about 9 = .ok (.iconst 1, 1) := by decide +kernel
theorem dX5_about_10 : decode cX5_about 10 = .ok (.goto 18, 3) := by decide +kernel
theorem dX5_about_13 : decode cX5_about 13 = .ok (.iload_n 2, 1) := by decide +kernel
theorem dX5_about_14 : decode cX5_about 14 = .ok (.iconst 0, 1) := by decide +kernel
theorem dX5_about_15 : decode cX5_about 15 = .ok (.bipush 12, 2) := by decide +kernel
theorem dX5_about_17 : decode cX5_about 17 = .ok (.invokestatic 140, 3) := by decide +kernel
theorem dX5_about_20 : decode cX5_about 20 = .ok (.ifCond .ne 7, 3) := by decide +kernel
theorem dX5_about_23 : decode cX5_about 23 = .ok (.iconst 2, 1) := by decide +kernel
theorem dX5_about_24 : decode cX5_about 24 = .ok (.goto 4, 3) := by decide +kernel
theorem dX5_about_27 : decode cX5_about 27 = .ok (.iconst 0, 1) := by decide +kernel
theorem dX5_about_28 : decode cX5_about 28 = .ok (.putfield 107, 3) := by decide +kernel
theorem dX5_about_31 : decode cX5_about 31 = .ok (.aload_n 0, 1) := by decide +kernel
theorem dX5_about_32 : decode cX5_about 32 = .ok (.getfield 107, 3) := by decide +kernel
theorem dX5_about_35 : decode cX5_about 35 = .ok (.ifCond .le 5, 3) := by decide +kernel
theorem dX5_about_38 : decode cX5_about 38 = .ok (.iconst 0, 1) := by decide +kernel
theorem dX5_about_39 : decode cX5_about 39 = .ok (.ireturn, 1) := by decide +kernel
theorem dX5_about_40 : decode cX5_about 40 = .ok (.aload_n 0, 1) := by decide +kernel
theorem dX5_about_41 : decode cX5_about 41 = .ok (.iload_n 1, 1) := by decide +kernel
theorem dX5_about_42 : decode cX5_about 42 = .ok (.invokevirtual 179, 3) := by decide +kernel
theorem dX5_about_45 : decode cX5_about 45 = .ok (.istore_n 3, 1) := by decide +kernel
theorem dX5_about_46 : decode cX5_about 46 = .ok (.iload_n 2, 1) := by decide +kernel
theorem dX5_about_47 : decode cX5_about 47 = .ok (.tableswitch 178 0 11 #[61, 68, 75, 82, 89, 104, 111, 117, 124, 144, 164, 171], 61) := by decide +kernel
theorem dX5_about_108 : decode cX5_about 108 = .ok (.aload_n 0, 1) := by decide +kernel
theorem dX5_about_109 : decode cX5_about 109 = .ok (.getfield 62, 3) := by decide +kernel
theorem dX5_about_112 : decode cX5_about 112 = .ok (.iload_n 1, 1) := by decide +kernel
theorem dX5_about_113 : decode cX5_about 113 = .ok (.iaload, 1) := by decide +kernel
theorem dX5_about_114 : decode cX5_about 114 = .ok (.ireturn, 1) := by decide +kernel
theorem dX5_about_115 : decode cX5_about 115 = .ok (.aload_n 0, 1) := by decide +kernel
theorem dX5_about_116 : decode cX5_about 116 = .ok (.getfield 65, 3) := by decide +kernel
theorem dX5_about_119 : decode cX5_about 119 = .ok (.iload_n 1, 1) := by decide +kernel
theorem dX5_about_120 : decode cX5_about 120 = .ok (.iaload, 1) := by decide +kernel
theorem dX5_about_121 : decode cX5_about 121 = .ok (.ireturn, 1) := by decide +kernel
theorem dX5_about_122 : decode cX5_about 122 = .ok (.aload_n 0, 1) := by decide +kernel
theorem dX5_about_123 : decode cX5_about 123 = .ok (.getfield 68, 3) := by decide +kernel
theorem dX5_about_126 : decode cX5_about 126 = .ok (.iload_n 1, 1) := by decide +kernel
theorem dX5_about_127 : decode cX5_about 127 = .ok (.iaload, 1) := by decide +kernel
theorem dX5_about_128 : decode cX5_about 128 = .ok (.ireturn, 1) := by decide +kernel
theorem dX5_about_129 : decode cX5_about 129 = .ok (.aload_n 0, 1) := by decide +kernel
theorem dX5_about_130 : decode cX5_about 130 = .ok (.getfield 32, 3) := by decide +kernel
theorem dX5_about_133 : decode cX5_about 133 = .ok (.iload_n 1, 1) := by decide +kernel
theorem dX5_about_134 : decode cX5_about 134 = .ok (.iaload, 1) := by decide +kernel
theorem dX5_about_135 : decode cX5_about 135 = .ok (.ireturn, 1) := by decide +kernel
theorem dX5_about_136 : decode cX5_about 136 = .ok (.aload_n 0, 1) := by decide +kernel
theorem dX5_about_137 : decode cX5_about 137 = .ok (.getfield 56, 3) := by decide +kernel
theorem dX5_about_140 : decode cX5_about 140 = .ok (.iload_n 1, 1) := by decide +kernel
theorem dX5_about_141 : decode cX5_about 141 = .ok (.baload, 1) := by decide +kernel
theorem dX5_about_142 : decode cX5_about 142 = .ok (.ifCond .eq 7, 3) := by decide +kernel
theorem dX5_about_145 : decode cX5_about 145 = .ok (.iconst 1, 1) := by decide +kernel
theorem dX5_about_146 : decode cX5_about 146 = .ok (.goto 4, 3) := by decide +kernel
theorem dX5_about_149 : decode cX5_about 149 = .ok (.iconst 0, 1) := by decide +kernel
theorem dX5_about_150 : decode cX5_about 150 = .ok (.ireturn, 1) := by decide +kernel
theorem dX5_about_151 : decode cX5_about 151 = .ok (.aload_n 0, 1) := by decide +kernel
theorem dX5_about_152 : decode cX5_about 152 = .ok (.getfield 59, 3) := by decide +kernel
theorem dX5_about_155 : decode cX5_about 155 = .ok (.iload_n 1, 1) := by decide +kernel
theorem dX5_about_156 : decode cX5_about 156 = .ok (.iaload, 1) := by decide +kernel
theorem dX5_about_157 : decode cX5_about 157 = .ok (.ireturn, 1) := by decide +kernel
theorem dX5_about_158 : decode cX5_about 158 = .ok (.aload_n 0, 1) := by decide +kernel
theorem dX5_about_159 : decode cX5_about 159 = .ok (.iload_n 1, 1) := by decide +kernel
theorem dX5_about_160 : decode cX5_about 160 = .ok (.invokevirtual 111, 3) := by decide +kernel
theorem dX5_about_163 : decode cX5_about 163 = .ok (.ireturn, 1) := by decide +kernel
theorem dX5_about_164 : decode cX5_about 164 = .ok (.aload_n 0, 1) := by decide +kernel
theorem dX5_about_165 : decode cX5_about 165 = .ok (.getfield 47, 3) := by decide +kernel
theorem dX5_about_168 : decode cX5_about 168 = .ok (.iload_n 1, 1) := by decide +kernel
theorem dX5_about_169 : decode cX5_about 169 = .ok (.iaload, 1) := by decide +kernel
theorem dX5_about_170 : decode cX5_about 170 = .ok (.ireturn, 1) := by decide +kernel
theorem dX5_about_171 : decode cX5_about 171 = .ok (.iload_n 3, 1) := by decide +kernel
theorem dX5_about_172 : decode cX5_about 172 = .ok (.ifCond .ge 7, 3) := by decide +kernel
theorem dX5_about_175 : decode cX5_about 175 = .ok (.iconst (-1), 1) := by decide +kernel
theorem dX5_about_176 : decode cX5_about 176 = .ok (.goto 14, 3) := by decide +kernel
theorem dX5_about_179 : decode cX5_about 179 = .ok (.aload_n 0, 1) := by decide +kernel
theorem dX5_about_180 : decode cX5_about 180 = .ok (.getfield 50, 3) := by decide +kernel
theorem dX5_about_183 : decode cX5_about 183 = .ok (.bipush 16, 2) := by decide +kernel
theorem dX5_about_185 : decode cX5_about 185 = .ok (.iload_n 1, 1) := by decide +kernel
theorem dX5_about_186 : decode cX5_about 186 = .ok (.imul, 1) := by decide +kernel
theorem dX5_about_187 : decode cX5_about 187 = .ok (.iload_n 3, 1) := by decide +kernel
theorem dX5_about_188 : decode cX5_about 188 = .ok (.iadd, 1) := by decide +kernel
theorem dX5_about_189 : decode cX5_about 189 = .ok (.iaload, 1) := by decide +kernel
theorem dX5_about_190 : decode cX5_about 190 = .ok (.ireturn, 1) := by decide +kernel
theorem dX5_about_191 : decode cX5_about 191 = .ok (.iload_n 3, 1) := by decide +kernel
theorem dX5_about_192 : decode cX5_about 192 = .ok (.ifCond .ge 7, 3) := by decide +kernel
theorem dX5_about_195 : decode cX5_about 195 = .ok (.iconst 0, 1) := by decide +kernel
theorem dX5_about_196 : decode cX5_about 196 = .ok (.goto 14, 3) := by decide +kernel
theorem dX5_about_199 : decode cX5_about 199 = .ok (.aload_n 0, 1) := by decide +kernel
theorem dX5_about_200 : decode cX5_about 200 = .ok (.getfield 53, 3) := by decide +kernel
theorem dX5_about_203 : decode cX5_about 203 = .ok (.bipush 16, 2) := by decide +kernel
theorem dX5_about_205 : decode cX5_about 205 = .ok (.iload_n 1, 1) := by decide +kernel
theorem dX5_about_206 : decode cX5_about 206 = .ok (.imul, 1) := by decide +kernel
theorem dX5_about_207 : decode cX5_about 207 = .ok (.iload_n 3, 1) := by decide +kernel
theorem dX5_about_208 : decode cX5_about 208 = .ok (.iadd, 1) := by decide +kernel
theorem dX5_about_209 : decode cX5_about 209 = .ok (.iaload, 1) := by decide +kernel
theorem dX5_about_210 : decode cX5_about 210 = .ok (.ireturn, 1) := by decide +kernel
theorem dX5_about_211 : decode cX5_about 211 = .ok (.aload_n 0, 1) := by decide +kernel
theorem dX5_about_212 : decode cX5_about 212 = .ok (.getfield 71, 3) := by decide +kernel
theorem dX5_about_215 : decode cX5_about 215 = .ok (.iload_n 1, 1) := by decide +kernel
theorem dX5_about_216 : decode cX5_about 216 = .ok (.iaload, 1) := by decide +kernel
theorem dX5_about_217 : decode cX5_about 217 = .ok (.ireturn, 1) := by decide +kernel
theorem dX5_about_218 : decode cX5_about 218 = .ok (.aload_n 0, 1) := by decide +kernel
theorem dX5_about_219 : decode cX5_about 219 = .ok (.getfield 38, 3) := by decide +kernel
theorem dX5_about_222 : decode cX5_about 222 = .ok (.iload_n 1, 1) := by decide +kernel
theorem dX5_about_223 : decode cX5_about 223 = .ok (.iaload, 1) := by decide +kernel
theorem dX5_about_224 : decode cX5_about 224 = .ok (.ireturn, 1) := by decide +kernel
theorem dX5_about_225 : decode cX5_about 225 = .ok (.aload_n 0, 1) := by decide +kernel
theorem dX5_about_226 : decode cX5_about 226 = .ok (.getfield 41, 3) := by decide +kernel
theorem dX5_about_229 : decode cX5_about 229 = .ok (.iload_n 1, 1) := by decide +kernel
theorem dX5_about_230 : decode cX5_about 230 = .ok (.iaload, 1) := by decide +kernel
theorem dX5_about_231 : decode cX5_about 231 = .ok (.ireturn, 1) := by decide +kernel
theorem dX5_task_0 : decode cX5_task 0 = .ok (.aload_n 0, 1) := by decide +kernel
theorem dX5_task_1 : decode cX5_task 1 = .ok (.iload_n 1, 1) := by decide +kernel
theorem dX5_task_2 : decode cX5_task 2 = .ok (.iconst 0, 1) := by decide +kernel
theorem dX5_task_3 : decode cX5_task 3 = .ok (.iconst 5, 1) := by decide +kernel
theorem dX5_task_4 : decode cX5_task 4 = .ok (.invokestatic 140, 3) := by decide +kernel
theorem dX5_task_7 : decode cX5_task 7 = .ok (.ifCond .eq 12, 3) := by decide +kernel
theorem dX5_task_10 : decode cX5_task 10 = .ok (.aload_n 0, 1) := by decide +kernel
theorem dX5_task_11 : decode cX5_task 11 = .ok (.getfield 74, 3) := by decide +kernel
theorem dX5_task_14 : decode cX5_task 14 = .ok (.iload_n 1, 1) := by decide +kernel
theorem dX5_task_15 : decode cX5_task 15 = .ok (.baload, 1) := by decide +kernel
theorem dX5_task_16 : decode cX5_task 16 = .ok (.ifCond .ne 7, 3) := by decide +kernel
theorem dX5_task_19 : decode cX5_task 19 = .ok (.iconst 1, 1) := by decide +kernel
theorem dX5_task_20 : decode cX5_task 20 = .ok (.goto 17, 3) := by decide +kernel
theorem dX5_task_23 : decode cX5_task 23 = .ok (.iload_n 2, 1) := by decide +kernel
theorem dX5_task_24 : decode cX5_task 24 = .ok (.iconst 0, 1) := by decide +kernel
theorem dX5_task_25 : decode cX5_task 25 = .ok (.iconst 3, 1) := by decide +kernel
theorem dX5_task_26 : decode cX5_task 26 = .ok (.invokestatic 140, 3) := by decide +kernel
theorem dX5_task_29 : decode cX5_task 29 = .ok (.ifCond .ne 7, 3) := by decide +kernel
theorem dX5_task_32 : decode cX5_task 32 = .ok (.iconst 2, 1) := by decide +kernel
theorem dX5_task_33 : decode cX5_task 33 = .ok (.goto 4, 3) := by decide +kernel
theorem dX5_task_36 : decode cX5_task 36 = .ok (.iconst 0, 1) := by decide +kernel
theorem dX5_task_37 : decode cX5_task 37 = .ok (.putfield 107, 3) := by decide +kernel
theorem dX5_task_40 : decode cX5_task 40 = .ok (.aload_n 0, 1) := by decide +kernel
theorem dX5_task_41 : decode cX5_task 41 = .ok (.getfield 107, 3) := by decide +kernel
theorem dX5_task_44 : decode cX5_task 44 = .ok (.ifCond .le 5, 3) := by decide +kernel
theorem dX5_task_47 : decode cX5_task 47 = .ok (.iconst 0, 1) := by decide +kernel
theorem dX5_task_48 : decode cX5_task 48 = .ok (.ireturn, 1) := by decide +kernel
theorem dX5_task_49 : decode cX5_task 49 = .ok (.iload_n 2, 1) := by decide +kernel
theorem dX5_task_50 : decode cX5_task 50 = .ok (.ifCond .ne 12, 3) := by decide +kernel
theorem dX5_task_53 : decode cX5_task 53 = .ok (.aload_n 0, 1) := by decide +kernel
theorem dX5_task_54 : decode cX5_task 54 = .ok (.getfield 89, 3) := by decide +kernel
theorem dX5_task_57 : decode cX5_task 57 = .ok (.iload_n 1, 1) := by decide +kernel
theorem dX5_task_58 : decode cX5_task 58 = .ok (.iaload, 1) := by decide +kernel
theorem dX5_task_59 : decode cX5_task 59 = .ok (.goto 36, 3) := by decide +kernel
theorem dX5_task_62 : decode cX5_task 62 = .ok (.iload_n 2, 1) := by decide +kernel
theorem dX5_task_63 : decode cX5_task 63 = .ok (.iconst 1, 1) := by decide +kernel
theorem dX5_task_64 : decode cX5_task 64 = .ok (.if_icmp .ne 12, 3) := by decide +kernel
theorem dX5_task_67 : decode cX5_task 67 = .ok (.aload_n 0, 1) := by decide +kernel
theorem dX5_task_68 : decode cX5_task 68 = .ok (.getfield 92, 3) := by decide +kernel
theorem dX5_task_71 : decode cX5_task 71 = .ok (.iload_n 1, 1) := by decide +kernel
theorem dX5_task_72 : decode cX5_task 72 = .ok (.iaload, 1) := by decide +kernel
theorem dX5_task_73 : decode cX5_task 73 = .ok (.goto 22, 3) := by decide +kernel
theorem dX5_task_76 : decode cX5_task 76 = .ok (.iload_n 2, 1) := by decide +kernel
theorem dX5_task_77 : decode cX5_task 77 = .ok (.iconst 2, 1) := by decide +kernel
theorem dX5_task_78 : decode cX5_task 78 = .ok (.if_icmp .ne 12, 3) := by decide +kernel
theorem dX5_task_81 : decode cX5_task 81 = .ok (.aload_n 0, 1) := by decide +kernel
theorem dX5_task_82 : decode cX5_task 82 = .ok (.getfield 95, 3) := by decide +kernel
theorem dX5_task_85 : decode cX5_task 85 = .ok (.iload_n 1, 1) := by decide +kernel
theorem dX5_task_86 : decode cX5_task 86 = .ok (.iaload, 1) := by decide +kernel
theorem dX5_task_87 : decode cX5_task 87 = .ok (.goto 8, 3) := by decide +kernel
theorem dX5_task_90 : decode cX5_task 90 = .ok (.aload_n 0, 1) := by decide +kernel
theorem dX5_task_91 : decode cX5_task 91 = .ok (.iload_n 1, 1) := by decide +kernel
theorem dX5_task_92 : decode cX5_task 92 = .ok (.invokevirtual 137, 3) := by decide +kernel
theorem dX5_task_95 : decode cX5_task 95 = .ok (.ireturn, 1) := by decide +kernel
theorem dX5_bound_0 : decode cX5_bound 0 = .ok (.aload_n 0, 1) := by decide +kernel
theorem dX5_bound_1 : decode cX5_bound 1 = .ok (.aload_n 0, 1) := by decide +kernel
theorem dX5_bound_2 : decode cX5_bound 2 = .ok (.iload_n 1, 1) := by decide +kernel
theorem dX5_bound_3 : decode cX5_bound 3 = .ok (.invokevirtual 148, 3) := by decide +kernel
theorem dX5_bound_6 : decode cX5_bound 6 = .ok (.ifCond .eq 7, 3) := by decide +kernel
theorem dX5_bound_9 : decode cX5_bound 9 = .ok (.iconst 0, 1) := by decide +kernel
theorem dX5_bound_10 : decode cX5_bound 10 = .ok (.goto 4, 3) := by decide +kernel
theorem dX5_bound_13 : decode cX5_bound 13 = .ok (.iconst 1, 1) := by decide +kernel
theorem dX5_bound_14 : decode cX5_bound 14 = .ok (.putfield 107, 3) := by decide +kernel
theorem dX5_bound_17 : decode cX5_bound 17 = .ok (.aload_n 0, 1) := by decide +kernel
theorem dX5_bound_18 : decode cX5_bound 18 = .ok (.getfield 107, 3) := by decide +kernel
theorem dX5_bound_21 : decode cX5_bound 21 = .ok (.ifCond .le 7, 3) := by decide +kernel
theorem dX5_bound_24 : decode cX5_bound 24 = .ok (.iconst 0, 1) := by decide +kernel
theorem dX5_bound_25 : decode cX5_bound 25 = .ok (.goto 8, 3) := by decide +kernel
theorem dX5_bound_28 : decode cX5_bound 28 = .ok (.aload_n 0, 1) := by decide +kernel
theorem dX5_bound_29 : decode cX5_bound 29 = .ok (.iload_n 1, 1) := by decide +kernel
theorem dX5_bound_30 : decode cX5_bound 30 = .ok (.invokevirtual 182, 3) := by decide +kernel
theorem dX5_bound_33 : decode cX5_bound 33 = .ok (.ireturn, 1) := by decide +kernel
theorem dX5_used_0 : decode cX5_used 0 = .ok (.iload_n 3, 1) := by decide +kernel
theorem dX5_used_1 : decode cX5_used 1 = .ok (.ifCond .lt 34, 3) := by decide +kernel
theorem dX5_used_4 : decode cX5_used 4 = .ok (.iload_n 3, 1) := by decide +kernel
theorem dX5_used_5 : decode cX5_used 5 = .ok (.iload 4, 2) := by decide +kernel
theorem dX5_used_7 : decode cX5_used 7 = .ok (.if_icmp .gt 28, 3) := by decide +kernel
theorem dX5_used_10 : decode cX5_used 10 = .ok (.iload 4, 2) := by decide +kernel
theorem dX5_used_12 : decode cX5_used 12 = .ok (.aload_n 0, 1) := by decide +kernel
theorem dX5_used_13 : decode cX5_used 13 = .ok (.getfield 115, 3) := by decide +kernel
theorem dX5_used_16 : decode cX5_used 16 = .ok (.if_icmp .gt 19, 3) := by decide +kernel
theorem dX5_used_19 : decode cX5_used 19 = .ok (.aload_n 0, 1) := by decide +kernel
theorem dX5_used_20 : decode cX5_used 20 = .ok (.getfield 115, 3) := by decide +kernel
theorem dX5_used_23 : decode cX5_used 23 = .ok (.iload_n 3, 1) := by decide +kernel
theorem dX5_used_24 : decode cX5_used 24 = .ok (.isub, 1) := by decide +kernel
theorem dX5_used_25 : decode cX5_used 25 = .ok (.sipush 1000, 3) := by decide +kernel
theorem dX5_used_28 : decode cX5_used 28 = .ok (.if_icmp .gt 7, 3) := by decide +kernel
theorem dX5_used_31 : decode cX5_used 31 = .ok (.iconst 1, 1) := by decide +kernel
theorem dX5_used_32 : decode cX5_used 32 = .ok (.goto 4, 3) := by decide +kernel
theorem dX5_used_35 : decode cX5_used 35 = .ok (.iconst 0, 1) := by decide +kernel
theorem dX5_used_36 : decode cX5_used 36 = .ok (.istore 5, 2) := by decide +kernel
theorem dX5_used_38 : decode cX5_used 38 = .ok (.aload_n 0, 1) := by decide +kernel
theorem dX5_used_39 : decode cX5_used 39 = .ok (.aload_n 0, 1) := by decide +kernel
theorem dX5_used_40 : decode cX5_used 40 = .ok (.iload_n 1, 1) := by decide +kernel
theorem dX5_used_41 : decode cX5_used 41 = .ok (.invokevirtual 148, 3) := by decide +kernel
theorem dX5_used_44 : decode cX5_used 44 = .ok (.ifCond .ne 7, 3) := by decide +kernel
theorem dX5_used_47 : decode cX5_used 47 = .ok (.iconst 1, 1) := by decide +kernel
theorem dX5_used_48 : decode cX5_used 48 = .ok (.goto 13, 3) := by decide +kernel
theorem dX5_used_51 : decode cX5_used 51 = .ok (.iload 5, 2) := by decide +kernel
theorem dX5_used_53 : decode cX5_used 53 = .ok (.ifCond .ne 7, 3) := by decide +kernel
theorem dX5_used_56 : decode cX5_used 56 = .ok (.iconst 2, 1) := by decide +kernel
theorem dX5_used_57 : decode cX5_used 57 = .ok (.goto 4, 3) := by decide +kernel
theorem dX5_used_60 : decode cX5_used 60 = .ok (.iconst 0, 1) := by decide +kernel
theorem dX5_used_61 : decode cX5_used 61 = .ok (.putfield 107, 3) := by decide +kernel
theorem dX5_used_64 : decode cX5_used 64 = .ok (.iconst 0, 1) := by decide +kernel
theorem dX5_used_65 : decode cX5_used 65 = .ok (.istore 6, 2) := by decide +kernel
theorem dX5_used_67 : decode cX5_used 67 = .ok (.iload_n 3, 1) := by decide +kernel
theorem dX5_used_68 : decode cX5_used 68 = .ok (.istore 7, 2) := by decide +kernel
theorem dX5_used_70 : decode cX5_used 70 = .ok (.iload 7, 2) := by decide +kernel
theorem dX5_used_72 : decode cX5_used 72 = .ok (.iload 4, 2) := by decide +kernel
theorem dX5_used_74 : decode cX5_used 74 = .ok (.if_icmp .ge 62, 3) := by decide +kernel
theorem dX5_used_77 : decode cX5_used 77 = .ok (.aload_n 0, 1) := by decide +kernel
theorem dX5_used_78 : decode cX5_used 78 = .ok (.getfield 107, 3) := by decide +kernel
theorem dX5_used_81 : decode cX5_used 81 = .ok (.ifCond .ne 55, 3) := by decide +kernel
theorem dX5_used_84 : decode cX5_used 84 = .ok (.aload_n 0, 1) := by decide +kernel
theorem dX5_used_85 : decode cX5_used 85 = .ok (.getfield 104, 3) := by decide +kernel
theorem dX5_used_88 : decode cX5_used 88 = .ok (.iload 7, 2) := by decide +kernel
theorem dX5_used_90 : decode cX5_used 90 = .ok (.sipush 1024, 3) := by decide +kernel
theorem dX5_used_93 : decode cX5_used 93 = .ok (.irem, 1) := by decide +kernel
theorem dX5_used_94 : decode cX5_used 94 = .ok (.iaload, 1) := by decide +kernel
theorem dX5_used_95 : decode cX5_used 95 = .ok (.istore 8, 2) := by decide +kernel
theorem dX5_used_97 : decode cX5_used 97 = .ok (.iload 8, 2) := by decide +kernel
theorem dX5_used_99 : decode cX5_used 99 = .ok (.bipush 20, 2) := by decide +kernel
theorem dX5_used_101 : decode cX5_used 101 = .ok (.iload_n 1, 1) := by decide +kernel
theorem dX5_used_102 : decode cX5_used 102 = .ok (.iadd, 1) := by decide +kernel
theorem dX5_used_103 : decode cX5_used 103 = .ok (.if_icmp .eq 16, 3) := by decide +kernel
theorem dX5_used_106 : decode cX5_used 106 = .ok (.iload_n 2, 1) := by decide +kernel
theorem dX5_used_107 : decode cX5_used 107 = .ok (.ifCond .eq 19, 3) := by decide +kernel
theorem dX5_used_110 : decode cX5_used 110 = .ok (.iload 8, 2) := by decide +kernel
theorem dX5_used_112 : decode cX5_used 112 = .ok (.bipush 10, 2) := by decide +kernel
theorem dX5_used_114 : decode cX5_used 114 = .ok (.iload_n 1, 1) := by decide +kernel
theorem dX5_used_115 : decode cX5_used 115 = .ok (.iadd, 1) := by decide +kernel
theorem dX5_used_116 : decode cX5_used 116 = .ok (.if_icmp .ne 10, 3) := by decide +kernel
theorem dX5_used_119 : decode cX5_used 119 = .ok (.iload 6, 2) := by decide +kernel
theorem dX5_used_121 : decode cX5_used 121 = .ok (.iconst 1, 1) := by decide +kernel
theorem dX5_used_122 : decode cX5_used 122 = .ok (.iadd, 1) := by decide +kernel
theorem dX5_used_123 : decode cX5_used 123 = .ok (.goto 5, 3) := by decide +kernel
theorem dX5_used_126 : decode cX5_used 126 = .ok (.iload 6, 2) := by decide +kernel
theorem dX5_used_128 : decode cX5_used 128 = .ok (.istore 6, 2) := by decide +kernel
theorem dX5_used_130 : decode cX5_used 130 = .ok (.iinc 7 1, 3) := by decide +kernel
theorem dX5_used_133 : decode cX5_used 133 = .ok (.goto (-63), 3) := by decide +kernel
theorem dX5_used_136 : decode cX5_used 136 = .ok (.iload 6, 2) := by decide +kernel
theorem dX5_used_138 : decode cX5_used 138 = .ok (.ireturn, 1) := by decide +kernel
theorem dX5_floor_0 : decode cX5_floor 0 = .ok (.aload_n 0, 1) := by decide +kernel
theorem dX5_floor_1 : decode cX5_floor 1 = .ok (.iload_n 1, 1) := by decide +kernel
theorem dX5_floor_2 : decode cX5_floor 2 = .ok (.iconst 0, 1) := by decide +kernel
theorem dX5_floor_3 : decode cX5_floor 3 = .ok (.ldc 185, 2) := by decide +kernel
theorem dX5_floor_5 : decode cX5_floor 5 = .ok (.invokestatic 140, 3) := by decide +kernel
theorem dX5_floor_8 : decode cX5_floor 8 = .ok (.ifCond .eq 7, 3) := by decide +kernel
theorem dX5_floor_11 : decode cX5_floor 11 = .ok (.iconst 0, 1) := by decide +kernel
theorem dX5_floor_12 : decode cX5_floor 12 = .ok (.goto 4, 3) := by decide +kernel
theorem dX5_floor_15 : decode cX5_floor 15 = .ok (.iconst 1, 1) := by decide +kernel
theorem dX5_floor_16 : decode cX5_floor 16 = .ok (.putfield 107, 3) := by decide +kernel
theorem dX5_floor_19 : decode cX5_floor 19 = .ok (.aload_n 0, 1) := by decide +kernel
theorem dX5_floor_20 : decode cX5_floor 20 = .ok (.getfield 107, 3) := by decide +kernel
theorem dX5_floor_23 : decode cX5_floor 23 = .ok (.ifCond .le 5, 3) := by decide +kernel
theorem dX5_floor_26 : decode cX5_floor 26 = .ok (.iconst 0, 1) := by decide +kernel
theorem dX5_floor_27 : decode cX5_floor 27 = .ok (.ireturn, 1) := by decide +kernel
theorem dX5_floor_28 : decode cX5_floor 28 = .ok (.iload_n 1, 1) := by decide +kernel
theorem dX5_floor_29 : decode cX5_floor 29 = .ok (.aload_n 0, 1) := by decide +kernel
theorem dX5_floor_30 : decode cX5_floor 30 = .ok (.iload_n 1, 1) := by decide +kernel
theorem dX5_floor_31 : decode cX5_floor 31 = .ok (.invokevirtual 128, 3) := by decide +kernel
theorem dX5_floor_34 : decode cX5_floor 34 = .ok (.isub, 1) := by decide +kernel
theorem dX5_floor_35 : decode cX5_floor 35 = .ok (.istore_n 2, 1) := by decide +kernel
theorem dX5_floor_36 : decode cX5_floor 36 = .ok (.iload_n 2, 1) := by decide +kernel
theorem dX5_floor_37 : decode cX5_floor 37 = .ok (.ifCond .ge 7, 3) := by decide +kernel
theorem dX5_floor_40 : decode cX5_floor 40 = .ok (.iconst 0, 1) := by decide +kernel
theorem dX5_floor_41 : decode cX5_floor 41 = .ok (.goto 4, 3) := by decide +kernel
theorem dX5_floor_44 : decode cX5_floor 44 = .ok (.iload_n 2, 1) := by decide +kernel
theorem dX5_floor_45 : decode cX5_floor 45 = .ok (.ireturn, 1) := by decide +kernel
theorem dX5_time_0 : decode cX5_time 0 = .ok (.aload_n 0, 1) := by decide +kernel
theorem dX5_time_1 : decode cX5_time 1 = .ok (.iconst 0, 1) := by decide +kernel
theorem dX5_time_2 : decode cX5_time 2 = .ok (.putfield 107, 3) := by decide +kernel
theorem dX5_time_5 : decode cX5_time 5 = .ok (.aload_n 0, 1) := by decide +kernel
theorem dX5_time_6 : decode cX5_time 6 = .ok (.getfield 115, 3) := by decide +kernel
theorem dX5_time_9 : decode cX5_time 9 = .ok (.ireturn, 1) := by decide +kernel
