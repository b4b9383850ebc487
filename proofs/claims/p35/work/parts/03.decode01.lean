theorem dX1_outOf_101 : decode cX1_outOf 101 = .ok (.iload 7, 2) := by decide +kernel
theorem dX1_outOf_103 : decode cX1_outOf 103 = .ok (.istore 4, 2) := by decide +kernel
theorem dX1_outOf_105 : decode cX1_outOf 105 = .ok (.iload 9, 2) := by decide +kernel
theorem dX1_outOf_107 : decode cX1_outOf 107 = .ok (.istore_n 3, 1) := by decide +kernel
theorem dX1_outOf_108 : decode cX1_outOf 108 = .ok (.iload 6, 2) := by decide +kernel
theorem dX1_outOf_110 : decode cX1_outOf 110 = .ok (.bipush 6, 2) := by decide +kernel
theorem dX1_outOf_112 : decode cX1_outOf 112 = .ok (.if_icmp .eq 104, 3) := by decide +kernel
theorem dX1_outOf_115 : decode cX1_outOf 115 = .ok (.iload 6, 2) := by decide +kernel
theorem dX1_outOf_117 : decode cX1_outOf 117 = .ok (.bipush 7, 2) := by decide +kernel
theorem dX1_outOf_119 : decode cX1_outOf 119 = .ok (.if_icmp .eq 97, 3) := by decide +kernel
theorem dX1_outOf_122 : decode cX1_outOf 122 = .ok (.iload_n 3, 1) := by decide +kernel
theorem dX1_outOf_123 : decode cX1_outOf 123 = .ok (.aload_n 0, 1) := by decide +kernel
theorem dX1_outOf_124 : decode cX1_outOf 124 = .ok (.getfield 42, 3) := by decide +kernel
theorem dX1_outOf_127 : decode cX1_outOf 127 = .ok (.arraylength, 1) := by decide +kernel
theorem dX1_outOf_128 : decode cX1_outOf 128 = .ok (.if_icmp .lt 7, 3) := by decide +kernel
theorem dX1_outOf_131 : decode cX1_outOf 131 = .ok (.sipush 9004, 3) := by decide +kernel
theorem dX1_outOf_134 : decode cX1_outOf 134 = .ok (.ireturn, 1) := by decide +kernel
theorem dX1_outOf_135 : decode cX1_outOf 135 = .ok (.iload 6, 2) := by decide +kernel
theorem dX1_outOf_137 : decode cX1_outOf 137 = .ok (.ifCond .ne 8, 3) := by decide +kernel
theorem dX1_outOf_140 : decode cX1_outOf 140 = .ok (.iload 7, 2) := by decide +kernel
theorem dX1_outOf_142 : decode cX1_outOf 142 = .ok (.goto 16, 3) := by decide +kernel
theorem dX1_outOf_145 : decode cX1_outOf 145 = .ok (.aload_n 0, 1) := by decide +kernel
theorem dX1_outOf_146 : decode cX1_outOf 146 = .ok (.iload 6, 2) := by decide +kernel
theorem dX1_outOf_148 : decode cX1_outOf 148 = .ok (.aload_n 0, 1) := by decide +kernel
theorem dX1_outOf_149 : decode cX1_outOf 149 = .ok (.iload_n 3, 1) := by decide +kernel
theorem dX1_outOf_150 : decode cX1_outOf 150 = .ok (.invokevirtual 293, 3) := by decide +kernel
theorem dX1_outOf_153 : decode cX1_outOf 153 = .ok (.iload 10, 2) := by decide +kernel
theorem dX1_outOf_155 : decode cX1_outOf 155 = .ok (.invokevirtual 296, 3) := by decide +kernel
theorem dX1_outOf_158 : decode cX1_outOf 158 = .ok (.istore 11, 2) := by decide +kernel
theorem dX1_outOf_160 : decode cX1_outOf 160 = .ok (.iload 6, 2) := by decide +kernel
theorem dX1_outOf_162 : decode cX1_outOf 162 = .ok (.iconst 1, 1) := by decide +kernel
theorem dX1_outOf_163 : decode cX1_outOf 163 = .ok (.if_icmp .ne 42, 3) := by decide +kernel
theorem dX1_outOf_166 : decode cX1_outOf 166 = .ok (.aload_n 0, 1) := by decide +kernel
theorem dX1_outOf_167 : decode cX1_outOf 167 = .ok (.aload_n 2, 1) := by decide +kernel
theorem dX1_outOf_168 : decode cX1_outOf 168 = .ok (.iload 7, 2) := by decide +kernel
theorem dX1_outOf_170 : decode cX1_outOf 170 = .ok (.iconst 2, 1) := by decide +kernel
theorem dX1_outOf_171 : decode cX1_outOf 171 = .ok (.iadd, 1) := by decide +kernel
theorem dX1_outOf_172 : decode cX1_outOf 172 = .ok (.invokevirtual 229, 3) := by decide +kernel
theorem dX1_outOf_175 : decode cX1_outOf 175 = .ok (.astore 12, 2) := by decide +kernel
theorem dX1_outOf_177 : decode cX1_outOf 177 = .ok (.aload 12, 2) := by decide +kernel
theorem dX1_outOf_179 : decode cX1_outOf 179 = .ok (.ifnonnull 6, 3) := by decide +kernel
theorem dX1_outOf_182 : decode cX1_outOf 182 = .ok (.bipush (-2), 2) := by decide +kernel
theorem dX1_outOf_184 : decode cX1_outOf 184 = .ok (.ireturn, 1) := by decide +kernel
theorem dX1_outOf_185 : decode cX1_outOf 185 = .ok (.aload 12, 2) := by decide +kernel
theorem dX1_outOf_187 : decode cX1_outOf 187 = .ok (.invokevirtual 243, 3) := by decide +kernel
theorem dX1_outOf_190 : decode cX1_outOf 190 = .ok (.iconst (-1), 1) := by decide +kernel
theorem dX1_outOf_191 : decode cX1_outOf 191 = .ok (.if_icmp .ne 7, 3) := by decide +kernel
theorem dX1_outOf_194 : decode cX1_outOf 194 = .ok (.iconst 0, 1) := by decide +kernel
theorem dX1_outOf_195 : decode cX1_outOf 195 = .ok (.goto 8, 3) := by decide +kernel
theorem dX1_outOf_198 : decode cX1_outOf 198 = .ok (.aload 12, 2) := by decide +kernel
theorem dX1_outOf_200 : decode cX1_outOf 200 = .ok (.invokevirtual 243, 3) := by decide +kernel
theorem dX1_outOf_203 : decode cX1_outOf 203 = .ok (.istore 11, 2) := by decide +kernel
theorem dX1_outOf_205 : decode cX1_outOf 205 = .ok (.aload_n 0, 1) := by decide +kernel
theorem dX1_outOf_206 : decode cX1_outOf 206 = .ok (.getfield 42, 3) := by decide +kernel
theorem dX1_outOf_209 : decode cX1_outOf 209 = .ok (.iload_n 3, 1) := by decide +kernel
theorem dX1_outOf_210 : decode cX1_outOf 210 = .ok (.iload 11, 2) := by decide +kernel
theorem dX1_outOf_212 : decode cX1_outOf 212 = .ok (.iastore, 1) := by decide +kernel
theorem dX1_outOf_213 : decode cX1_outOf 213 = .ok (.iinc 3 1, 3) := by decide +kernel
theorem dX1_outOf_216 : decode cX1_outOf 216 = .ok (.iinc 5 1, 3) := by decide +kernel
theorem dX1_outOf_219 : decode cX1_outOf 219 = .ok (.goto (-211), 3) := by decide +kernel
theorem dX1_outOf_222 : decode cX1_outOf 222 = .ok (.sipush 9004, 3) := by decide +kernel
theorem dX1_outOf_225 : decode cX1_outOf 225 = .ok (.ireturn, 1) := by decide +kernel
theorem dX1_takenBy_0 : decode cX1_takenBy 0 = .ok (.iload_n 1, 1) := by decide +kernel
theorem dX1_takenBy_1 : decode cX1_takenBy 1 = .ok (.tableswitch 47 2 8 #[43, 43, 43, 43, 47, 45, 45], 43) := by decide +kernel
theorem dX1_takenBy_44 : decode cX1_takenBy 44 = .ok (.iconst 2, 1) := by decide +kernel
theorem dX1_takenBy_45 : decode cX1_takenBy 45 = .ok (.ireturn, 1) := by decide +kernel
theorem dX1_takenBy_46 : decode cX1_takenBy 46 = .ok (.iconst 1, 1) := by decide +kernel
theorem dX1_takenBy_47 : decode cX1_takenBy 47 = .ok (.ireturn, 1) := by decide +kernel
theorem dX1_takenBy_48 : decode cX1_takenBy 48 = .ok (.iconst 0, 1) := by decide +kernel
theorem dX1_takenBy_49 : decode cX1_takenBy 49 = .ok (.ireturn, 1) := by decide +kernel
theorem dX1_stackAt_0 : decode cX1_stackAt 0 = .ok (.iload_n 1, 1) := by decide +kernel
theorem dX1_stackAt_1 : decode cX1_stackAt 1 = .ok (.ifCond .lt 21, 3) := by decide +kernel
theorem dX1_stackAt_4 : decode cX1_stackAt 4 = .ok (.iload_n 1, 1) := by decide +kernel
theorem dX1_stackAt_5 : decode cX1_stackAt 5 = .ok (.aload_n 0, 1) := by decide +kernel
theorem dX1_stackAt_6 : decode cX1_stackAt 6 = .ok (.getfield 42, 3) := by decide +kernel
theorem dX1_stackAt_9 : decode cX1_stackAt 9 = .ok (.arraylength, 1) := by decide +kernel
theorem dX1_stackAt_10 : decode cX1_stackAt 10 = .ok (.if_icmp .ge 12, 3) := by decide +kernel
theorem dX1_stackAt_13 : decode cX1_stackAt 13 = .ok (.aload_n 0, 1) := by decide +kernel
theorem dX1_stackAt_14 : decode cX1_stackAt 14 = .ok (.getfield 42, 3) := by decide +kernel
theorem dX1_stackAt_17 : decode cX1_stackAt 17 = .ok (.iload_n 1, 1) := by decide +kernel
theorem dX1_stackAt_18 : decode cX1_stackAt 18 = .ok (.iaload, 1) := by decide +kernel
theorem dX1_stackAt_19 : decode cX1_stackAt 19 = .ok (.goto 4, 3) := by decide +kernel
theorem dX1_stackAt_22 : decode cX1_stackAt 22 = .ok (.iconst (-1), 1) := by decide +kernel
theorem dX1_stackAt_23 : decode cX1_stackAt 23 = .ok (.ireturn, 1) := by decide +kernel
theorem dX1_combined_0 : decode cX1_combined 0 = .ok (.iload_n 1, 1) := by decide +kernel
theorem dX1_combined_1 : decode cX1_combined 1 = .ok (.tableswitch 55 2 4 #[27, 35, 47], 27) := by decide +kernel
theorem dX1_combined_28 : decode cX1_combined 28 = .ok (.iload_n 2, 1) := by decide +kernel
theorem dX1_combined_29 : decode cX1_combined 29 = .ok (.iload_n 3, 1) := by decide +kernel
theorem dX1_combined_30 : decode cX1_combined 30 = .ok (.iadd, 1) := by decide +kernel
theorem dX1_combined_31 : decode cX1_combined 31 = .ok (.sipush 1000, 3) := by decide +kernel
theorem dX1_combined_34 : decode cX1_combined 34 = .ok (.irem, 1) := by decide +kernel
theorem dX1_combined_35 : decode cX1_combined 35 = .ok (.ireturn, 1) := by decide +kernel
theorem dX1_combined_36 : decode cX1_combined 36 = .ok (.iload_n 2, 1) := by decide +kernel
theorem dX1_combined_37 : decode cX1_combined 37 = .ok (.iload_n 3, 1) := by decide +kernel
theorem dX1_combined_38 : decode cX1_combined 38 = .ok (.isub, 1) := by decide +kernel
theorem dX1_combined_39 : decode cX1_combined 39 = .ok (.sipush 1000, 3) := by decide +kernel
theorem dX1_combined_42 : decode cX1_combined 42 = .ok (.iadd, 1) := by decide +kernel
theorem dX1_combined_43 : decode cX1_combined 43 = .ok (.sipush 1000, 3) := by decide +kernel
theorem dX1_combined_46 : decode cX1_combined 46 = .ok (.irem, 1) := by decide +kernel
theorem dX1_combined_47 : decode cX1_combined 47 = .ok (.ireturn, 1) := by decide +kernel
theorem dX1_combined_48 : decode cX1_combined 48 = .ok (.iload_n 2, 1) := by decide +kernel
theorem dX1_combined_49 : decode cX1_combined 49 = .ok (.iload_n 3, 1) := by decide +kernel
theorem dX1_combined_50 : decode cX1_combined 50 = .ok (.imul, 1) := by decide +kernel
theorem dX1_combined_51 : decode cX1_combined 51 = .ok (.sipush 1000, 3) := by decide +kernel
theorem dX1_combined_54 : decode cX1_combined 54 = .ok (.irem, 1) := by decide +kernel
theorem dX1_combined_55 : decode cX1_combined 55 = .ok (.ireturn, 1) := by decide +kernel
theorem dX1_combined_56 : decode cX1_combined 56 = .ok (.iload_n 2, 1) := by decide +kernel
theorem dX1_combined_57 : decode cX1_combined 57 = .ok (.iload_n 3, 1) := by decide +kernel
theorem dX1_combined_58 : decode cX1_combined 58 = .ok (.if_icmp .ge 7, 3) := by decide +kernel
theorem dX1_combined_61 : decode cX1_combined 61 = .ok (.iconst 1, 1) := by decide +kernel
theorem dX1_combined_62 : decode cX1_combined 62 = .ok (.goto 4, 3) := by decide +kernel
theorem dX1_combined_65 : decode cX1_combined 65 = .ok (.iconst 0, 1) := by decide +kernel
theorem dX1_combined_66 : decode cX1_combined 66 = .ok (.ireturn, 1) := by decide +kernel
theorem dX2_init_0 : decode cX2_init 0 = .ok (.aload_n 0, 1) := by decide +kernel
theorem dX2_init_1 : decode cX2_init 1 = .ok (.invokespecial 3, 3) := by decide +kernel
theorem dX2_init_4 : decode cX2_init 4 = .ok (.aload_n 0, 1) := by decide +kernel
theorem dX2_init_5 : decode cX2_init 5 = .ok (.bipush 10, 2) := by decide +kernel
theorem dX2_init_7 : decode cX2_init 7 = .ok (.newarray .int, 2) := by decide +kernel
theorem dX2_init_9 : decode cX2_init 9 = .ok (.putfield 9, 3) := by decide +kernel
theorem dX2_init_12 : decode cX2_init 12 = .ok (.aload_n 0, 1) := by decide +kernel
theorem dX2_init_13 : decode cX2_init 13 = .ok (.bipush 30, 2) := by decide +kernel
theorem dX2_init_15 : decode cX2_init 15 = .ok (.anewarray 15, 3) := by decide +kernel
theorem dX2_init_18 : decode cX2_init 18 = .ok (.putfield 17, 3) := by decide +kernel
theorem dX2_init_21 : decode cX2_init 21 = .ok (.aload_n 0, 1) := by decide +kernel
theorem dX2_init_22 : decode cX2_init 22 = .ok (.bipush 30, 2) := by decide +kernel
theorem dX2_init_24 : decode cX2_init 24 = .ok (.newarray .boolean, 2) := by decide +kernel
theorem dX2_init_26 : decode cX2_init 26 = .ok (.putfield 21, 3) := by decide +kernel
theorem dX2_init_29 : decode cX2_init 29 = .ok (.aload_n 0, 1) := by decide +kernel
theorem dX2_init_30 : decode cX2_init 30 = .ok (.aconst_null, 1) := by decide +kernel
theorem dX2_init_31 : decode cX2_init 31 = .ok (.putfield 25, 3) := by decide +kernel
theorem dX2_init_34 : decode cX2_init 34 = .ok (.aload_n 0, 1) := by decide +kernel
theorem dX2_init_35 : decode cX2_init 35 = .ok (.aconst_null, 1) := by decide +kernel
theorem dX2_init_36 : decode cX2_init 36 = .ok (.putfield 29, 3) := by decide +kernel
theorem dX2_init_39 : decode cX2_init 39 = .ok (.aload_n 0, 1) := by decide +kernel
theorem dX2_init_40 : decode cX2_init 40 = .ok (.iconst (-1), 1) := by decide +kernel
theorem dX2_init_41 : decode cX2_init 41 = .ok (.putfield 33, 3) := by decide +kernel
theorem dX2_init_44 : decode cX2_init 44 = .ok (.aload_n 0, 1) := by decide +kernel
theorem dX2_init_45 : decode cX2_init 45 = .ok (.iconst 0, 1) := by decide +kernel
theorem dX2_init_46 : decode cX2_init 46 = .ok (.putfield 37, 3) := by decide +kernel
theorem dX2_init_49 : decode cX2_init 49 = .ok (.return_, 1) := by decide +kernel
theorem dX2_begin_0 : decode cX2_begin 0 = .ok (.aload_n 0, 1) := by decide +kernel
theorem dX2_begin_1 : decode cX2_begin 1 = .ok (.iload_n 1, 1) := by decide +kernel
theorem dX2_begin_2 : decode cX2_begin 2 = .ok (.putfield 33, 3) := by decide +kernel
theorem dX2_begin_5 : decode cX2_begin 5 = .ok (.aload_n 0, 1) := by decide +kernel
theorem dX2_begin_6 : decode cX2_begin 6 = .ok (.aload_n 2, 1) := by decide +kernel
theorem dX2_begin_7 : decode cX2_begin 7 = .ok (.putfield 29, 3) := by decide +kernel
theorem dX2_begin_10 : decode cX2_begin 10 = .ok (.aload_n 0, 1) := by decide +kernel
theorem dX2_begin_11 : decode cX2_begin 11 = .ok (.aload_n 3, 1) := by decide +kernel
theorem dX2_begin_12 : decode cX2_begin 12 = .ok (.putfield 25, 3) := by decide +kernel
theorem dX2_begin_15 : decode cX2_begin 15 = .ok (.aload_n 0, 1) := by decide +kernel
theorem dX2_begin_16 : decode cX2_begin 16 = .ok (.aload_n 3, 1) := by decide +kernel
theorem dX2_begin_17 : decode cX2_begin 17 = .ok (.ifnonnull 7, 3) := by decide +kernel
theorem dX2_begin_20 : decode cX2_begin 20 = .ok (.iconst 0, 1) := by decide +kernel
theorem dX2_begin_21 : decode cX2_begin 21 = .ok (.goto 9, 3) := by decide +kernel
theorem dX2_begin_24 : decode cX2_begin 24 = .ok (.aload_n 3, 1) := by decide +kernel
theorem dX2_begin_25 : decode cX2_begin 25 = .ok (.getfield 37, 3) := by decide +kernel
theorem dX2_begin_28 : decode cX2_begin 28 = .ok (.iconst 1, 1) := by decide +kernel
theorem dX2_begin_29 : decode cX2_begin 29 = .ok (.iadd, 1) := by decide +kernel
theorem dX2_begin_30 : decode cX2_begin 30 = .ok (.putfield 37, 3) := by decide +kernel
theorem dX2_begin_33 : decode cX2_begin 33 = .ok (.iconst 0, 1) := by decide +kernel
theorem dX2_begin_34 : decode cX2_begin 34 = .ok (.istore 4, 2) := by decide +kernel
theorem dX2_begin_36 : decode cX2_begin 36 = .ok (.iload 4, 2) := by decide +kernel
theorem dX2_begin_38 : decode cX2_begin 38 = .ok (.aload_n 0, 1) := by decide +kernel
theorem dX2_begin_39 : decode cX2_begin 39 = .ok (.getfield 9, 3) := by decide +kernel
theorem dX2_begin_42 : decode cX2_begin 42 = .ok (.arraylength, 1) := by decide +kernel
theorem dX2_begin_43 : decode cX2_begin 43 = .ok (.if_icmp .ge 17, 3) := by decide +kernel
theorem dX2_begin_46 : decode cX2_begin 46 = .ok (.aload_n 0, 1) := by decide +kernel
theorem dX2_begin_47 : decode cX2_begin 47 = .ok (.getfield 9, 3) := by decide +kernel
theorem dX2_begin_50 : decode cX2_begin 50 = .ok (.iload 4, 2) := by decide +kernel
theorem dX2_begin_52 : decode cX2_begin 52 = .ok (.iconst (-1), 1) := by decide +kernel
theorem dX2_begin_53 : decode cX2_begin 53 = .ok (.iastore, 1) := by decide +kernel
theorem dX2_begin_54 : decode cX2_begin 54 = .ok (.iinc 4 1, 3) := by decide +kernel
theorem dX2_begin_57 : decode cX2_begin 57 = .ok (.goto (-21), 3) := by decide +kernel
theorem dX2_begin_60 : decode cX2_begin 60 = .ok (.iconst 0, 1) := by decide +kernel
theorem dX2_begin_61 : decode cX2_begin 61 = .ok (.istore 4, 2) := by decide +kernel
theorem dX2_begin_63 : decode cX2_begin 63 = .ok (.iload 4, 2) := by decide +kernel
theorem dX2_begin_65 : decode cX2_begin 65 = .ok (.aload_n 0, 1) := by decide +kernel
theorem dX2_begin_66 : decode cX2_begin 66 = .ok (.getfield 21, 3) := by decide +kernel
theorem dX2_begin_69 : decode cX2_begin 69 = .ok (.arraylength, 1) := by decide +kernel
theorem dX2_begin_70 : decode cX2_begin 70 = .ok (.if_icmp .ge 17, 3) := by decide +kernel
theorem dX2_begin_73 : decode cX2_begin 73 = .ok (.aload_n 0, 1) := by decide +kernel
theorem dX2_begin_74 : decode cX2_begin 74 = .ok (.getfield 21, 3) := by decide +kernel
theorem dX2_begin_77 : decode cX2_begin 77 = .ok (.iload 4, 2) := by decide +kernel
theorem dX2_begin_79 : decode cX2_begin 79 = .ok (.iconst 0, 1) := by decide +kernel
theorem dX2_begin_80 : decode cX2_begin 80 = .ok (.bastore, 1) := by decide +kernel
theorem dX2_begin_81 : decode cX2_begin 81 = .ok (.iinc 4 1, 3) := by decide +kernel
theorem dX2_begin_84 : decode cX2_begin 84 = .ok (.goto (-21), 3) := by decide +kernel
theorem dX2_begin_87 : decode cX2_begin 87 = .ok (.return_, 1) := by decide +kernel
theorem dX2_takeArguments_0 : decode cX2_takeArguments 0 = .ok (.iconst 0, 1) := by decide +kernel
theorem dX2_takeArguments_1 : decode cX2_takeArguments 1 = .ok (.istore_n 3, 1) := by decide +kernel
theorem dX2_takeArguments_2 : decode cX2_takeArguments 2 = .ok (.iload_n 2, 1) := by decide +kernel
theorem dX2_takeArguments_3 : decode cX2_takeArguments 3 = .ok (.iconst 1, 1) := by decide +kernel
theorem dX2_takeArguments_4 : decode cX2_takeArguments 4 = .ok (.iadd, 1) := by decide +kernel
theorem dX2_takeArguments_5 : decode cX2_takeArguments 5 = .ok (.istore 4, 2) := by decide +kernel
theorem dX2_takeArguments_7 : decode cX2_takeArguments 7 = .ok (.iconst 0, 1) := by decide +kernel
theorem dX2_takeArguments_8 : decode cX2_takeArguments 8 = .ok (.istore 5, 2) := by decide +kernel
theorem dX2_takeArguments_10 : decode cX2_takeArguments 10 = .ok (.iload 5, 2) := by decide +kernel
theorem dX2_takeArguments_12 : decode cX2_takeArguments 12 = .ok (.bipush 30, 2) := by decide +kernel
theorem dX2_takeArguments_14 : decode cX2_takeArguments 14 = .ok (.if_icmp .ge 74, 3) := by decide +kernel
theorem dX2_takeArguments_17 : decode cX2_takeArguments 17 = .ok (.aload_n 1, 1) := by decide +kernel
theorem dX2_takeArguments_18 : decode cX2_takeArguments 18 = .ok (.iload 4, 2) := by decide +kernel
theorem dX2_takeArguments_20 : decode cX2_takeArguments 20 = .ok (.invokevirtual 40, 3) := by decide +kernel
theorem dX2_takeArguments_23 : decode cX2_takeArguments 23 = .ok (.ifCond .eq 65, 3) := by decide +kernel
theorem dX2_takeArguments_26 : decode cX2_takeArguments 26 = .ok (.aload_n 1, 1) := by decide +kernel
theorem dX2_takeArguments_27 : decode cX2_takeArguments 27 = .ok (.iload 4, 2) := by decide +kernel
theorem dX2_takeArguments_29 : decode cX2_takeArguments 29 = .ok (.invokevirtual 46, 3) := by decide +kernel
theorem dX2_takeArguments_32 : decode cX2_takeArguments 32 = .ok (.istore 6, 2) := by decide +kernel
theorem dX2_takeArguments_34 : decode cX2_takeArguments 34 = .ok (.aload_n 1, 1) := by decide +kernel
theorem dX2_takeArguments_35 : decode cX2_takeArguments 35 = .ok (.iload 4, 2) := by decide +kernel
theorem dX2_takeArguments_37 : decode cX2_takeArguments 37 = .ok (.invokevirtual 50, 3) := by decide +kernel
theorem dX2_takeArguments_40 : decode cX2_takeArguments 40 = .ok (.iconst 5, 1) := by decide +kernel
theorem dX2_takeArguments_41 : decode cX2_takeArguments 41 = .ok (.if_icmp .ne 9, 3) := by decide +kernel
theorem dX2_takeArguments_44 : decode cX2_takeArguments 44 = .ok (.iinc 3 1, 3) := by decide +kernel
theorem dX2_takeArguments_47 : decode cX2_takeArguments 47 = .ok (.iload_n 3, 1) := by decide +kernel
theorem dX2_takeArguments_48 : decode cX2_takeArguments 48 = .ok (.istore 6, 2) := by decide +kernel
theorem dX2_takeArguments_50 : decode cX2_takeArguments 50 = .ok (.iload 6, 2) := by decide +kernel
theorem dX2_takeArguments_52 : decode cX2_takeArguments 52 = .ok (.ifCond .lt 22, 3) := by decide +kernel
theorem dX2_takeArguments_55 : decode cX2_takeArguments 55 = .ok (.iload 6, 2) := by decide +kernel
theorem dX2_takeArguments_57 : decode cX2_takeArguments 57 = .ok (.aload_n 0, 1) := by decide +kernel
theorem dX2_takeArguments_58 : decode cX2_takeArguments 58 = .ok (.getfield 9, 3) := by decide +kernel
theorem dX2_takeArguments_61 : decode cX2_takeArguments 61 = .ok (.arraylength, 1) := by decide +kernel
theorem dX2_takeArguments_62 : decode cX2_takeArguments 62 = .ok (.if_icmp .ge 12, 3) := by decide +kernel
theorem dX2_takeArguments_65 : decode cX2_takeArguments 65 = .ok (.aload_n 0, 1) := by decide +kernel
theorem dX2_takeArguments_66 : decode cX2_takeArguments 66 = .ok (.getfield 9, 3) := by decide +kernel
theorem dX2_takeArguments_69 : decode cX2_takeArguments 69 = .ok (.iload 6, 2) := by decide +kernel
theorem dX2_takeArguments_71 : decode cX2_takeArguments 71 = .ok (.iload 4, 2) := by decide +kernel
theorem dX2_takeArguments_73 : decode cX2_takeArguments 73 = .ok (.iastore, 1) := by decide +kernel
theorem dX2_takeArguments_74 : decode cX2_takeArguments 74 = .ok (.aload_n 1, 1) := by decide +kernel
theorem dX2_takeArguments_75 : decode cX2_takeArguments 75 = .ok (.iload 4, 2) := by decide +kernel
theorem dX2_takeArguments_77 : decode cX2_takeArguments 77 = .ok (.invokevirtual 53, 3) := by decide +kernel
theorem dX2_takeArguments_80 : decode cX2_takeArguments 80 = .ok (.istore 4, 2) := by decide +kernel
theorem dX2_takeArguments_82 : decode cX2_takeArguments 82 = .ok (.iinc 5 1, 3) := by decide +kernel
theorem dX2_takeArguments_85 : decode cX2_takeArguments 85 = .ok (.goto (-75), 3) := by decide +kernel
theorem dX2_takeArguments_88 : decode cX2_takeArguments 88 = .ok (.return_, 1) := by decide +kernel
theorem dX2_argumentAt_0 : decode cX2_argumentAt 0 = .ok (.iload_n 1, 1) := by decide +kernel
theorem dX2_argumentAt_1 : decode cX2_argumentAt 1 = .ok (.ifCond .lt 21, 3) := by decide +kernel
theorem dX2_argumentAt_4 : decode cX2_argumentAt 4 = .ok (.iload_n 1, 1) := by decide +kernel
theorem dX2_argumentAt_5 : decode cX2_argumentAt 5 = .ok (.aload_n 0, 1) := by decide +kernel
theorem dX2_argumentAt_6 : decode cX2_argumentAt 6 = .ok (.getfield 9, 3) := by decide +kernel
theorem dX2_argumentAt_9 : decode cX2_argumentAt 9 = .ok (.arraylength, 1) := by decide +kernel
theorem dX2_argumentAt_10 : decode cX2_argumentAt 10 = .ok (.if_icmp .ge 12, 3) := by decide +kernel
theorem dX2_argumentAt_13 : decode cX2_argumentAt 13 = .ok (.aload_n 0, 1) := by decide +kernel
theorem dX2_argumentAt_14 : decode cX2_argumentAt 14 = .ok (.getfield 9, 3) := by decide +kernel
theorem dX2_argumentAt_17 : decode cX2_argumentAt 17 = .ok (.iload_n 1, 1) := by decide +kernel
theorem dX2_argumentAt_18 : decode cX2_argumentAt 18 = .ok (.iaload, 1) := by decide +kernel
theorem dX2_argumentAt_19 : decode cX2_argumentAt 19 = .ok (.goto 4, 3) := by decide +kernel
theorem dX2_argumentAt_22 : decode cX2_argumentAt 22 = .ok (.iconst (-1), 1) := by decide +kernel
theorem dX2_argumentAt_23 : decode cX2_argumentAt 23 = .ok (.ireturn, 1) := by decide +kernel
theorem dX2_rowAt_0 : decode cX2_rowAt 0 = .ok (.iload_n 1, 1) := by decide +kernel
theorem dX2_rowAt_1 : decode cX2_rowAt 1 = .ok (.ifCond .lt 30, 3) := by decide +kernel
theorem dX2_rowAt_4 : decode cX2_rowAt 4 = .ok (.iload_n 1, 1) := by decide +kernel
theorem dX2_rowAt_5 : decode cX2_rowAt 5 = .ok (.aload_n 0, 1) := by decide +kernel
theorem dX2_rowAt_6 : decode cX2_rowAt 6 = .ok (.getfield 17, 3) := by decide +kernel
theorem dX2_rowAt_9 : decode cX2_rowAt 9 = .ok (.arraylength, 1) := by decide +kernel
theorem dX2_rowAt_10 : decode cX2_rowAt 10 = .ok (.if_icmp .ge 21, 3) := by decide +kernel
theorem dX2_rowAt_13 : decode cX2_rowAt 13 = .ok (.aload_n 0, 1) := by decide +kernel
theorem dX2_rowAt_14 : decode cX2_rowAt 14 = .ok (.getfield 21, 3) := by decide +kernel
theorem dX2_rowAt_17 : decode cX2_rowAt 17 = .ok (.iload_n 1, 1) := by decide +kernel
theorem dX2_rowAt_18 : decode cX2_rowAt 18 = .ok (.baload, 1) := by decide +kernel
theorem dX2_rowAt_19 : decode cX2_rowAt 19 = .ok (.ifCond .eq 12, 3) := by decide +kernel
theorem dX2_rowAt_22 : decode cX2_rowAt 22 = .ok (.aload_n 0, 1) := by decide +kernel
theorem dX2_rowAt_23 : decode cX2_rowAt 23 = .ok (.getfield 17, 3) := by decide +kernel
theorem dX2_rowAt_26 : decode cX2_rowAt 26 = .ok (.iload_n 1, 1) := by decide +kernel
theorem dX2_rowAt_27 : decode cX2_rowAt 27 = .ok (.aaload, 1) := by decide +kernel
theorem dX2_rowAt_28 : decode cX2_rowAt 28 = .ok (.goto 4, 3) := by decide +kernel
theorem dX2_rowAt_31 : decode cX2_rowAt 31 = .ok (.aconst_null, 1) := by decide +kernel
theorem dX2_rowAt_32 : decode cX2_rowAt 32 = .ok (.areturn, 1) := by decide +kernel
theorem dX2_comesFrom_0 : decode cX2_comesFrom 0 = .ok (.aload_n 0, 1) := by decide +kernel
theorem dX2_comesFrom_1 : decode cX2_comesFrom 1 = .ok (.astore_n 2, 1) := by decide +kernel
theorem dX2_comesFrom_2 : decode cX2_comesFrom 2 = .ok (.aload_n 2, 1) := by decide +kernel
theorem dX2_comesFrom_3 : decode cX2_comesFrom 3 = .ok (.ifnull 21, 3) := by decide +kernel
theorem dX2_comesFrom_6 : decode cX2_comesFrom 6 = .ok (.aload_n 2, 1) := by decide +kernel
theorem dX2_comesFrom_7 : decode cX2_comesFrom 7 = .ok (.getfield 33, 3) := by decide +kernel
theorem dX2_comesFrom_10 : decode cX2_comesFrom 10 = .ok (.iload_n 1, 1) := by decide +kernel
theorem dX2_comesFrom_11 : decode cX2_comesFrom 11 = .ok (.if_icmp .ne 5, 3) := by decide +kernel
theorem dX2_comesFrom_14 : decode cX2_comesFrom 14 = .ok (.iconst 1, 1) := by decide +kernel
theorem dX2_comesFrom_15 : decode cX2_comesFrom 15 = .ok (.ireturn, 1) := by decide +kernel
theorem dX2_comesFrom_16 : decode cX2_comesFrom 16 = .ok (.aload_n 2, 1) := by decide +kernel
theorem dX2_comesFrom_17 : decode cX2_comesFrom 17 = .ok (.getfield 25, 3) := by decide +kernel
theorem dX2_comesFrom_20 : decode cX2_comesFrom 20 = .ok (.astore_n 2, 1) := by decide +kernel
theorem dX2_comesFrom_21 : decode cX2_comesFrom 21 = .ok (.goto (-19), 3) := by decide +kernel
theorem dX2_comesFrom_24 : decode cX2_comesFrom 24 = .ok (.iconst 0, 1) := by decide +kernel
theorem dX2_comesFrom_25 : decode cX2_comesFrom 25 = .ok (.ireturn, 1) := by decide +kernel
theorem dX3_init_0 : decode cX3_init 0 = .ok (.aload_n 0, 1) := by decide +kernel
theorem dX3_init_1 : decode cX3_init 1 = .ok (.invokespecial 3, 3) := by decide +kernel
theorem dX3_init_4 : decode cX3_init 4 = .ok (.aload_n 0, 1) := by decide +kernel
theorem dX3_init_5 : decode cX3_init 5 = .ok (.new 9, 3) := by decide +kernel
theorem dX3_init_8 : decode cX3_init 8 = .ok (.dup, 1) := by decide +kernel
theorem dX3_init_9 : decode cX3_init 9 = .ok (.invokespecial 11, 3) := by decide +kernel
theorem dX3_init_12 : decode cX3_init 12 = .ok (.putfield 12, 3) := by decide +kernel
theorem dX3_init_15 : decode cX3_init 15 = .ok (.aload_n 0, 1) := by decide +kernel
theorem dX3_init_16 : decode cX3_init 16 = .ok (.aconst_null, 1) := by decide +kernel
theorem dX3_init_17 : decode cX3_init 17 = .ok (.putfield 18, 3) := by decide +kernel
theorem dX3_init_20 : decode cX3_init 20 = .ok (.aload_n 0, 1) := by decide +kernel
theorem dX3_init_21 : decode cX3_init 21 = .ok (.aload_n 1, 1) := by decide +kernel
theorem dX3_init_22 : decode cX3_init 22 = .ok (.putfield 22, 3) := by decide +kernel
theorem dX3_init_25 : decode cX3_init 25 = .ok (.aload_n 0, 1) := by decide +kernel
theorem dX3_init_26 : decode cX3_init 26 = .ok (.getfield 12, 3) := by decide +kernel
theorem dX3_init_29 : decode cX3_init 29 = .ok (.aload_n 1, 1) := by decide +kernel
theorem dX3_init_30 : decode cX3_init 30 = .ok (.invokevirtual 26, 3) := by decide +kernel
theorem dX3_init_33 : decode cX3_init 33 = .ok (.pop, 1) := by decide +kernel
theorem dX3_init_34 : decode cX3_init 34 = .ok (.return_, 1) := by decide +kernel
theorem dX3_put_0 : decode cX3_put 0 = .ok (.aload_n 0, 1) := by decide +kernel
theorem dX3_put_1 : decode cX3_put 1 = .ok (.getfield 12, 3) := by decide +kernel
theorem dX3_put_4 : decode cX3_put 4 = .ok (.invokevirtual 30, 3) := by decide +kernel
theorem dX3_put_7 : decode cX3_put 7 = .ok (.istore_n 2, 1) := by decide +kernel
theorem dX3_put_8 : decode cX3_put 8 = .ok (.iload_n 2, 1) := by decide +kernel
theorem dX3_put_9 : decode cX3_put 9 = .ok (.ifCond .le 32, 3) := by decide +kernel
theorem dX3_put_12 : decode cX3_put 12 = .ok (.aload_n 0, 1) := by decide +kernel
theorem dX3_put_13 : decode cX3_put 13 = .ok (.getfield 12, 3) := by decide +kernel
theorem dX3_put_16 : decode cX3_put 16 = .ok (.iload_n 2, 1) := by decide +kernel
theorem dX3_put_17 : decode cX3_put 17 = .ok (.iconst 1, 1) := by decide +kernel
theorem dX3_put_18 : decode cX3_put 18 = .ok (.isub, 1) := by decide +kernel
theorem dX3_put_19 : decode cX3_put 19 = .ok (.invokevirtual 34, 3) := by decide +kernel
theorem dX3_put_22 : decode cX3_put 22 = .ok (.checkcast 38, 3) := by decide +kernel
theorem dX3_put_25 : decode cX3_put 25 = .ok (.getfield 40, 3) := by decide +kernel
theorem dX3_put_28 : decode cX3_put 28 = .ok (.aload_n 1, 1) := by decide +kernel
theorem dX3_put_29 : decode cX3_put 29 = .ok (.getfield 40, 3) := by decide +kernel
theorem dX3_put_32 : decode cX3_put 32 = .ok (.if_icmp .le 9, 3) := by decide +kernel
theorem dX3_put_35 : decode cX3_put 35 = .ok (.iinc 2 (-1), 3) := by decide +kernel
theorem dX3_put_38 : decode cX3_put 38 = .ok (.goto (-30), 3) := by decide +kernel
theorem dX3_put_41 : decode cX3_put 41 = .ok (.iload_n 2, 1) := by decide +kernel
theorem dX3_put_42 : decode cX3_put 42 = .ok (.aload_n 0, 1) := by decide +kernel
theorem dX3_put_43 : decode cX3_put 43 = .ok (.getfield 12, 3) := by decide +kernel
theorem dX3_put_46 : decode cX3_put 46 = .ok (.invokevirtual 30, 3) := by decide +kernel
theorem dX3_put_49 : decode cX3_put 49 = .ok (.if_icmp .ne 8, 3) := by decide +kernel
theorem dX3_put_52 : decode cX3_put 52 = .ok (.aload_n 0, 1) := by decide +kernel
theorem dX3_put_53 : decode cX3_put 53 = .ok (.aload_n 1, 1) := by decide +kernel
theorem dX3_put_54 : decode cX3_put 54 = .ok (.putfield 22, 3) := by decide +kernel
theorem dX3_put_57 : decode cX3_put 57 = .ok (.aload_n 0, 1) := by decide +kernel
theorem dX3_put_58 : decode cX3_put 58 = .ok (.getfield 12, 3) := by decide +kernel
theorem dX3_put_61 : decode cX3_put 61 = .ok (.iload_n 2, 1) := by decide +kernel
theorem dX3_put_62 : decode cX3_put 62 = .ok (.aload_n 1, 1) := by decide +kernel
theorem dX3_put_63 : decode cX3_put 63 = .ok (.invokevirtual 44, 3) := by decide +kernel
theorem dX3_put_66 : decode cX3_put 66 = .ok (.return_, 1) := by decide +kernel
theorem dX3_indexOf_0 : decode cX3_indexOf 0 = .ok (.iconst 0, 1) := by decide +kernel
theorem dX3_indexOf_1 : decode cX3_indexOf 1 = .ok (.istore_n 2, 1) := by decide +kernel
theorem dX3_indexOf_2 : decode cX3_indexOf 2 = .ok (.iload_n 2, 1) := by decide +kernel
theorem dX3_indexOf_3 : decode cX3_indexOf 3 = .ok (.aload_n 0, 1) := by decide +kernel
theorem dX3_indexOf_4 : decode cX3_indexOf 4 = .ok (.getfield 12, 3) := by decide +kernel
theorem dX3_indexOf_7 : decode cX3_indexOf 7 = .ok (.invokevirtual 30, 3) := by decide +kernel
theorem dX3_indexOf_10 : decode cX3_indexOf 10 = .ok (.if_icmp .ge 29, 3) := by decide +kernel
theorem dX3_indexOf_13 : decode cX3_indexOf 13 = .ok (.aload_n 0, 1) := by decide +kernel
theorem dX3_indexOf_14 : decode cX3_indexOf 14 = .ok (.getfield 12, 3) := by decide +kernel
theorem dX3_indexOf_17 : decode cX3_indexOf 17 = .ok (.iload_n 2, 1) := by decide +kernel
theorem dX3_indexOf_18 : decode cX3_indexOf 18 = .ok (.invokevirtual 34, 3) := by decide +kernel
theorem dX3_indexOf_21 : decode cX3_indexOf 21 = .ok (.checkcast 38, 3) := by decide +kernel
theorem dX3_indexOf_24 : decode cX3_indexOf 24 = .ok (.getfield 47, 3) := by decide +kernel
theorem dX3_indexOf_27 : decode cX3_indexOf 27 = .ok (.iload_n 1, 1) := by decide +kernel
theorem dX3_indexOf_28 : decode cX3_indexOf 28 = .ok (.if_icmp .ne 5, 3) := by decide +kernel
theorem dX3_indexOf_31 : decode cX3_indexOf 31 = .ok (.iload_n 2, 1) := by decide +kernel
theorem dX3_indexOf_32 : decode cX3_indexOf 32 = .ok (.ireturn, 1) := by decide +kernel
theorem dX3_indexOf_33 : decode cX3_indexOf 33 = .ok (.iinc 2 1, 3) := by decide +kernel
theorem dX3_indexOf_36 : decode cX3_indexOf 36 = .ok (.goto (-34), 3) := by decide +kernel
theorem dX3_indexOf_39 : decode cX3_indexOf 39 = .ok (.iconst (-1), 1) := by decide +kernel
theorem dX3_indexOf_40 : decode cX3_indexOf 40 = .ok (.ireturn, 1) := by decide +kernel
theorem dX3_versionAtIndex_0 : decode cX3_versionAtIndex 0 = .ok (.iload_n 1, 1) := by decide +kernel
theorem dX3_versionAtIndex_1 : decode cX3_versionAtIndex 1 = .ok (.ifCond .lt 28, 3) := by decide +kernel
theorem dX3_versionAtIndex_4 : decode cX3_versionAtIndex 4 = .ok (.iload_n 1, 1) := by decide +kernel
theorem dX3_versionAtIndex_5 : decode cX3_versionAtIndex 5 = .ok (.aload_n 0, 1) := by decide +kernel
theorem dX3_versionAtIndex_6 : decode cX3_versionAtIndex 6 = .ok (.getfield 12, 3) := by decide +kernel
theorem dX3_versionAtIndex_9 : decode cX3_versionAtIndex 9 = .ok (.invokevirtual 30, 3) := by decide +kernel
theorem dX3_versionAtIndex_12 : decode cX3_versionAtIndex 12 = .ok (.if_icmp .ge 17, 3) := by decide +kernel
theorem dX3_versionAtIndex_15 : decode cX3_versionAtIndex 15 = .ok (.aload_n 0, 1) := by decide +kernel
theorem dX3_versionAtIndex_16 : decode cX3_versionAtIndex 16 = .ok (.getfield 12, 3) := by decide +kernel
theorem dX3_versionAtIndex_19 : decode cX3_versionAtIndex 19 = .ok (.iload_n 1, 1) := by decide +kernel
theorem dX3_versionAtIndex_20 : decode cX3_versionAtIndex 20 = .ok (.invokevirtual 34, 3) := by decide +kernel
theorem dX3_versionAtIndex_23 : decode cX3_versionAtIndex 23 = .ok (.checkcast 38, 3) := by decide +kernel
theorem dX3_versionAtIndex_26 : decode cX3_versionAtIndex 26 = .ok (.goto 4, 3) := by decide +kernel
theorem dX3_versionAtIndex_29 : decode cX3_versionAtIndex 29 = .ok (.aconst_null, 1) := by decide +kernel
theorem dX3_versionAtIndex_30 : decode cX3_versionAtIndex 30 = .ok (.areturn, 1) := by decide +kernel
theorem dX3_textUpTo_0 : decode cX3_textUpTo 0 = .ok (.iload_n 1, 1) := by decide +kernel
theorem dX3_textUpTo_1 : decode cX3_textUpTo 1 = .ok (.iconst (-1), 1) := by decide +kernel
theorem dX3_textUpTo_2 : decode cX3_textUpTo 2 = .ok (.if_icmp .ne 11, 3) := by decide +kernel
theorem dX3_textUpTo_5 : decode cX3_textUpTo 5 = .ok (.aload_n 0, 1) := by decide +kernel
theorem dX3_textUpTo_6 : decode cX3_textUpTo 6 = .ok (.getfield 22, 3) := by decide +kernel
theorem dX3_textUpTo_9 : decode cX3_textUpTo 9 = .ok (.getfield 50, 3) := by decide +kernel
theorem dX3_textUpTo_12 : decode cX3_textUpTo 12 = .ok (.areturn, 1) := by decide +kernel
theorem dX3_textUpTo_13 : decode cX3_textUpTo 13 = .ok (.aload_n 0, 1) := by decide +kernel
theorem dX3_textUpTo_14 : decode cX3_textUpTo 14 = .ok (.getfield 18, 3) := by decide +kernel
theorem dX3_textUpTo_17 : decode cX3_textUpTo 17 = .ok (.astore_n 2, 1) := by decide +kernel
theorem dX3_textUpTo_18 : decode cX3_textUpTo 18 = .ok (.aload_n 2, 1) := by decide +kernel
theorem dX3_textUpTo_19 : decode cX3_textUpTo 19 = .ok (.ifnull 24, 3) := by decide +kernel
theorem dX3_textUpTo_22 : decode cX3_textUpTo 22 = .ok (.aload_n 2, 1) := by decide +kernel
theorem dX3_textUpTo_23 : decode cX3_textUpTo 23 = .ok (.getfield 54, 3) := by decide +kernel
theorem dX3_textUpTo_26 : decode cX3_textUpTo 26 = .ok (.iload_n 1, 1) := by decide +kernel
theorem dX3_textUpTo_27 : decode cX3_textUpTo 27 = .ok (.if_icmp .gt 8, 3) := by decide +kernel
theorem dX3_textUpTo_30 : decode cX3_textUpTo 30 = .ok (.aload_n 2, 1) := by decide +kernel
theorem dX3_textUpTo_31 : decode cX3_textUpTo 31 = .ok (.getfield 57, 3) := by decide +kernel
theorem dX3_textUpTo_34 : decode cX3_textUpTo 34 = .ok (.areturn, 1) := by decide +kernel
theorem dX3_textUpTo_35 : decode cX3_textUpTo 35 = .ok (.aload_n 2, 1) := by decide +kernel
theorem dX3_textUpTo_36 : decode cX3_textUpTo 36 = .ok (.getfield 58, 3) := by decide +kernel
theorem dX3_textUpTo_39 : decode cX3_textUpTo 39 = .ok (.astore_n 2, 1) := by decide +kernel
theorem dX3_textUpTo_40 : decode cX3_textUpTo 40 = .ok (.goto (-22), 3) := by decide +kernel
theorem dX3_textUpTo_43 : decode cX3_textUpTo 43 = .ok (.aconst_null, 1) := by decide +kernel
theorem dX3_textUpTo_44 : decode cX3_textUpTo 44 = .ok (.areturn, 1) := by decide +kernel
theorem dX4_init_0 : decode cX4_init 0 = .ok (.aload_n 0, 1) := by decide +kernel
theorem dX4_init_1 : decode cX4_init 1 = .ok (.invokespecial 1, 3) := by decide +kernel
theorem dX4_init_4 : decode cX4_init 4 = .ok (.aload_n 0, 1) := by decide +kernel
theorem dX4_init_5 : decode cX4_init 5 = .ok (.new 7, 3) := by decide +kernel
theorem dX4_init_8 : decode cX4_init 8 = .ok (.dup, 1) := by decide +kernel
theorem dX4_init_9 : decode cX4_init 9 = .ok (.invokespecial 9, 3) := by decide +kernel
theorem dX4_init_12 : decode cX4_init 12 = .ok (.putfield 10, 3) := by decide +kernel
theorem dX4_init_15 : decode cX4_init 15 = .ok (.aload_n 0, 1) := by decide +kernel
theorem dX4_init_16 : decode cX4_init 16 = .ok (.iconst 0, 1) := by decide +kernel
theorem dX4_init_17 : decode cX4_init 17 = .ok (.putfield 16, 3) := by decide +kernel
theorem dX4_init_20 : decode cX4_init 20 = .ok (.aload_n 0, 1) := by decide +kernel
theorem dX4_init_21 : decode cX4_init 21 = .ok (.iconst 0, 1) := by decide +kernel
theorem dX4_init_22 : decode cX4_init 22 = .ok (.putfield 20, 3) := by decide +kernel
theorem dX4_init_25 : decode cX4_init 25 = .ok (.aload_n 0, 1) := by decide +kernel
theorem dX4_init_26 : decode cX4_init 26 = .ok (.iconst 0, 1) := by decide +kernel
theorem dX4_init_27 : decode cX4_init 27 = .ok (.putfield 23, 3) := by decide +kernel
theorem dX4_init_30 : decode cX4_init 30 = .ok (.aload_n 0, 1) := by decide +kernel
theorem dX4_init_31 : decode cX4_init 31 = .ok (.iconst 0, 1) := by decide +kernel
theorem dX4_init_32 : decode cX4_init 32 = .ok (.putfield 27, 3) := by decide +kernel
theorem dX4_init_35 : decode cX4_init 35 = .ok (.aload_n 0, 1) := by decide +kernel
theorem dX4_init_36 : decode cX4_init 36 = .ok (.iconst 0, 1) := by decide +kernel
theorem dX4_init_37 : decode cX4_init 37 = .ok (.putfield 30, 3) := by decide +kernel
theorem dX4_init_40 : decode cX4_init 40 = .ok (.aload_n 0, 1) := by decide +kernel
theorem dX4_init_41 : decode cX4_init 41 = .ok (.iconst 0, 1) := by decide +kernel
theorem dX4_init_42 : decode cX4_init 42 = .ok (.putfield 33, 3) := by decide +kernel
theorem dX4_init_45 : decode cX4_init 45 = .ok (.aload_n 0, 1) := by decide +kernel
theorem dX4_init_46 : decode cX4_init 46 = .ok (.iconst 0, 1) := by decide +kernel
theorem dX4_init_47 : decode cX4_init 47 = .ok (.putfield 36, 3) := by decide +kernel
theorem dX4_init_50 : decode cX4_init 50 = .ok (.return_, 1) := by decide +kernel
theorem dX4_clear_0 : decode cX4_clear 0 = .ok (.aload_n 0, 1) := by decide +kernel
theorem dX4_clear_1 : decode cX4_clear 1 = .ok (.getfield 10, 3) := by decide +kernel
theorem dX4_clear_4 : decode cX4_clear 4 = .ok (.invokevirtual 39, 3) := by decide +kernel
theorem dX4_clear_7 : decode cX4_clear 7 = .ok (.aload_n 0, 1) := by decide +kernel
theorem dX4_clear_8 : decode cX4_clear 8 = .ok (.iconst 0, 1) := by decide +kernel
theorem dX4_clear_9 : decode cX4_clear 9 = .ok (.putfield 16, 3) := by decide +kernel
theorem dX4_clear_12 : decode cX4_clear 12 = .ok (.aload_n 0, 1) := by decide +kernel
theorem dX4_clear_13 : decode cX4_clear 13 = .ok (.iconst 0, 1) := by decide +kernel
theorem dX4_clear_14 : decode cX4_clear 14 = .ok (.putfield 20, 3) := by decide +kernel
theorem dX4_clear_17 : decode cX4_clear 17 = .ok (.aload_n 0, 1) := by decide +kernel
theorem dX4_clear_18 : decode cX4_clear 18 = .ok (.iconst 0, 1) := by decide +kernel
theorem dX4_clear_19 : decode cX4_clear 19 = .ok (.putfield 23, 3) := by decide +kernel
theorem dX4_clear_22 : decode cX4_clear 22 = .ok (.aload_n 0, 1) := by decide +kernel
theorem dX4_clear_23 : decode cX4_clear 23 = .ok (.iconst 0, 1) := by decide +kernel
theorem dX4_clear_24 : decode cX4_clear 24 = .ok (.putfield 27, 3) := by decide +kernel
theorem dX4_clear_27 : decode cX4_clear 27 = .ok (.aload_n 0, 1) := by decide +kernel
theorem dX4_clear_28 : decode cX4_clear 28 = .ok (.iconst 0, 1) := by decide +kernel
theorem dX4_clear_29 : decode cX4_clear 29 = .ok (.putfield 30, 3) := by decide +kernel
theorem dX4_clear_32 : decode cX4_clear 32 = .ok (.aload_n 0, 1) := by decide +kernel
theorem dX4_clear_33 : decode cX4_clear 33 = .ok (.iconst 0, 1) := by decide +kernel
theorem dX4_clear_34 : decode cX4_clear 34 = .ok (.putfield 33, 3) := by decide +kernel
theorem dX4_clear_37 : decode cX4_clear 37 = .ok (.aload_n 0, 1) := by decide +kernel
theorem dX4_clear_38 : decode cX4_clear 38 = .ok (.iconst 0, 1) := by decide +kernel
theorem dX4_clear_39 : decode cX4_clear 39 = .ok (.putfield 36, 3) := by decide +kernel
theorem dX4_clear_42 : decode cX4_clear 42 = .ok (.return_, 1) := by decide +kernel
theorem dX4_take_0 : decode cX4_take 0 = .ok (.aload_n 0, 1) := by decide +kernel
theorem dX4_take_1 : decode cX4_take 1 = .ok (.getfield 10, 3) := by decide +kernel
theorem dX4_take_4 : decode cX4_take 4 = .ok (.invokevirtual 39, 3) := by decide +kernel
theorem dX4_take_7 : decode cX4_take 7 = .ok (.aload_n 0, 1) := by decide +kernel
theorem dX4_take_8 : decode cX4_take 8 = .ok (.getfield 10, 3) := by decide +kernel
theorem dX4_take_11 : decode cX4_take 11 = .ok (.aload_n 1, 1) := by decide +kernel
theorem dX4_take_12 : decode cX4_take 12 = .ok (.getfield 10, 3) := by decide +kernel
theorem dX4_take_15 : decode cX4_take 15 = .ok (.invokevirtual 42, 3) := by decide +kernel
theorem dX4_take_18 : decode cX4_take 18 = .ok (.aload_n 0, 1) := by decide +kernel
theorem dX4_take_19 : decode cX4_take 19 = .ok (.iconst 1, 1) := by decide +kernel
theorem dX4_take_20 : decode cX4_take 20 = .ok (.putfield 16, 3) := by decide +kernel
theorem dX4_take_23 : decode cX4_take 23 = .ok (.aload_n 0, 1) := by decide +kernel
theorem dX4_take_24 : decode cX4_take 24 = .ok (.iconst 0, 1) := by decide +kernel
theorem dX4_take_25 : decode cX4_take 25 = .ok (.putfield 20, 3) := by decide +kernel
theorem dX4_take_28 : decode cX4_take 28 = .ok (.aload_n 0, 1) := by decide +kernel
theorem dX4_take_29 : decode cX4_take 29 = .ok (.aload_n 1, 1) := by decide +kernel
theorem dX4_take_30 : decode cX4_take 30 = .ok (.getfield 23, 3) := by decide +kernel
theorem dX4_take_33 : decode cX4_take 33 = .ok (.putfield 23, 3) := by decide +kernel
theorem dX4_take_36 : decode cX4_take 36 = .ok (.aload_n 0, 1) := by decide +kernel
theorem dX4_take_37 : decode cX4_take 37 = .ok (.aload_n 1, 1) := by decide +kernel
theorem dX4_take_38 : decode cX4_take 38 = .ok (.getfield 27, 3) := by decide +kernel
theorem dX4_take_41 : decode cX4_take 41 = .ok (.putfield 27, 3) := by decide +kernel
theorem dX4_take_44 : decode cX4_take 44 = .ok (.aload_n 0, 1) := by decide +kernel
theorem dX4_take_45 : decode cX4_take 45 = .ok (.aload_n 1, 1) := by decide +kernel
theorem dX4_take_46 : decode cX4_take 46 = .ok (.getfield 30, 3) := by decide +kernel
theorem dX4_take_49 : decode cX4_take 49 = .ok (.putfield 30, 3) := by decide +kernel
theorem dX4_take_52 : decode cX4_take 52 = .ok (.aload_n 0, 1) := by decide +kernel
theorem dX4_take_53 : decode cX4_take 53 = .ok (.aload_n 1, 1) := by decide +kernel
theorem dX4_take_54 : decode cX4_take 54 = .ok (.getfield 33, 3) := by decide +kernel
theorem dX4_take_57 : decode cX4_take 57 = .ok (.putfield 33, 3) := by decide +kernel
theorem dX4_take_60 : decode cX4_take 60 = .ok (.aload_n 0, 1) := by decide +kernel
theorem dX4_take_61 : decode cX4_take 61 = .ok (.aload_n 1, 1) := by decide +kernel
theorem dX4_take_62 : decode cX4_take 62 = .ok (.getfield 36, 3) := by decide +kernel
theorem dX4_take_65 : decode cX4_take 65 = .ok (.putfield 36, 3) := by decide +kernel
theorem dX4_take_68 : decode cX4_take 68 = .ok (.return_, 1) := by decide +kernel
theorem dX5_init_0 : decode cX5_init 0 = .ok (.aload_n 0, 1) := by decide +kernel
theorem dX5_init_1 : decode cX5_init 1 = .ok (.invokespecial 3, 3) := by decide +kernel
theorem dX5_init_4 : decode cX5_init 4 = .ok (.aload_n 0, 1) := by decide +kernel
theorem dX5_init_5 : decode cX5_init 5 = .ok (.sipush 150, 3) := by decide +kernel
theorem dX5_init_8 : decode cX5_init 8 = .ok (.newarray .int, 2) := by decide +kernel
theorem dX5_init_10 : decode cX5_init 10 = .ok (.putfield 9, 3) := by decide +kernel
theorem dX5_init_13 : decode cX5_init 13 = .ok (.aload_n 0, 1) := by decide +kernel
theorem dX5_init_14 : decode cX5_init 14 = .ok (.iconst 0, 1) := by decide +kernel
theorem dX5_init_15 : decode cX5_init 15 = .ok (.putfield 15, 3) := by decide +kernel
theorem dX5_init_18 : decode cX5_init 18 = .ok (.aload_n 0, 1) := by decide +kernel
theorem dX5_init_19 : decode cX5_init 19 = .ok (.iconst 0, 1) := by decide +kernel
theorem dX5_init_20 : decode cX5_init 20 = .ok (.putfield 19, 3) := by decide +kernel
theorem dX5_init_23 : decode cX5_init 23 = .ok (.return_, 1) := by decide +kernel
theorem dX5_clear_0 : decode cX5_clear 0 = .ok (.aload_n 0, 1) := by decide +kernel
theorem dX5_clear_1 : decode cX5_clear 1 = .ok (.iconst 0, 1) := by decide +kernel
theorem dX5_clear_2 : decode cX5_clear 2 = .ok (.putfield 15, 3) := by decide +kernel
theorem dX5_clear_5 : decode cX5_clear 5 = .ok (.aload_n 0, 1) := by decide +kernel
theorem dX5_clear_6 : decode cX5_clear 6 = .ok (.iconst 0, 1) := by decide +kernel
theorem dX5_clear_7 : decode cX5_clear 7 = .ok (.putfield 19, 3) := by decide +kernel
theorem dX5_clear_10 : decode cX5_clear 10 = .ok (.return_, 1) := by decide +kernel
theorem dX5_add_0 : decode cX5_add 0 = .ok (.aload_n 0, 1) := by decide +kernel
theorem dX5_add_1 : decode cX5_add 1 = .ok (.getfield 15, 3) := by decide +kernel
theorem dX5_add_4 : decode cX5_add 4 = .ok (.aload_n 0, 1) := by decide +kernel
theorem dX5_add_5 : decode cX5_add 5 = .ok (.getfield 9, 3) := by decide +kernel
theorem dX5_add_8 : decode cX5_add 8 = .ok (.arraylength, 1) := by decide +kernel
theorem dX5_add_9 : decode cX5_add 9 = .ok (.if_icmp .ge 44, 3) := by decide +kernel
theorem dX5_add_12 : decode cX5_add 12 = .ok (.aload_n 0, 1) := by decide +kernel
theorem dX5_add_13 : decode cX5_add 13 = .ok (.getfield 9, 3) := by decide +kernel
theorem dX5_add_16 : decode cX5_add 16 = .ok (.aload_n 0, 1) := by decide +kernel
theorem dX5_add_17 : decode cX5_add 17 = .ok (.getfield 15, 3) := by decide +kernel
theorem dX5_add_20 : decode cX5_add 20 = .ok (.iload_n 1, 1) := by decide +kernel
theorem dX5_add_21 : decode cX5_add 21 = .ok (.iastore, 1) := by decide +kernel
theorem dX5_add_22 : decode cX5_add 22 = .ok (.aload_n 0, 1) := by decide +kernel
theorem dX5_add_23 : decode cX5_add 23 = .ok (.dup, 1) := by decide +kernel
theorem dX5_add_24 : decode cX5_add 24 = .ok (.getfield 15, 3) := by decide +kernel
theorem dX5_add_27 : decode cX5_add 27 = .ok (.iconst 1, 1) := by decide +kernel
theorem dX5_add_28 : decode cX5_add 28 = .ok (.iadd, 1) := by decide +kernel
theorem dX5_add_29 : decode cX5_add 29 = .ok (.putfield 15, 3) := by decide +kernel
theorem dX5_add_32 : decode cX5_add 32 = .ok (.aload_n 0, 1) := by decide +kernel
theorem dX5_add_33 : decode cX5_add 33 = .ok (.dup, 1) := by decide +kernel
theorem dX5_add_34 : decode cX5_add 34 = .ok (.getfield 19, 3) := by decide +kernel
theorem dX5_add_37 : decode cX5_add 37 = .ok (.iload_n 1, 1) := by decide +kernel
theorem dX5_add_38 : decode cX5_add 38 = .ok (.sipush 1000, 3) := by decide +kernel
theorem dX5_add_41 : decode cX5_add 41 = .ok (.if_icmp .ge 7, 3) := by decide +kernel
theorem dX5_add_44 : decode cX5_add 44 = .ok (.iload_n 1, 1) := by decide +kernel
theorem dX5_add_45 : decode cX5_add 45 = .ok (.goto 4, 3) := by decide +kernel
theorem dX5_add_48 : decode cX5_add 48 = .ok (.iconst 0, 1) := by decide +kernel
theorem dX5_add_49 : decode cX5_add 49 = .ok (.iadd, 1) := by decide +kernel
theorem dX5_add_50 : decode cX5_add 50 = .ok (.putfield 19, 3) := by decide +kernel
theorem dX5_add_53 : decode cX5_add 53 = .ok (.return_, 1) := by decide +kernel
theorem dX5_addAll_0 : decode cX5_addAll 0 = .ok (.iconst 0, 1) := by decide +kernel
theorem dX5_addAll_1 : decode cX5_addAll 1 = .ok (.istore_n 2, 1) := by decide +kernel
theorem dX5_addAll_2 : decode cX5_addAll 2 = .ok (.iload_n 2, 1) := by decide +kernel
theorem dX5_addAll_3 : decode cX5_addAll 3 = .ok (.aload_n 1, 1) := by decide +kernel
theorem dX5_addAll_4 : decode cX5_addAll 4 = .ok (.getfield 15, 3) := by decide +kernel
theorem dX5_addAll_7 : decode cX5_addAll 7 = .ok (.if_icmp .ge 18, 3) := by decide +kernel
theorem dX5_addAll_10 : decode cX5_addAll 10 = .ok (.aload_n 0, 1) := by decide +kernel
theorem dX5_addAll_11 : decode cX5_addAll 11 = .ok (.aload_n 1, 1) := by decide +kernel
theorem dX5_addAll_12 : decode cX5_addAll 12 = .ok (.iload_n 2, 1) := by decide +kernel
theorem dX5_addAll_13 : decode cX5_addAll 13 = .ok (.invokevirtual 22, 3) := by decide +kernel
theorem dX5_addAll_16 : decode cX5_addAll 16 = .ok (.invokevirtual 26, 3) := by decide +kernel
theorem dX5_addAll_19 : decode cX5_addAll 19 = .ok (.iinc 2 1, 3) := by decide +kernel
theorem dX5_addAll_22 : decode cX5_addAll 22 = .ok (.goto (-20), 3) := by decide +kernel
theorem dX5_addAll_25 : decode cX5_addAll 25 = .ok (.return_, 1) := by decide +kernel
theorem dX5_at_0 : decode cX5_at 0 = .ok (.iload_n 1, 1) := by decide +kernel
theorem dX5_at_1 : decode cX5_at 1 = .ok (.ifCond .lt 29, 3) := by decide +kernel
theorem dX5_at_4 : decode cX5_at 4 = .ok (.iload_n 1, 1) := by decide +kernel
theorem dX5_at_5 : decode cX5_at 5 = .ok (.aload_n 0, 1) := by decide +kernel
theorem dX5_at_6 : decode cX5_at 6 = .ok (.getfield 15, 3) := by decide +kernel
theorem dX5_at_9 : decode cX5_at 9 = .ok (.if_icmp .ge 21, 3) := by decide +kernel
theorem dX5_at_12 : decode cX5_at 12 = .ok (.iload_n 1, 1) := by decide +kernel
theorem dX5_at_13 : decode cX5_at 13 = .ok (.aload_n 0, 1) := by decide +kernel
theorem dX5_at_14 : decode cX5_at 14 = .ok (.getfield 9, 3) := by decide +kernel
theorem dX5_at_17 : decode cX5_at 17 = .ok (.arraylength, 1) := by decide +kernel
theorem dX5_at_18 : decode cX5_at 18 = .ok (.if_icmp .ge 12, 3) := by decide +kernel
theorem dX5_at_21 : decode cX5_at 21 = .ok (.aload_n 0, 1) := by decide +kernel
theorem dX5_at_22 : decode cX5_at 22 = .ok (.getfield 9, 3) := by decide +kernel
theorem dX5_at_25 : decode cX5_at 25 = .ok (.iload_n 1, 1) := by decide +kernel
theorem dX5_at_26 : decode cX5_at 26 = .ok (.iaload, 1) := by decide +kernel
theorem dX5_at_27 : decode cX5_at 27 = .ok (.goto 4, 3) := by decide +kernel
theorem dX5_at_30 : decode cX5_at 30 = .ok (.iconst (-1), 1) := by decide +kernel
theorem dX5_at_31 : decode cX5_at 31 = .ok (.ireturn, 1) := by decide +kernel
theorem dX5_number_0 : decode cX5_number 0 = .ok (.aload_n 0, 1) := by decide +kernel
theorem dX5_number_1 : decode cX5_number 1 = .ok (.getfield 15, 3) := by decide +kernel
theorem dX5_number_4 : decode cX5_number 4 = .ok (.ifCond .le 24, 3) := by decide +kernel
theorem dX5_number_7 : decode cX5_number 7 = .ok (.aload_n 0, 1) := by decide +kernel
theorem dX5_number_8 : decode cX5_number 8 = .ok (.getfield 9, 3) := by decide +kernel
theorem dX5_number_11 : decode cX5_number 11 = .ok (.iconst 0, 1) := by decide +kernel
theorem dX5_number_12 : decode cX5_number 12 = .ok (.iaload, 1) := by decide +kernel
theorem dX5_number_13 : decode cX5_number 13 = .ok (.sipush 1000, 3) := by decide +kernel
theorem dX5_number_16 : decode cX5_number 16 = .ok (.if_icmp .ge 12, 3) := by decide +kernel
theorem dX5_number_19 : decode cX5_number 19 = .ok (.aload_n 0, 1) := by decide +kernel
theorem dX5_number_20 : decode cX5_number 20 = .ok (.getfield 9, 3) := by decide +kernel
theorem dX5_number_23 : decode cX5_number 23 = .ok (.iconst 0, 1) := by decide +kernel
theorem dX5_number_24 : decode cX5_number 24 = .ok (.iaload, 1) := by decide +kernel
theorem dX5_number_25 : decode cX5_number 25 = .ok (.goto 4, 3) := by decide +kernel
theorem dX5_number_28 : decode cX5_number 28 = .ok (.iconst (-1), 1) := by decide +kernel
theorem dX5_number_29 : decode cX5_number 29 = .ok (.ireturn, 1) := by decide +kernel
theorem dX5_hasOtherThanZero_0 : decode cX5_hasOtherThanZero 0 = .ok (.iconst 0, 1) := by decide +kernel
theorem dX5_hasOtherThanZero_1 : decode cX5_hasOtherThanZero 1 = .ok (.istore_n 1, 1) := by decide +kernel
theorem dX5_hasOtherThanZero_2 : decode cX5_hasOtherThanZero 2 = .ok (.iload_n 1, 1) := by decide +kernel
theorem dX5_hasOtherThanZero_3 : decode cX5_hasOtherThanZero 3 = .ok (.aload_n 0, 1) := by decide +kernel
theorem dX5_hasOtherThanZero_4 : decode cX5_hasOtherThanZero 4 = .ok (.getfield 15, 3) := by decide +kernel
theorem dX5_hasOtherThanZero_7 : decode cX5_hasOtherThanZero 7 = .ok (.if_icmp .ge 19, 3) := by decide +kernel
theorem dX5_hasOtherThanZero_10 : decode cX5_hasOtherThanZero 10 = .ok (.aload_n 0, 1) := by decide +kernel
theorem dX5_hasOtherThanZero_11 : decode cX5_hasOtherThanZero 11 = .ok (.iload_n 1, 1) := by decide +kernel
theorem dX5_hasOtherThanZero_12 : decode cX5_hasOtherThanZero 12 = .ok (.invokevirtual 22, 3) := by decide +kernel
theorem dX5_hasOtherThanZero_15 : decode cX5_hasOtherThanZero 15 = .ok (.ifCond .eq 5, 3) := by decide +kernel
theorem dX5_hasOtherThanZero_18 : decode cX5_hasOtherThanZero 18 = .ok (.iconst 1, 1) := by decide +kernel
theorem dX5_hasOtherThanZero_19 : decode cX5_hasOtherThanZero 19 = .ok (.ireturn, 1) := by decide +kernel
theorem dX5_hasOtherThanZero_20 : decode cX5_hasOtherThanZero 20 = .ok (.iinc 1 1, 3) := by decide +kernel
theorem dX5_hasOtherThanZero_23 : decode cX5_hasOtherThanZero 23 = .ok (.goto (-21), 3) := by decide +kernel
theorem dX5_hasOtherThanZero_26 : decode cX5_hasOtherThanZero 26 = .ok (.iconst 0, 1) := by decide +kernel
theorem dX5_hasOtherThanZero_27 : decode cX5_hasOtherThanZero 27 = .ok (.ireturn, 1) := by decide +kernel
theorem dX5_sameAs_0 : decode cX5_sameAs 0 = .ok (.aload_n 1, 1) := by decide +kernel
theorem dX5_sameAs_1 : decode cX5_sameAs 1 = .ok (.getfield 15, 3) := by decide +kernel
theorem dX5_sameAs_4 : decode cX5_sameAs 4 = .ok (.aload_n 0, 1) := by decide +kernel
theorem dX5_sameAs_5 : decode cX5_sameAs 5 = .ok (.getfield 15, 3) := by decide +kernel
theorem dX5_sameAs_8 : decode cX5_sameAs 8 = .ok (.if_icmp .eq 5, 3) := by decide +kernel
theorem dX5_sameAs_11 : decode cX5_sameAs 11 = .ok (.iconst 0, 1) := by decide +kernel
theorem dX5_sameAs_12 : decode cX5_sameAs 12 = .ok (.ireturn, 1) := by decide +kernel
theorem dX5_sameAs_13 : decode cX5_sameAs 13 = .ok (.iconst 0, 1) := by decide +kernel
theorem dX5_sameAs_14 : decode cX5_sameAs 14 = .ok (.istore_n 2, 1) := by decide +kernel
theorem dX5_sameAs_15 : decode cX5_sameAs 15 = .ok (.iload_n 2, 1) := by decide +kernel
theorem dX5_sameAs_16 : decode cX5_sameAs 16 = .ok (.aload_n 0, 1) := by decide +kernel
theorem dX5_sameAs_17 : decode cX5_sameAs 17 = .ok (.getfield 15, 3) := by decide +kernel
theorem dX5_sameAs_20 : decode cX5_sameAs 20 = .ok (.if_icmp .ge 24, 3) := by decide +kernel
theorem dX5_sameAs_23 : decode cX5_sameAs 23 = .ok (.aload_n 0, 1) := by decide +kernel
theorem dX5_sameAs_24 : decode cX5_sameAs 24 = .ok (.iload_n 2, 1) := by decide +kernel
theorem dX5_sameAs_25 : decode cX5_sameAs 25 = .ok (.invokevirtual 22, 3) := by decide +kernel
theorem dX5_sameAs_28 : decode cX5_sameAs 28 = .ok (.aload_n 1, 1) := by decide +kernel
theorem dX5_sameAs_29 : decode cX5_sameAs 29 = .ok (.iload_n 2, 1) := by decide +kernel
theorem dX5_sameAs_30 : decode cX5_sameAs 30 = .ok (.invokevirtual 22, 3) := by decide +kernel
theorem dX5_sameAs_33 : decode cX5_sameAs 33 = .ok (.if_icmp .eq 5, 3) := by decide +kernel
theorem dX5_sameAs_36 : decode cX5_sameAs 36 = .ok (.iconst 0, 1) := by decide +kernel
theorem dX5_sameAs_37 : decode cX5_sameAs 37 = .ok (.ireturn, 1) := by decide +kernel
theorem dX5_sameAs_38 : decode cX5_sameAs 38 = .ok (.iinc 2 1, 3) := by decide +kernel
theorem dX5_sameAs_41 : decode cX5_sameAs 41 = .ok (.goto (-26), 3) := by decide +kernel
theorem dX5_sameAs_44 : decode cX5_sameAs 44 = .ok (.iconst 1, 1) := by decide +kernel
theorem dX5_sameAs_45 : decode cX5_sameAs 45 = .ok (.ireturn, 1) := by decide +kernel
theorem dX6_init_0 : decode cX6_init 0 = .ok (.aload_n 0, 1) := by decide +kernel
theorem dX6_init_1 : decode cX6_init 1 = .ok (.invokespecial 1, 3) := by decide +kernel
theorem dX6_init_4 : decode cX6_init 4 = .ok (.aload_n 0, 1) := by decide +kernel
theorem dX6_init_5 : decode cX6_init 5 = .ok (.aconst_null, 1) := by decide +kernel
theorem dX6_init_6 : decode cX6_init 6 = .ok (.putfield 7, 3) := by decide +kernel
theorem dX6_init_9 : decode cX6_init 9 = .ok (.aload_n 0, 1) := by decide +kernel
theorem dX6_init_10 : decode cX6_init 10 = .ok (.aconst_null, 1) := by decide +kernel
theorem dX6_init_11 : decode cX6_init 11 = .ok (.putfield 13, 3) := by decide +kernel
theorem dX6_init_14 : decode cX6_init 14 = .ok (.aload_n 0, 1) := by decide +kernel
theorem dX6_init_15 : decode cX6_init 15 = .ok (.iconst 0, 1) := by decide +kernel
theorem dX6_init_16 : decode cX6_init 16 = .ok (.putfield 17, 3) := by decide +kernel
theorem dX6_init_19 : decode cX6_init 19 = .ok (.aload_n 0, 1) := by decide +kernel
theorem dX6_init_20 : decode cX6_init 20 = .ok (.iconst 0, 1) := by decide +kernel
theorem dX6_init_21 : decode cX6_init 21 = .ok (.putfield 21, 3) := by decide +kernel
theorem dX6_init_24 : decode cX6_init 24 = .ok (.return_, 1) := by decide +kernel
theorem dX7_init_0 : decode cX7_init 0 = .ok (.aload_n 0, 1) := by decide +kernel
theorem dX7_init_1 : decode cX7_init 1 = .ok (.invokespecial 3, 3) := by decide +kernel
theorem dX7_init_4 : decode cX7_init 4 = .ok (.aload_n 0, 1) := by decide +kernel
theorem dX7_init_5 : decode cX7_init 5 = .ok (.bipush 16, 2) := by decide +kernel
theorem dX7_init_7 : decode cX7_init 7 = .ok (.newarray .int, 2) := by decide +kernel
theorem dX7_init_9 : decode cX7_init 9 = .ok (.putfield 9, 3) := by decide +kernel
theorem dX7_init_12 : decode cX7_init 12 = .ok (.aload_n 0, 1) := by decide +kernel
theorem dX7_init_13 : decode cX7_init 13 = .ok (.bipush 16, 2) := by decide +kernel
theorem dX7_init_15 : decode cX7_init 15 = .ok (.newarray .int, 2) := by decide +kernel
theorem dX7_init_17 : decode cX7_init 17 = .ok (.putfield 15, 3) := by decide +kernel
theorem dX7_init_20 : decode cX7_init 20 = .ok (.aload_n 0, 1) := by decide +kernel
theorem dX7_init_21 : decode cX7_init 21 = .ok (.iconst 0, 1) := by decide +kernel
theorem dX7_init_22 : decode cX7_init 22 = .ok (.putfield 18, 3) := by decide +kernel
theorem dX7_init_25 : decode cX7_init 25 = .ok (.return_, 1) := by decide +kernel
theorem dX7_instructionAt_0 : decode cX7_instructionAt 0 = .ok (.iload_n 1, 1) := by decide +kernel
theorem dX7_instructionAt_1 : decode cX7_instructionAt 1 = .ok (.ifCond .lt 29, 3) := by decide +kernel
theorem dX7_instructionAt_4 : decode cX7_instructionAt 4 = .ok (.iload_n 1, 1) := by decide +kernel
theorem dX7_instructionAt_5 : decode cX7_instructionAt 5 = .ok (.aload_n 0, 1) := by decide +kernel
theorem dX7_instructionAt_6 : decode cX7_instructionAt 6 = .ok (.getfield 18, 3) := by decide +kernel
theorem dX7_instructionAt_9 : decode cX7_instructionAt 9 = .ok (.if_icmp .ge 21, 3) := by decide +kernel
theorem dX7_instructionAt_12 : decode cX7_instructionAt 12 = .ok (.iload_n 1, 1) := by decide +kernel
theorem dX7_instructionAt_13 : decode cX7_instructionAt 13 = .ok (.aload_n 0, 1) := by decide +kernel
theorem dX7_instructionAt_14 : decode cX7_instructionAt 14 = .ok (.getfield 9, 3) := by decide +kernel
theorem dX7_instructionAt_17 : decode cX7_instructionAt 17 = .ok (.arraylength, 1) := by decide +kernel
theorem dX7_instructionAt_18 : decode cX7_instructionAt 18 = .ok (.if_icmp .ge 12, 3) := by decide +kernel
theorem dX7_instructionAt_21 : decode cX7_instructionAt 21 = .ok (.aload_n 0, 1) := by decide +kernel
theorem dX7_instructionAt_22 : decode cX7_instructionAt 22 = .ok (.getfield 9, 3) := by decide +kernel
theorem dX7_instructionAt_25 : decode cX7_instructionAt 25 = .ok (.iload_n 1, 1) := by decide +kernel
theorem dX7_instructionAt_26 : decode cX7_instructionAt 26 = .ok (.iaload, 1) := by decide +kernel
theorem dX7_instructionAt_27 : decode cX7_instructionAt 27 = .ok (.goto 4, 3) := by decide +kernel
theorem dX7_instructionAt_30 : decode cX7_instructionAt 30 = .ok (.iconst (-1), 1) := by decide +kernel
theorem dX7_instructionAt_31 : decode cX7_instructionAt 31 = .ok (.ireturn, 1) := by decide +kernel
theorem dX7_valueAt_0 : decode cX7_valueAt 0 = .ok (.iload_n 1, 1) := by decide +kernel
theorem dX7_valueAt_1 : decode cX7_valueAt 1 = .ok (.ifCond .lt 29, 3) := by decide +kernel
theorem dX7_valueAt_4 : decode cX7_valueAt 4 = .ok (.iload_n 1, 1) := by decide +kernel
theorem dX7_valueAt_5 : decode cX7_valueAt 5 = .ok (.aload_n 0, 1) := by decide +kernel
theorem dX7_valueAt_6 : decode cX7_valueAt 6 = .ok (.getfield 18, 3) := by decide +kernel
theorem dX7_valueAt_9 : decode cX7_valueAt 9 = .ok (.if_icmp .ge 21, 3) := by decide +kernel
theorem dX7_valueAt_12 : decode cX7_valueAt 12 = .ok (.iload_n 1, 1) := by decide +kernel
theorem dX7_valueAt_13 : decode cX7_valueAt 13 = .ok (.aload_n 0, 1) := by decide +kernel
theorem dX7_valueAt_14 : decode cX7_valueAt 14 = .ok (.getfield 15, 3) := by decide +kernel
theorem dX7_valueAt_17 : decode cX7_valueAt 17 = .ok (.arraylength, 1) := by decide +kernel
theorem dX7_valueAt_18 : decode cX7_valueAt 18 = .ok (.if_icmp .ge 12, 3) := by decide +kernel
theorem dX7_valueAt_21 : decode cX7_valueAt 21 = .ok (.aload_n 0, 1) := by decide +kernel
theorem dX7_valueAt_22 : decode cX7_valueAt 22 = .ok (.getfield 15, 3) := by decide +kernel
theorem dX7_valueAt_25 : decode cX7_valueAt 25 = .ok (.iload_n 1, 1) := by decide +kernel
theorem dX7_valueAt_26 : decode cX7_valueAt 26 = .ok (.iaload, 1) := by decide +kernel
theorem dX7_valueAt_27 : decode cX7_valueAt 27 = .ok (.goto 4, 3) := by decide +kernel
theorem dX7_valueAt_30 : decode cX7_valueAt 30 = .ok (.iconst (-1), 1) := by decide +kernel
theorem dX7_valueAt_31 : decode cX7_valueAt 31 = .ok (.ireturn, 1) := by decide +kernel
theorem dX8_init_0 : decode cX8_init 0 = .ok (.aload_n 0, 1) := by decide +kernel
theorem dX8_init_1 : decode cX8_init 1 = .ok (.invokespecial 3, 3) := by decide +kernel
theorem dX8_init_4 : decode cX8_init 4 = .ok (.aload_n 0, 1) := by decide +kernel
theorem dX8_init_5 : decode cX8_init 5 = .ok (.iconst 0, 1) := by decide +kernel
theorem dX8_init_6 : decode cX8_init 6 = .ok (.putfield 9, 3) := by decide +kernel
theorem dX8_init_9 : decode cX8_init 9 = .ok (.aload_n 0, 1) := by decide +kernel
theorem dX8_init_10 : decode cX8_init 10 = .ok (.iload_n 1, 1) := by decide +kernel
theorem dX8_init_11 : decode cX8_init 11 = .ok (.ifCond .ge 7, 3) := by decide +kernel
theorem dX8_init_14 : decode cX8_init 14 = .ok (.iconst 0, 1) := by decide +kernel
theorem dX8_init_15 : decode cX8_init 15 = .ok (.goto 4, 3) := by decide +kernel
theorem dX8_init_18 : decode cX8_init 18 = .ok (.iload_n 1, 1) := by decide +kernel
theorem dX8_init_19 : decode cX8_init 19 = .ok (.newarray .int, 2) := by decide +kernel
theorem dX8_init_21 : decode cX8_init 21 = .ok (.putfield 15, 3) := by decide +kernel
theorem dX8_init_24 : decode cX8_init 24 = .ok (.aload_n 0, 1) := by decide +kernel
theorem dX8_init_25 : decode cX8_init 25 = .ok (.aload_n 0, 1) := by decide +kernel
theorem dX8_init_26 : decode cX8_init 26 = .ok (.getfield 15, 3) := by decide +kernel
theorem dX8_init_29 : decode cX8_init 29 = .ok (.arraylength, 1) := by decide +kernel
theorem dX8_init_30 : decode cX8_init 30 = .ok (.newarray .int, 2) := by decide +kernel
theorem dX8_init_32 : decode cX8_init 32 = .ok (.putfield 19, 3) := by decide +kernel
theorem dX8_init_35 : decode cX8_init 35 = .ok (.return_, 1) := by decide +kernel
theorem dX8_clear_0 : decode cX8_clear 0 = .ok (.aload_n 0, 1) := by decide +kernel
theorem dX8_clear_1 : decode cX8_clear 1 = .ok (.iconst 0, 1) := by decide +kernel
theorem dX8_clear_2 : decode cX8_clear 2 = .ok (.putfield 9, 3) := by decide +kernel
theorem dX8_clear_5 : decode cX8_clear 5 = .ok (.return_, 1) := by decide +kernel
theorem dX8_add_0 : decode cX8_add 0 = .ok (.aload_n 0, 1) := by decide +kernel
theorem dX8_add_1 : decode cX8_add 1 = .ok (.getfield 9, 3) := by decide +kernel
theorem dX8_add_4 : decode cX8_add 4 = .ok (.aload_n 0, 1) := by decide +kernel
theorem dX8_add_5 : decode cX8_add 5 = .ok (.getfield 15, 3) := by decide +kernel
theorem dX8_add_8 : decode cX8_add 8 = .ok (.arraylength, 1) := by decide +kernel
theorem dX8_add_9 : decode cX8_add 9 = .ok (.if_icmp .ge 23, 3) := by decide +kernel
theorem dX8_add_12 : decode cX8_add 12 = .ok (.aload_n 0, 1) := by decide +kernel
theorem dX8_add_13 : decode cX8_add 13 = .ok (.getfield 15, 3) := by decide +kernel
theorem dX8_add_16 : decode cX8_add 16 = .ok (.aload_n 0, 1) := by decide +kernel
theorem dX8_add_17 : decode cX8_add 17 = .ok (.getfield 9, 3) := by decide +kernel
theorem dX8_add_20 : decode cX8_add 20 = .ok (.iload_n 1, 1) := by decide +kernel
theorem dX8_add_21 : decode cX8_add 21 = .ok (.iastore, 1) := by decide +kernel
theorem dX8_add_22 : decode cX8_add 22 = .ok (.aload_n 0, 1) := by decide +kernel
theorem dX8_add_23 : decode cX8_add 23 = .ok (.dup, 1) := by decide +kernel
theorem dX8_add_24 : decode cX8_add 24 = .ok (.getfield 9, 3) := by decide +kernel
theorem dX8_add_27 : decode cX8_add 27 = .ok (.iconst 1, 1) := by decide +kernel
theorem dX8_add_28 : decode cX8_add 28 = .ok (.iadd, 1) := by decide +kernel
theorem dX8_add_29 : decode cX8_add 29 = .ok (.putfield 9, 3) := by decide +kernel
theorem dX8_add_32 : decode cX8_add 32 = .ok (.return_, 1) := by decide +kernel
theorem dX8_codeAt_0 : decode cX8_codeAt 0 = .ok (.iload_n 1, 1) := by decide +kernel
theorem dX8_codeAt_1 : decode cX8_codeAt 1 = .ok (.ifCond .lt 20, 3) := by decide +kernel
theorem dX8_codeAt_4 : decode cX8_codeAt 4 = .ok (.iload_n 1, 1) := by decide +kernel
theorem dX8_codeAt_5 : decode cX8_codeAt 5 = .ok (.aload_n 0, 1) := by decide +kernel
theorem dX8_codeAt_6 : decode cX8_codeAt 6 = .ok (.getfield 9, 3) := by decide +kernel
theorem dX8_codeAt_9 : decode cX8_codeAt 9 = .ok (.if_icmp .ge 12, 3) := by decide +kernel
theorem dX8_codeAt_12 : decode cX8_codeAt 12 = .ok (.aload_n 0, 1) := by decide +kernel
theorem dX8_codeAt_13 : decode cX8_codeAt 13 = .ok (.getfield 15, 3) := by decide +kernel
theorem dX8_codeAt_16 : decode cX8_codeAt 16 = .ok (.iload_n 1, 1) := by decide +kernel
theorem dX8_codeAt_17 : decode cX8_codeAt 17 = .ok (.iaload, 1) := by decide +kernel
theorem dX8_codeAt_18 : decode cX8_codeAt 18 = .ok (.goto 4, 3) := by decide +kernel
theorem dX8_codeAt_21 : decode cX8_codeAt 21 = .ok (.iconst (-1), 1) := by decide +kernel
theorem dX8_codeAt_22 : decode cX8_codeAt 22 = .ok (.ireturn, 1) := by decide +kernel
theorem dX8_kindAt_0 : decode cX8_kindAt 0 = .ok (.iload_n 1, 1) := by decide +kernel
theorem dX8_kindAt_1 : decode cX8_kindAt 1 = .ok (.ifCond .lt 24, 3) := by decide +kernel
theorem dX8_kindAt_4 : decode cX8_kindAt 4 = .ok (.iload_n 1, 1) := by decide +kernel
theorem dX8_kindAt_5 : decode cX8_kindAt 5 = .ok (.aload_n 0, 1) := by decide +kernel
theorem dX8_kindAt_6 : decode cX8_kindAt 6 = .ok (.getfield 9, 3) := by decide +kernel
theorem dX8_kindAt_9 : decode cX8_kindAt 9 = .ok (.if_icmp .ge 16, 3) := by decide +kernel
theorem dX8_kindAt_12 : decode cX8_kindAt 12 = .ok (.aload_n 0, 1) := by decide +kernel
theorem dX8_kindAt_13 : decode cX8_kindAt 13 = .ok (.getfield 15, 3) := by decide +kernel
theorem dX8_kindAt_16 : decode cX8_kindAt 16 = .ok (.iload_n 1, 1) := by decide +kernel
theorem dX8_kindAt_17 : decode cX8_kindAt 17 = .ok (.iaload, 1) := by decide +kernel
theorem dX8_kindAt_18 : decode cX8_kindAt 18 = .ok (.sipush 1000, 3) := by decide +kernel
theorem dX8_kindAt_21 : decode cX8_kindAt 21 = .ok (.idiv, 1) := by decide +kernel
theorem dX8_kindAt_22 : decode cX8_kindAt 22 = .ok (.goto 4, 3) := by decide +kernel
theorem dX8_kindAt_25 : decode cX8_kindAt 25 = .ok (.iconst (-1), 1) := by decide +kernel
theorem dX8_kindAt_26 : decode cX8_kindAt 26 = .ok (.ireturn, 1) := by decide +kernel
theorem dX8_valueAt_0 : decode cX8_valueAt 0 = .ok (.iload_n 1, 1) := by decide +kernel
theorem dX8_valueAt_1 : decode cX8_valueAt 1 = .ok (.ifCond .lt 24, 3) := by decide +kernel
theorem dX8_valueAt_4 : decode cX8_valueAt 4 = .ok (.iload_n 1, 1) := by decide +kernel
theorem dX8_valueAt_5 : decode cX8_valueAt 5 = .ok (.aload_n 0, 1) := by decide +kernel
theorem dX8_valueAt_6 : decode cX8_valueAt 6 = .ok (.getfield 9, 3) := by decide +kernel
theorem dX8_valueAt_9 : decode cX8_valueAt 9 = .ok (.if_icmp .ge 16, 3) := by decide +kernel
theorem dX8_valueAt_12 : decode cX8_valueAt 12 = .ok (.aload_n 0, 1) := by decide +kernel
theorem dX8_valueAt_13 : decode cX8_valueAt 13 = .ok (.getfield 15, 3) := by decide +kernel
theorem dX8_valueAt_16 : decode cX8_valueAt 16 = .ok (.iload_n 1, 1) := by decide +kernel
theorem dX8_valueAt_17 : decode cX8_valueAt 17 = .ok (.iaload, 1) := by decide +kernel
theorem dX8_valueAt_18 : decode cX8_valueAt 18 = .ok (.sipush 1000, 3) := by decide +kernel
theorem dX8_valueAt_21 : decode cX8_valueAt 21 = .ok (.irem, 1) := by decide +kernel
theorem dX8_valueAt_22 : decode cX8_valueAt 22 = .ok (.goto 4, 3) := by decide +kernel
theorem dX8_valueAt_25 : decode cX8_valueAt 25 = .ok (.iconst (-1), 1) := by decide +kernel
theorem dX8_valueAt_26 : decode cX8_valueAt 26 = .ok (.ireturn, 1) := by decide +kernel
theorem dX8_endAt_0 : decode cX8_endAt 0 = .ok (.iload_n 1, 1) := by decide +kernel
theorem dX8_endAt_1 : decode cX8_endAt 1 = .ok (.ifCond .lt 20, 3) := by decide +kernel
theorem dX8_endAt_4 : decode cX8_endAt 4 = .ok (.iload_n 1, 1) := by decide +kernel
theorem dX8_endAt_5 : decode cX8_endAt 5 = .ok (.aload_n 0, 1) := by decide +kernel
theorem dX8_endAt_6 : decode cX8_endAt 6 = .ok (.getfield 9, 3) := by decide +kernel
theorem dX8_endAt_9 : decode cX8_endAt 9 = .ok (.if_icmp .ge 12, 3) := by decide +kernel
theorem dX8_endAt_12 : decode cX8_endAt 12 = .ok (.aload_n 0, 1) := by decide +kernel
theorem dX8_endAt_13 : decode cX8_endAt 13 = .ok (.getfield 19, 3) := by decide +kernel
theorem dX8_endAt_16 : decode cX8_endAt 16 = .ok (.iload_n 1, 1) := by decide +kernel
theorem dX8_endAt_17 : decode cX8_endAt 17 = .ok (.iaload, 1) := by decide +kernel
theorem dX8_endAt_18 : decode cX8_endAt 18 = .ok (.goto 7, 3) := by decide +kernel
theorem dX8_endAt_21 : decode cX8_endAt 21 = .ok (.aload_n 0, 1) := by decide +kernel
theorem dX8_endAt_22 : decode cX8_endAt 22 = .ok (.getfield 9, 3) := by decide +kernel
theorem dX8_endAt_25 : decode cX8_endAt 25 = .ok (.ireturn, 1) := by decide +kernel
theorem dX8_startsPart_0 : decode cX8_startsPart 0 = .ok (.aload_n 0, 1) := by decide +kernel
theorem dX8_startsPart_1 : decode cX8_startsPart 1 = .ok (.iload_n 1, 1) := by decide +kernel
theorem dX8_startsPart_2 : decode cX8_startsPart 2 = .ok (.invokevirtual 22, 3) := by decide +kernel
theorem dX8_startsPart_5 : decode cX8_startsPart 5 = .ok (.istore_n 2, 1) := by decide +kernel
theorem dX8_startsPart_6 : decode cX8_startsPart 6 = .ok (.iload_n 2, 1) := by decide +kernel
theorem dX8_startsPart_7 : decode cX8_startsPart 7 = .ok (.iconst 5, 1) := by decide +kernel
theorem dX8_startsPart_8 : decode cX8_startsPart 8 = .ok (.if_icmp .eq 9, 3) := by decide +kernel
theorem dX8_startsPart_11 : decode cX8_startsPart 11 = .ok (.iload_n 2, 1) := by decide +kernel
theorem dX8_startsPart_12 : decode cX8_startsPart 12 = .ok (.bipush 6, 2) := by decide +kernel
theorem dX8_startsPart_14 : decode cX8_startsPart 14 = .ok (.if_icmp .ne 7, 3) := by decide +kernel
theorem dX8_startsPart_17 : decode cX8_startsPart 17 = .ok (.iconst 1, 1) := by decide +kernel
theorem dX8_startsPart_18 : decode cX8_startsPart 18 = .ok (.goto 4, 3) := by decide +kernel
theorem dX8_startsPart_21 : decode cX8_startsPart 21 = .ok (.iconst 0, 1) := by decide +kernel
theorem dX8_startsPart_22 : decode cX8_startsPart 22 = .ok (.ireturn, 1) := by decide +kernel
theorem dX8_isRedirect_0 : decode cX8_isRedirect 0 = .ok (.aload_n 0, 1) := by decide +kernel
theorem dX8_isRedirect_1 : decode cX8_isRedirect 1 = .ok (.iconst 0, 1) := by decide +kernel
theorem dX8_isRedirect_2 : decode cX8_isRedirect 2 = .ok (.invokevirtual 22, 3) := by decide +kernel
theorem dX8_isRedirect_5 : decode cX8_isRedirect 5 = .ok (.bipush 12, 2) := by decide +kernel
theorem dX8_isRedirect_7 : decode cX8_isRedirect 7 = .ok (.if_icmp .ne 7, 3) := by decide +kernel
theorem dX8_isRedirect_10 : decode cX8_isRedirect 10 = .ok (.iconst 1, 1) := by decide +kernel
theorem dX8_isRedirect_11 : decode cX8_isRedirect 11 = .ok (.goto 4, 3) := by decide +kernel
theorem dX8_isRedirect_14 : decode cX8_isRedirect 14 = .ok (.iconst 0, 1) := by decide +kernel
theorem dX8_isRedirect_15 : decode cX8_isRedirect 15 = .ok (.ireturn, 1) := by decide +kernel
theorem dX8_addStretch_0 : decode cX8_addStretch 0 = .ok (.iload_n 2, 1) := by decide +kernel
theorem dX8_addStretch_1 : decode cX8_addStretch 1 = .ok (.istore 4, 2) := by decide +kernel
theorem dX8_addStretch_3 : decode cX8_addStretch 3 = .ok (.iload 4, 2) := by decide +kernel
theorem dX8_addStretch_5 : decode cX8_addStretch 5 = .ok (.iload_n 3, 1) := by decide +kernel
theorem dX8_addStretch_6 : decode cX8_addStretch 6 = .ok (.if_icmp .ge 19, 3) := by decide +kernel
theorem dX8_addStretch_9 : decode cX8_addStretch 9 = .ok (.aload_n 0, 1) := by decide +kernel
theorem dX8_addStretch_10 : decode cX8_addStretch 10 = .ok (.aload_n 1, 1) := by decide +kernel
theorem dX8_addStretch_11 : decode cX8_addStretch 11 = .ok (.iload 4, 2) := by decide +kernel
theorem dX8_addStretch_13 : decode cX8_addStretch 13 = .ok (.invokevirtual 26, 3) := by decide +kernel
theorem dX8_addStretch_16 : decode cX8_addStretch 16 = .ok (.invokevirtual 29, 3) := by decide +kernel
theorem dX8_addStretch_19 : decode cX8_addStretch 19 = .ok (.iinc 4 1, 3) := by decide +kernel
theorem dX8_addStretch_22 : decode cX8_addStretch 22 = .ok (.goto (-19), 3) := by decide +kernel
theorem dX8_addStretch_25 : decode cX8_addStretch 25 = .ok (.return_, 1) := by decide +kernel
theorem dX8_addSection_0 : decode cX8_addSection 0 = .ok (.aload_n 0, 1) := by decide +kernel
theorem dX8_addSection_1 : decode cX8_addSection 1 = .ok (.aload_n 1, 1) := by decide +kernel
theorem dX8_addSection_2 : decode cX8_addSection 2 = .ok (.aload_n 1, 1) := by decide +kernel
theorem dX8_addSection_3 : decode cX8_addSection 3 = .ok (.iload_n 2, 1) := by decide +kernel
theorem dX8_addSection_4 : decode cX8_addSection 4 = .ok (.invokevirtual 33, 3) := by decide +kernel
theorem dX8_addSection_7 : decode cX8_addSection 7 = .ok (.aload_n 1, 1) := by decide +kernel
theorem dX8_addSection_8 : decode cX8_addSection 8 = .ok (.iload_n 2, 1) := by decide +kernel
theorem dX8_addSection_9 : decode cX8_addSection 9 = .ok (.iconst 1, 1) := by decide +kernel
theorem dX8_addSection_10 : decode cX8_addSection 10 = .ok (.iadd, 1) := by decide +kernel
theorem dX8_addSection_11 : decode cX8_addSection 11 = .ok (.invokevirtual 33, 3) := by decide +kernel
theorem dX8_addSection_14 : decode cX8_addSection 14 = .ok (.invokevirtual 36, 3) := by decide +kernel
theorem dX8_addSection_17 : decode cX8_addSection 17 = .ok (.return_, 1) := by decide +kernel
theorem dX8_sections_0 : decode cX8_sections 0 = .ok (.iconst 1, 1) := by decide +kernel
theorem dX8_sections_1 : decode cX8_sections 1 = .ok (.istore_n 1, 1) := by decide +kernel
theorem dX8_sections_2 : decode cX8_sections 2 = .ok (.iconst 0, 1) := by decide +kernel
theorem dX8_sections_3 : decode cX8_sections 3 = .ok (.istore_n 2, 1) := by decide +kernel
theorem dX8_sections_4 : decode cX8_sections 4 = .ok (.iload_n 2, 1) := by decide +kernel
theorem dX8_sections_5 : decode cX8_sections 5 = .ok (.aload_n 0, 1) := by decide +kernel
theorem dX8_sections_6 : decode cX8_sections 6 = .ok (.getfield 9, 3) := by decide +kernel
theorem dX8_sections_9 : decode cX8_sections 9 = .ok (.if_icmp .ge 22, 3) := by decide +kernel
theorem dX8_sections_12 : decode cX8_sections 12 = .ok (.aload_n 0, 1) := by decide +kernel
theorem dX8_sections_13 : decode cX8_sections 13 = .ok (.iload_n 2, 1) := by decide +kernel
theorem dX8_sections_14 : decode cX8_sections 14 = .ok (.invokevirtual 22, 3) := by decide +kernel
theorem dX8_sections_17 : decode cX8_sections 17 = .ok (.bipush 13, 2) := by decide +kernel
theorem dX8_sections_19 : decode cX8_sections 19 = .ok (.if_icmp .ne 6, 3) := by decide +kernel
theorem dX8_sections_22 : decode cX8_sections 22 = .ok (.iinc 1 1, 3) := by decide +kernel
theorem dX8_sections_25 : decode cX8_sections 25 = .ok (.iinc 2 1, 3) := by decide +kernel
theorem dX8_sections_28 : decode cX8_sections 28 = .ok (.goto (-24), 3) := by decide +kernel
theorem dX8_sections_31 : decode cX8_sections 31 = .ok (.iload_n 1, 1) := by decide +kernel
theorem dX8_sections_32 : decode cX8_sections 32 = .ok (.ireturn, 1) := by decide +kernel
theorem dX8_sectionStart_0 : decode cX8_sectionStart 0 = .ok (.iload_n 1, 1) := by decide +kernel
theorem dX8_sectionStart_1 : decode cX8_sectionStart 1 = .ok (.ifCond .gt 5, 3) := by decide +kernel
theorem dX8_sectionStart_4 : decode cX8_sectionStart 4 = .ok (.iconst 0, 1) := by decide +kernel
theorem dX8_sectionStart_5 : decode cX8_sectionStart 5 = .ok (.ireturn, 1) := by decide +kernel
theorem dX8_sectionStart_6 : decode cX8_sectionStart 6 = .ok (.iconst 0, 1) := by decide +kernel
theorem dX8_sectionStart_7 : decode cX8_sectionStart 7 = .ok (.istore_n 2, 1) := by decide +kernel
theorem dX8_sectionStart_8 : decode cX8_sectionStart 8 = .ok (.iconst 0, 1) := by decide +kernel
theorem dX8_sectionStart_9 : decode cX8_sectionStart 9 = .ok (.istore_n 3, 1) := by decide +kernel
theorem dX8_sectionStart_10 : decode cX8_sectionStart 10 = .ok (.iload_n 3, 1) := by decide +kernel
theorem dX8_sectionStart_11 : decode cX8_sectionStart 11 = .ok (.aload_n 0, 1) := by decide +kernel
theorem dX8_sectionStart_12 : decode cX8_sectionStart 12 = .ok (.getfield 9, 3) := by decide +kernel
theorem dX8_sectionStart_15 : decode cX8_sectionStart 15 = .ok (.if_icmp .ge 29, 3) := by decide +kernel
theorem dX8_sectionStart_18 : decode cX8_sectionStart 18 = .ok (.aload_n 0, 1) := by decide +kernel
theorem dX8_sectionStart_19 : decode cX8_sectionStart 19 = .ok (.iload_n 3, 1) := by decide +kernel
theorem dX8_sectionStart_20 : decode cX8_sectionStart 20 = .ok (.invokevirtual 22, 3) := by decide +kernel
theorem dX8_sectionStart_23 : decode cX8_sectionStart 23 = .ok (.bipush 13, 2) := by decide +kernel
theorem dX8_sectionStart_25 : decode cX8_sectionStart 25 = .ok (.if_icmp .ne 13, 3) := by decide +kernel
theorem dX8_sectionStart_28 : decode cX8_sectionStart 28 = .ok (.iinc 2 1, 3) := by decide +kernel
theorem dX8_sectionStart_31 : decode cX8_sectionStart 31 = .ok (.iload_n 2, 1) := by decide +kernel
theorem dX8_sectionStart_32 : decode cX8_sectionStart 32 = .ok (.iload_n 1, 1) := by decide +kernel
theorem dX8_sectionStart_33 : decode cX8_sectionStart 33 = .ok (.if_icmp .ne 5, 3) := by decide +kernel
theorem dX8_sectionStart_36 : decode cX8_sectionStart 36 = .ok (.iload_n 3, 1) := by decide +kernel
theorem dX8_sectionStart_37 : decode cX8_sectionStart 37 = .ok (.ireturn, 1) := by decide +kernel
theorem dX8_sectionStart_38 : decode cX8_sectionStart 38 = .ok (.iinc 3 1, 3) := by decide +kernel
theorem dX8_sectionStart_41 : decode cX8_sectionStart 41 = .ok (.goto (-31), 3) := by decide +kernel
theorem dX8_sectionStart_44 : decode cX8_sectionStart 44 = .ok (.aload_n 0, 1) := by decide +kernel
theorem dX8_sectionStart_45 : decode cX8_sectionStart 45 = .ok (.getfield 9, 3) := by decide +kernel
theorem dX8_sectionStart_48 : decode cX8_sectionStart 48 = .ok (.ireturn, 1) := by decide +kernel
theorem dX8_sameSection_0 : decode cX8_sameSection 0 = .ok (.aload_n 0, 1) := by decide +kernel
theorem dX8_sameSection_1 : decode cX8_sameSection 1 = .ok (.iload_n 2, 1) := by decide +kernel
theorem dX8_sameSection_2 : decode cX8_sameSection 2 = .ok (.invokevirtual 33, 3) := by decide +kernel
theorem dX8_sameSection_5 : decode cX8_sameSection 5 = .ok (.istore_n 3, 1) := by decide +kernel
theorem dX8_sameSection_6 : decode cX8_sameSection 6 = .ok (.aload_n 0, 1) := by decide +kernel
theorem dX8_sameSection_7 : decode cX8_sameSection 7 = .ok (.iload_n 2, 1) := by decide +kernel
theorem dX8_sameSection_8 : decode cX8_sameSection 8 = .ok (.iconst 1, 1) := by decide +kernel
theorem dX8_sameSection_9 : decode cX8_sameSection 9 = .ok (.iadd, 1) := by decide +kernel
theorem dX8_sameSection_10 : decode cX8_sameSection 10 = .ok (.invokevirtual 33, 3) := by decide +kernel
theorem dX8_sameSection_13 : decode cX8_sameSection 13 = .ok (.iload_n 3, 1) := by decide +kernel
theorem dX8_sameSection_14 : decode cX8_sameSection 14 = .ok (.isub, 1) := by decide +kernel
theorem dX8_sameSection_15 : decode cX8_sameSection 15 = .ok (.istore 4, 2) := by decide +kernel
theorem dX8_sameSection_17 : decode cX8_sameSection 17 = .ok (.aload_n 1, 1) := by decide +kernel
theorem dX8_sameSection_18 : decode cX8_sameSection 18 = .ok (.iload_n 2, 1) := by decide +kernel
theorem dX8_sameSection_19 : decode cX8_sameSection 19 = .ok (.invokevirtual 33, 3) := by decide +kernel
theorem dX8_sameSection_22 : decode cX8_sameSection 22 = .ok (.istore 5, 2) := by decide +kernel
theorem dX8_sameSection_24 : decode cX8_sameSection 24 = .ok (.aload_n 1, 1) := by decide +kernel
theorem dX8_sameSection_25 : decode cX8_sameSection 25 = .ok (.iload_n 2, 1) := by decide +kernel
theorem dX8_sameSection_26 : decode cX8_sameSection 26 = .ok (.iconst 1, 1) := by decide +kernel
theorem dX8_sameSection_27 : decode cX8_sameSection 27 = .ok (.iadd, 1) := by decide +kernel
theorem dX8_sameSection_28 : decode cX8_sameSection 28 = .ok (.invokevirtual 33, 3) := by decide +kernel
theorem dX8_sameSection_31 : decode cX8_sameSection 31 = .ok (.iload 5, 2) := by decide +kernel
theorem dX8_sameSection_33 : decode cX8_sameSection 33 = .ok (.isub, 1) := by decide +kernel
theorem dX8_sameSection_34 : decode cX8_sameSection 34 = .ok (.iload 4, 2) := by decide +kernel
theorem dX8_sameSection_36 : decode cX8_sameSection 36 = .ok (.if_icmp .eq 5, 3) := by decide +kernel
theorem dX8_sameSection_39 : decode cX8_sameSection 39 = .ok (.iconst 0, 1) := by decide +kernel
theorem dX8_sameSection_40 : decode cX8_sameSection 40 = .ok (.ireturn, 1) := by decide +kernel
theorem dX8_sameSection_41 : decode cX8_sameSection 41 = .ok (.iconst 0, 1) := by decide +kernel
theorem dX8_sameSection_42 : decode cX8_sameSection 42 = .ok (.istore 6, 2) := by decide +kernel
theorem dX8_sameSection_44 : decode cX8_sameSection 44 = .ok (.iload 6, 2) := by decide +kernel
theorem dX8_sameSection_46 : decode cX8_sameSection 46 = .ok (.iload 4, 2) := by decide +kernel
theorem dX8_sameSection_48 : decode cX8_sameSection 48 = .ok (.if_icmp .ge 31, 3) := by decide +kernel
theorem dX8_sameSection_51 : decode cX8_sameSection 51 = .ok (.aload_n 0, 1) := by decide +kernel
theorem dX8_sameSection_52 : decode cX8_sameSection 52 = .ok (.iload_n 3, 1) := by decide +kernel
theorem dX8_sameSection_53 : decode cX8_sameSection 53 = .ok (.iload 6, 2) := by decide +kernel
theorem dX8_sameSection_55 : decode cX8_sameSection 55 = .ok (.iadd, 1) := by decide +kernel
theorem dX8_sameSection_56 : decode cX8_sameSection 56 = .ok (.invokevirtual 26, 3) := by decide +kernel
theorem dX8_sameSection_59 : decode cX8_sameSection 59 = .ok (.aload_n 1, 1) := by decide +kernel
theorem dX8_sameSection_60 : decode cX8_sameSection 60 = .ok (.iload 5, 2) := by decide +kernel
theorem dX8_sameSection_62 : decode cX8_sameSection 62 = .ok (.iload 6, 2) := by decide +kernel
theorem dX8_sameSection_64 : decode cX8_sameSection 64 = .ok (.iadd, 1) := by decide +kernel
theorem dX8_sameSection_65 : decode cX8_sameSection 65 = .ok (.invokevirtual 26, 3) := by decide +kernel
theorem dX8_sameSection_68 : decode cX8_sameSection 68 = .ok (.if_icmp .eq 5, 3) := by decide +kernel
theorem dX8_sameSection_71 : decode cX8_sameSection 71 = .ok (.iconst 0, 1) := by decide +kernel
theorem dX8_sameSection_72 : decode cX8_sameSection 72 = .ok (.ireturn, 1) := by decide +kernel
theorem dX8_sameSection_73 : decode cX8_sameSection 73 = .ok (.iinc 6 1, 3) := by decide +kernel
theorem dX8_sameSection_76 : decode cX8_sameSection 76 = .ok (.goto (-32), 3) := by decide +kernel
theorem dX8_sameSection_79 : decode cX8_sameSection 79 = .ok (.iconst 1, 1) := by decide +kernel
theorem dX8_sameSection_80 : decode cX8_sameSection 80 = .ok (.ireturn, 1) := by decide +kernel
theorem dX8_sameAs_0 : decode cX8_sameAs 0 = .ok (.aload_n 1, 1) := by decide +kernel
theorem dX8_sameAs_1 : decode cX8_sameAs 1 = .ok (.getfield 9, 3) := by decide +kernel
theorem dX8_sameAs_4 : decode cX8_sameAs 4 = .ok (.aload_n 0, 1) := by decide +kernel
theorem dX8_sameAs_5 : decode cX8_sameAs 5 = .ok (.getfield 9, 3) := by decide +kernel
theorem dX8_sameAs_8 : decode cX8_sameAs 8 = .ok (.if_icmp .eq 5, 3) := by decide +kernel
theorem dX8_sameAs_11 : decode cX8_sameAs 11 = .ok (.iconst 0, 1) := by decide +kernel
theorem dX8_sameAs_12 : decode cX8_sameAs 12 = .ok (.ireturn, 1) := by decide +kernel
theorem dX8_sameAs_13 : decode cX8_sameAs 13 = .ok (.iconst 0, 1) := by decide +kernel
theorem dX8_sameAs_14 : decode cX8_sameAs 14 = .ok (.istore_n 2, 1) := by decide +kernel
theorem dX8_sameAs_15 : decode cX8_sameAs 15 = .ok (.iload_n 2, 1) := by decide +kernel
theorem dX8_sameAs_16 : decode cX8_sameAs 16 = .ok (.aload_n 0, 1) := by decide +kernel
theorem dX8_sameAs_17 : decode cX8_sameAs 17 = .ok (.getfield 9, 3) := by decide +kernel
theorem dX8_sameAs_20 : decode cX8_sameAs 20 = .ok (.if_icmp .ge 24, 3) := by decide +kernel
theorem dX8_sameAs_23 : decode cX8_sameAs 23 = .ok (.aload_n 0, 1) := by decide +kernel
theorem dX8_sameAs_24 : decode cX8_sameAs 24 = .ok (.iload_n 2, 1) := by decide +kernel
theorem dX8_sameAs_25 : decode cX8_sameAs 25 = .ok (.invokevirtual 26, 3) := by decide +kernel
theorem dX8_sameAs_28 : decode cX8_sameAs 28 = .ok (.aload_n 1, 1) := by decide +kernel
theorem dX8_sameAs_29 : decode cX8_sameAs 29 = .ok (.iload_n 2, 1) := by decide +kernel
theorem dX8_sameAs_30 : decode cX8_sameAs 30 = .ok (.invokevirtual 26, 3) := by decide +kernel
theorem dX8_sameAs_33 : decode cX8_sameAs 33 = .ok (.if_icmp .eq 5, 3) := by decide +kernel
theorem dX8_sameAs_36 : decode cX8_sameAs 36 = .ok (.iconst 0, 1) := by decide +kernel
theorem dX8_sameAs_37 : decode cX8_sameAs 37 = .ok (.ireturn, 1) := by decide +kernel
theorem dX8_sameAs_38 : decode cX8_sameAs 38 = .ok (.iinc 2 1, 3) := by decide +kernel
theorem dX8_sameAs_41 : decode cX8_sameAs 41 = .ok (.goto (-26), 3) := by decide +kernel
theorem dX8_sameAs_44 : decode cX8_sameAs 44 = .ok (.iconst 1, 1) := by decide +kernel
theorem dX8_sameAs_45 : decode cX8_sameAs 45 = .ok (.ireturn, 1) := by decide +kernel
theorem dX8_opens_0 : decode cX8_opens 0 = .ok (.iload_n 0, 1) := by decide +kernel
theorem dX8_opens_1 : decode cX8_opens 1 = .ok (.iconst 2, 1) := by decide +kernel
theorem dX8_opens_2 : decode cX8_opens 2 = .ok (.if_icmp .eq 31, 3) := by decide +kernel
theorem dX8_opens_5 : decode cX8_opens 5 = .ok (.iload_n 0, 1) := by decide +kernel
theorem dX8_opens_6 : decode cX8_opens 6 = .ok (.iconst 3, 1) := by decide +kernel
theorem dX8_opens_7 : decode cX8_opens 7 = .ok (.if_icmp .eq 26, 3) := by decide +kernel
theorem dX8_opens_10 : decode cX8_opens 10 = .ok (.iload_n 0, 1) := by decide +kernel
theorem dX8_opens_11 : decode cX8_opens 11 = .ok (.iconst 4, 1) := by decide +kernel
theorem dX8_opens_12 : decode cX8_opens 12 = .ok (.if_icmp .eq 21, 3) := by decide +kernel
theorem dX8_opens_15 : decode cX8_opens 15 = .ok (.iload_n 0, 1) := by decide +kernel
theorem dX8_opens_16 : decode cX8_opens 16 = .ok (.bipush 8, 2) := by decide +kernel
theorem dX8_opens_18 : decode cX8_opens 18 = .ok (.if_icmp .eq 15, 3) := by decide +kernel
theorem dX8_opens_21 : decode cX8_opens 21 = .ok (.iload_n 0, 1) := by decide +kernel
theorem dX8_opens_22 : decode cX8_opens 22 = .ok (.bipush 9, 2) := by decide +kernel
theorem dX8_opens_24 : decode cX8_opens 24 = .ok (.if_icmp .eq 9, 3) := by decide +kernel
theorem dX8_opens_27 : decode cX8_opens 27 = .ok (.iload_n 0, 1) := by decide +kernel
theorem dX8_opens_28 : decode cX8_opens 28 = .ok (.bipush 10, 2) := by decide +kernel
theorem dX8_opens_30 : decode cX8_opens 30 = .ok (.if_icmp .ne 7, 3) := by decide +kernel
theorem dX8_opens_33 : decode cX8_opens 33 = .ok (.iconst 1, 1) := by decide +kernel
theorem dX8_opens_34 : decode cX8_opens 34 = .ok (.goto 4, 3) := by decide +kernel
theorem dX8_opens_37 : decode cX8_opens 37 = .ok (.iconst 0, 1) := by decide +kernel
theorem dX8_opens_38 : decode cX8_opens 38 = .ok (.ireturn, 1) := by decide +kernel
theorem dX8_isText_0 : decode cX8_isText 0 = .ok (.aload_n 0, 1) := by decide +kernel
theorem dX8_isText_1 : decode cX8_isText 1 = .ok (.getfield 9, 3) := by decide +kernel
theorem dX8_isText_4 : decode cX8_isText 4 = .ok (.iconst 1, 1) := by decide +kernel
theorem dX8_isText_5 : decode cX8_isText 5 = .ok (.if_icmp .lt 12, 3) := by decide +kernel
theorem dX8_isText_8 : decode cX8_isText 8 = .ok (.aload_n 0, 1) := by decide +kernel
theorem dX8_isText_9 : decode cX8_isText 9 = .ok (.getfield 9, 3) := by decide +kernel
theorem dX8_isText_12 : decode cX8_isText 12 = .ok (.bipush 30, 2) := by decide +kernel
theorem dX8_isText_14 : decode cX8_isText 14 = .ok (.if_icmp .le 5, 3) := by decide +kernel
theorem dX8_isText_17 : decode cX8_isText 17 = .ok (.iconst 0, 1) := by decide +kernel
theorem dX8_isText_18 : decode cX8_isText 18 = .ok (.ireturn, 1) := by decide +kernel
theorem dX8_isText_19 : decode cX8_isText 19 = .ok (.bipush 31, 2) := by decide +kernel
theorem dX8_isText_21 : decode cX8_isText 21 = .ok (.newarray .int, 2) := by decide +kernel
theorem dX8_isText_23 : decode cX8_isText 23 = .ok (.astore_n 1, 1) := by decide +kernel
theorem dX8_isText_24 : decode cX8_isText 24 = .ok (.aload_n 1, 1) := by decide +kernel
theorem dX8_isText_25 : decode cX8_isText 25 = .ok (.iconst 0, 1) := by decide +kernel
theorem dX8_isText_26 : decode cX8_isText 26 = .ok (.iconst (-1), 1) := by decide +kernel
theorem dX8_isText_27 : decode cX8_isText 27 = .ok (.iastore, 1) := by decide +kernel
theorem dX8_isText_28 : decode cX8_isText 28 = .ok (.iconst 0, 1) := by decide +kernel
theorem dX8_isText_29 : decode cX8_isText 29 = .ok (.istore_n 2, 1) := by decide +kernel
