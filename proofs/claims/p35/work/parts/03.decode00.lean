theorem dX0_init_0 : decode cX0_init 0 = .ok (.aload_n 0, 1) := by decide +kernel
theorem dX0_init_1 : decode cX0_init 1 = .ok (.invokespecial 1, 3) := by decide +kernel
theorem dX0_init_4 : decode cX0_init 4 = .ok (.aload_n 0, 1) := by decide +kernel
theorem dX0_init_5 : decode cX0_init 5 = .ok (.iload_n 1, 1) := by decide +kernel
theorem dX0_init_6 : decode cX0_init 6 = .ok (.putfield 7, 3) := by decide +kernel
theorem dX0_init_9 : decode cX0_init 9 = .ok (.aload_n 0, 1) := by decide +kernel
theorem dX0_init_10 : decode cX0_init 10 = .ok (.aload_n 2, 1) := by decide +kernel
theorem dX0_init_11 : decode cX0_init 11 = .ok (.putfield 13, 3) := by decide +kernel
theorem dX0_init_14 : decode cX0_init 14 = .ok (.aload_n 0, 1) := by decide +kernel
theorem dX0_init_15 : decode cX0_init 15 = .ok (.aload_n 3, 1) := by decide +kernel
theorem dX0_init_16 : decode cX0_init 16 = .ok (.putfield 17, 3) := by decide +kernel
theorem dX0_init_19 : decode cX0_init 19 = .ok (.return_, 1) := by decide +kernel
theorem dX1_init_0 : decode cX1_init 0 = .ok (.aload_n 0, 1) := by decide +kernel
theorem dX1_init_1 : decode cX1_init 1 = .ok (.invokespecial 3, 3) := by decide +kernel
theorem dX1_init_4 : decode cX1_init 4 = .ok (.aload_n 0, 1) := by decide +kernel
theorem dX1_init_5 : decode cX1_init 5 = .ok (.bipush 24, 2) := by decide +kernel
theorem dX1_init_7 : decode cX1_init 7 = .ok (.anewarray 9, 3) := by decide +kernel
theorem dX1_init_10 : decode cX1_init 10 = .ok (.putfield 11, 3) := by decide +kernel
theorem dX1_init_13 : decode cX1_init 13 = .ok (.aload_n 0, 1) := by decide +kernel
theorem dX1_init_14 : decode cX1_init 14 = .ok (.iconst 4, 1) := by decide +kernel
theorem dX1_init_15 : decode cX1_init 15 = .ok (.anewarray 17, 3) := by decide +kernel
theorem dX1_init_18 : decode cX1_init 18 = .ok (.putfield 19, 3) := by decide +kernel
theorem dX1_init_21 : decode cX1_init 21 = .ok (.aload_n 0, 1) := by decide +kernel
theorem dX1_init_22 : decode cX1_init 22 = .ok (.bipush 41, 2) := by decide +kernel
theorem dX1_init_24 : decode cX1_init 24 = .ok (.anewarray 23, 3) := by decide +kernel
theorem dX1_init_27 : decode cX1_init 27 = .ok (.putfield 25, 3) := by decide +kernel
theorem dX1_init_30 : decode cX1_init 30 = .ok (.aload_n 0, 1) := by decide +kernel
theorem dX1_init_31 : decode cX1_init 31 = .ok (.sipush 512, 3) := by decide +kernel
theorem dX1_init_34 : decode cX1_init 34 = .ok (.anewarray 29, 3) := by decide +kernel
theorem dX1_init_37 : decode cX1_init 37 = .ok (.putfield 31, 3) := by decide +kernel
theorem dX1_init_40 : decode cX1_init 40 = .ok (.aload_n 0, 1) := by decide +kernel
theorem dX1_init_41 : decode cX1_init 41 = .ok (.new 35, 3) := by decide +kernel
theorem dX1_init_44 : decode cX1_init 44 = .ok (.dup, 1) := by decide +kernel
theorem dX1_init_45 : decode cX1_init 45 = .ok (.invokespecial 37, 3) := by decide +kernel
theorem dX1_init_48 : decode cX1_init 48 = .ok (.putfield 38, 3) := by decide +kernel
theorem dX1_init_51 : decode cX1_init 51 = .ok (.aload_n 0, 1) := by decide +kernel
theorem dX1_init_52 : decode cX1_init 52 = .ok (.bipush 8, 2) := by decide +kernel
theorem dX1_init_54 : decode cX1_init 54 = .ok (.newarray .int, 2) := by decide +kernel
theorem dX1_init_56 : decode cX1_init 56 = .ok (.putfield 42, 3) := by decide +kernel
theorem dX1_init_59 : decode cX1_init 59 = .ok (.aload_n 0, 1) := by decide +kernel
theorem dX1_init_60 : decode cX1_init 60 = .ok (.bipush 30, 2) := by decide +kernel
theorem dX1_init_62 : decode cX1_init 62 = .ok (.newarray .int, 2) := by decide +kernel
theorem dX1_init_64 : decode cX1_init 64 = .ok (.putfield 46, 3) := by decide +kernel
theorem dX1_init_67 : decode cX1_init 67 = .ok (.aload_n 0, 1) := by decide +kernel
theorem dX1_init_68 : decode cX1_init 68 = .ok (.new 49, 3) := by decide +kernel
theorem dX1_init_71 : decode cX1_init 71 = .ok (.dup, 1) := by decide +kernel
theorem dX1_init_72 : decode cX1_init 72 = .ok (.invokespecial 51, 3) := by decide +kernel
theorem dX1_init_75 : decode cX1_init 75 = .ok (.putfield 52, 3) := by decide +kernel
theorem dX1_init_78 : decode cX1_init 78 = .ok (.aload_n 0, 1) := by decide +kernel
theorem dX1_init_79 : decode cX1_init 79 = .ok (.iconst 0, 1) := by decide +kernel
theorem dX1_init_80 : decode cX1_init 80 = .ok (.putfield 56, 3) := by decide +kernel
theorem dX1_init_83 : decode cX1_init 83 = .ok (.aload_n 0, 1) := by decide +kernel
theorem dX1_init_84 : decode cX1_init 84 = .ok (.iconst 0, 1) := by decide +kernel
theorem dX1_init_85 : decode cX1_init 85 = .ok (.putfield 60, 3) := by decide +kernel
theorem dX1_init_88 : decode cX1_init 88 = .ok (.aload_n 0, 1) := by decide +kernel
theorem dX1_init_89 : decode cX1_init 89 = .ok (.iconst 0, 1) := by decide +kernel
theorem dX1_init_90 : decode cX1_init 90 = .ok (.putfield 63, 3) := by decide +kernel
theorem dX1_init_93 : decode cX1_init 93 = .ok (.aload_n 0, 1) := by decide +kernel
theorem dX1_init_94 : decode cX1_init 94 = .ok (.iconst (-1), 1) := by decide +kernel
theorem dX1_init_95 : decode cX1_init 95 = .ok (.putfield 66, 3) := by decide +kernel
theorem dX1_init_98 : decode cX1_init 98 = .ok (.aload_n 0, 1) := by decide +kernel
theorem dX1_init_99 : decode cX1_init 99 = .ok (.iconst 0, 1) := by decide +kernel
theorem dX1_init_100 : decode cX1_init 100 = .ok (.putfield 69, 3) := by decide +kernel
theorem dX1_init_103 : decode cX1_init 103 = .ok (.aload_n 0, 1) := by decide +kernel
theorem dX1_init_104 : decode cX1_init 104 = .ok (.iconst 0, 1) := by decide +kernel
theorem dX1_init_105 : decode cX1_init 105 = .ok (.putfield 72, 3) := by decide +kernel
theorem dX1_init_108 : decode cX1_init 108 = .ok (.aload_n 0, 1) := by decide +kernel
theorem dX1_init_109 : decode cX1_init 109 = .ok (.iconst (-1), 1) := by decide +kernel
theorem dX1_init_110 : decode cX1_init 110 = .ok (.putfield 75, 3) := by decide +kernel
theorem dX1_init_113 : decode cX1_init 113 = .ok (.iconst 0, 1) := by decide +kernel
theorem dX1_init_114 : decode cX1_init 114 = .ok (.istore_n 1, 1) := by decide +kernel
theorem dX1_init_115 : decode cX1_init 115 = .ok (.iload_n 1, 1) := by decide +kernel
theorem dX1_init_116 : decode cX1_init 116 = .ok (.aload_n 0, 1) := by decide +kernel
theorem dX1_init_117 : decode cX1_init 117 = .ok (.getfield 11, 3) := by decide +kernel
theorem dX1_init_120 : decode cX1_init 120 = .ok (.arraylength, 1) := by decide +kernel
theorem dX1_init_121 : decode cX1_init 121 = .ok (.if_icmp .ge 22, 3) := by decide +kernel
theorem dX1_init_124 : decode cX1_init 124 = .ok (.aload_n 0, 1) := by decide +kernel
theorem dX1_init_125 : decode cX1_init 125 = .ok (.getfield 11, 3) := by decide +kernel
theorem dX1_init_128 : decode cX1_init 128 = .ok (.iload_n 1, 1) := by decide +kernel
theorem dX1_init_129 : decode cX1_init 129 = .ok (.new 9, 3) := by decide +kernel
theorem dX1_init_132 : decode cX1_init 132 = .ok (.dup, 1) := by decide +kernel
theorem dX1_init_133 : decode cX1_init 133 = .ok (.invokespecial 78, 3) := by decide +kernel
theorem dX1_init_136 : decode cX1_init 136 = .ok (.aastore, 1) := by decide +kernel
theorem dX1_init_137 : decode cX1_init 137 = .ok (.iinc 1 1, 3) := by decide +kernel
theorem dX1_init_140 : decode cX1_init 140 = .ok (.goto (-25), 3) := by decide +kernel
theorem dX1_init_143 : decode cX1_init 143 = .ok (.iconst 0, 1) := by decide +kernel
theorem dX1_init_144 : decode cX1_init 144 = .ok (.istore_n 1, 1) := by decide +kernel
theorem dX1_init_145 : decode cX1_init 145 = .ok (.iload_n 1, 1) := by decide +kernel
theorem dX1_init_146 : decode cX1_init 146 = .ok (.aload_n 0, 1) := by decide +kernel
theorem dX1_init_147 : decode cX1_init 147 = .ok (.getfield 19, 3) := by decide +kernel
theorem dX1_init_150 : decode cX1_init 150 = .ok (.arraylength, 1) := by decide +kernel
theorem dX1_init_151 : decode cX1_init 151 = .ok (.if_icmp .ge 22, 3) := by decide +kernel
theorem dX1_init_154 : decode cX1_init 154 = .ok (.aload_n 0, 1) := by decide +kernel
theorem dX1_init_155 : decode cX1_init 155 = .ok (.getfield 19, 3) := by decide +kernel
theorem dX1_init_158 : decode cX1_init 158 = .ok (.iload_n 1, 1) := by decide +kernel
theorem dX1_init_159 : decode cX1_init 159 = .ok (.new 17, 3) := by decide +kernel
theorem dX1_init_162 : decode cX1_init 162 = .ok (.dup, 1) := by decide +kernel
theorem dX1_init_163 : decode cX1_init 163 = .ok (.invokespecial 79, 3) := by decide +kernel
theorem dX1_init_166 : decode cX1_init 166 = .ok (.aastore, 1) := by decide +kernel
theorem dX1_init_167 : decode cX1_init 167 = .ok (.iinc 1 1, 3) := by decide +kernel
theorem dX1_init_170 : decode cX1_init 170 = .ok (.goto (-25), 3) := by decide +kernel
theorem dX1_init_173 : decode cX1_init 173 = .ok (.iconst 0, 1) := by decide +kernel
theorem dX1_init_174 : decode cX1_init 174 = .ok (.istore_n 1, 1) := by decide +kernel
theorem dX1_init_175 : decode cX1_init 175 = .ok (.iload_n 1, 1) := by decide +kernel
theorem dX1_init_176 : decode cX1_init 176 = .ok (.aload_n 0, 1) := by decide +kernel
theorem dX1_init_177 : decode cX1_init 177 = .ok (.getfield 25, 3) := by decide +kernel
theorem dX1_init_180 : decode cX1_init 180 = .ok (.arraylength, 1) := by decide +kernel
theorem dX1_init_181 : decode cX1_init 181 = .ok (.if_icmp .ge 22, 3) := by decide +kernel
theorem dX1_init_184 : decode cX1_init 184 = .ok (.aload_n 0, 1) := by decide +kernel
theorem dX1_init_185 : decode cX1_init 185 = .ok (.getfield 25, 3) := by decide +kernel
theorem dX1_init_188 : decode cX1_init 188 = .ok (.iload_n 1, 1) := by decide +kernel
theorem dX1_init_189 : decode cX1_init 189 = .ok (.new 23, 3) := by decide +kernel
theorem dX1_init_192 : decode cX1_init 192 = .ok (.dup, 1) := by decide +kernel
theorem dX1_init_193 : decode cX1_init 193 = .ok (.invokespecial 80, 3) := by decide +kernel
theorem dX1_init_196 : decode cX1_init 196 = .ok (.aastore, 1) := by decide +kernel
theorem dX1_init_197 : decode cX1_init 197 = .ok (.iinc 1 1, 3) := by decide +kernel
theorem dX1_init_200 : decode cX1_init 200 = .ok (.goto (-25), 3) := by decide +kernel
theorem dX1_init_203 : decode cX1_init 203 = .ok (.iconst 0, 1) := by decide +kernel
theorem dX1_init_204 : decode cX1_init 204 = .ok (.istore_n 1, 1) := by decide +kernel
theorem dX1_init_205 : decode cX1_init 205 = .ok (.iload_n 1, 1) := by decide +kernel
theorem dX1_init_206 : decode cX1_init 206 = .ok (.aload_n 0, 1) := by decide +kernel
theorem dX1_init_207 : decode cX1_init 207 = .ok (.getfield 31, 3) := by decide +kernel
theorem dX1_init_210 : decode cX1_init 210 = .ok (.arraylength, 1) := by decide +kernel
theorem dX1_init_211 : decode cX1_init 211 = .ok (.if_icmp .ge 22, 3) := by decide +kernel
theorem dX1_init_214 : decode cX1_init 214 = .ok (.aload_n 0, 1) := by decide +kernel
theorem dX1_init_215 : decode cX1_init 215 = .ok (.getfield 31, 3) := by decide +kernel
theorem dX1_init_218 : decode cX1_init 218 = .ok (.iload_n 1, 1) := by decide +kernel
theorem dX1_init_219 : decode cX1_init 219 = .ok (.new 29, 3) := by decide +kernel
theorem dX1_init_222 : decode cX1_init 222 = .ok (.dup, 1) := by decide +kernel
theorem dX1_init_223 : decode cX1_init 223 = .ok (.invokespecial 81, 3) := by decide +kernel
theorem dX1_init_226 : decode cX1_init 226 = .ok (.aastore, 1) := by decide +kernel
theorem dX1_init_227 : decode cX1_init 227 = .ok (.iinc 1 1, 3) := by decide +kernel
theorem dX1_init_230 : decode cX1_init 230 = .ok (.goto (-25), 3) := by decide +kernel
theorem dX1_init_233 : decode cX1_init 233 = .ok (.return_, 1) := by decide +kernel
theorem dX1_expand_0 : decode cX1_expand 0 = .ok (.aload_n 0, 1) := by decide +kernel
theorem dX1_expand_1 : decode cX1_expand 1 = .ok (.getfield 52, 3) := by decide +kernel
theorem dX1_expand_4 : decode cX1_expand 4 = .ok (.invokevirtual 82, 3) := by decide +kernel
theorem dX1_expand_7 : decode cX1_expand 7 = .ok (.aload_n 0, 1) := by decide +kernel
theorem dX1_expand_8 : decode cX1_expand 8 = .ok (.iconst 0, 1) := by decide +kernel
theorem dX1_expand_9 : decode cX1_expand 9 = .ok (.putfield 56, 3) := by decide +kernel
theorem dX1_expand_12 : decode cX1_expand 12 = .ok (.aload_n 0, 1) := by decide +kernel
theorem dX1_expand_13 : decode cX1_expand 13 = .ok (.iconst 0, 1) := by decide +kernel
theorem dX1_expand_14 : decode cX1_expand 14 = .ok (.putfield 60, 3) := by decide +kernel
theorem dX1_expand_17 : decode cX1_expand 17 = .ok (.aload_n 0, 1) := by decide +kernel
theorem dX1_expand_18 : decode cX1_expand 18 = .ok (.iconst 0, 1) := by decide +kernel
theorem dX1_expand_19 : decode cX1_expand 19 = .ok (.putfield 63, 3) := by decide +kernel
theorem dX1_expand_22 : decode cX1_expand 22 = .ok (.aload_n 0, 1) := by decide +kernel
theorem dX1_expand_23 : decode cX1_expand 23 = .ok (.iload_n 3, 1) := by decide +kernel
theorem dX1_expand_24 : decode cX1_expand 24 = .ok (.putfield 66, 3) := by decide +kernel
theorem dX1_expand_27 : decode cX1_expand 27 = .ok (.aload_n 0, 1) := by decide +kernel
theorem dX1_expand_28 : decode cX1_expand 28 = .ok (.iload_n 1, 1) := by decide +kernel
theorem dX1_expand_29 : decode cX1_expand 29 = .ok (.aload_n 2, 1) := by decide +kernel
theorem dX1_expand_30 : decode cX1_expand 30 = .ok (.aconst_null, 1) := by decide +kernel
theorem dX1_expand_31 : decode cX1_expand 31 = .ok (.aload_n 0, 1) := by decide +kernel
theorem dX1_expand_32 : decode cX1_expand 32 = .ok (.getfield 52, 3) := by decide +kernel
theorem dX1_expand_35 : decode cX1_expand 35 = .ok (.getfield 85, 3) := by decide +kernel
theorem dX1_expand_38 : decode cX1_expand 38 = .ok (.invokevirtual 88, 3) := by decide +kernel
theorem dX1_expand_41 : decode cX1_expand 41 = .ok (.pop, 1) := by decide +kernel
theorem dX1_expand_42 : decode cX1_expand 42 = .ok (.iconst 0, 1) := by decide +kernel
theorem dX1_expand_43 : decode cX1_expand 43 = .ok (.istore 4, 2) := by decide +kernel
theorem dX1_expand_45 : decode cX1_expand 45 = .ok (.iload 4, 2) := by decide +kernel
theorem dX1_expand_47 : decode cX1_expand 47 = .ok (.ldc 92, 2) := by decide +kernel
theorem dX1_expand_49 : decode cX1_expand 49 = .ok (.if_icmp .ge 61, 3) := by decide +kernel
theorem dX1_expand_52 : decode cX1_expand 52 = .ok (.aload_n 0, 1) := by decide +kernel
theorem dX1_expand_53 : decode cX1_expand 53 = .ok (.getfield 60, 3) := by decide +kernel
theorem dX1_expand_56 : decode cX1_expand 56 = .ok (.ifCond .le 54, 3) := by decide +kernel
theorem dX1_expand_59 : decode cX1_expand 59 = .ok (.aload_n 0, 1) := by decide +kernel
theorem dX1_expand_60 : decode cX1_expand 60 = .ok (.getfield 31, 3) := by decide +kernel
theorem dX1_expand_63 : decode cX1_expand 63 = .ok (.aload_n 0, 1) := by decide +kernel
theorem dX1_expand_64 : decode cX1_expand 64 = .ok (.getfield 60, 3) := by decide +kernel
theorem dX1_expand_67 : decode cX1_expand 67 = .ok (.iconst 1, 1) := by decide +kernel
theorem dX1_expand_68 : decode cX1_expand 68 = .ok (.isub, 1) := by decide +kernel
theorem dX1_expand_69 : decode cX1_expand 69 = .ok (.aaload, 1) := by decide +kernel
theorem dX1_expand_70 : decode cX1_expand 70 = .ok (.astore 5, 2) := by decide +kernel
theorem dX1_expand_72 : decode cX1_expand 72 = .ok (.aload 5, 2) := by decide +kernel
theorem dX1_expand_74 : decode cX1_expand 74 = .ok (.getfield 93, 3) := by decide +kernel
theorem dX1_expand_77 : decode cX1_expand 77 = .ok (.aload 5, 2) := by decide +kernel
theorem dX1_expand_79 : decode cX1_expand 79 = .ok (.getfield 96, 3) := by decide +kernel
theorem dX1_expand_82 : decode cX1_expand 82 = .ok (.if_icmp .lt 16, 3) := by decide +kernel
theorem dX1_expand_85 : decode cX1_expand 85 = .ok (.aload_n 0, 1) := by decide +kernel
theorem dX1_expand_86 : decode cX1_expand 86 = .ok (.dup, 1) := by decide +kernel
theorem dX1_expand_87 : decode cX1_expand 87 = .ok (.getfield 60, 3) := by decide +kernel
theorem dX1_expand_90 : decode cX1_expand 90 = .ok (.iconst 1, 1) := by decide +kernel
theorem dX1_expand_91 : decode cX1_expand 91 = .ok (.isub, 1) := by decide +kernel
theorem dX1_expand_92 : decode cX1_expand 92 = .ok (.putfield 60, 3) := by decide +kernel
theorem dX1_expand_95 : decode cX1_expand 95 = .ok (.goto 9, 3) := by decide +kernel
theorem dX1_expand_98 : decode cX1_expand 98 = .ok (.aload_n 0, 1) := by decide +kernel
theorem dX1_expand_99 : decode cX1_expand 99 = .ok (.aload 5, 2) := by decide +kernel
theorem dX1_expand_101 : decode cX1_expand 101 = .ok (.invokevirtual 99, 3) := by decide +kernel
theorem dX1_expand_104 : decode cX1_expand 104 = .ok (.iinc 4 1, 3) := by decide +kernel
theorem dX1_expand_107 : decode cX1_expand 107 = .ok (.goto (-62), 3) := by decide +kernel
theorem dX1_expand_110 : decode cX1_expand 110 = .ok (.return_, 1) := by decide +kernel
theorem dX1_openFrame_0 : decode cX1_openFrame 0 = .ok (.aload_n 0, 1) := by decide +kernel
theorem dX1_openFrame_1 : decode cX1_openFrame 1 = .ok (.getfield 56, 3) := by decide +kernel
theorem dX1_openFrame_4 : decode cX1_openFrame 4 = .ok (.aload_n 0, 1) := by decide +kernel
theorem dX1_openFrame_5 : decode cX1_openFrame 5 = .ok (.getfield 25, 3) := by decide +kernel
theorem dX1_openFrame_8 : decode cX1_openFrame 8 = .ok (.arraylength, 1) := by decide +kernel
theorem dX1_openFrame_9 : decode cX1_openFrame 9 = .ok (.if_icmp .ge 7, 3) := by decide +kernel
theorem dX1_openFrame_12 : decode cX1_openFrame 12 = .ok (.aload_n 2, 1) := by decide +kernel
theorem dX1_openFrame_13 : decode cX1_openFrame 13 = .ok (.ifnonnull 5, 3) := by decide +kernel
theorem dX1_openFrame_16 : decode cX1_openFrame 16 = .ok (.aconst_null, 1) := by decide +kernel
theorem dX1_openFrame_17 : decode cX1_openFrame 17 = .ok (.areturn, 1) := by decide +kernel
theorem dX1_openFrame_18 : decode cX1_openFrame 18 = .ok (.aload_n 0, 1) := by decide +kernel
theorem dX1_openFrame_19 : decode cX1_openFrame 19 = .ok (.getfield 25, 3) := by decide +kernel
theorem dX1_openFrame_22 : decode cX1_openFrame 22 = .ok (.aload_n 0, 1) := by decide +kernel
theorem dX1_openFrame_23 : decode cX1_openFrame 23 = .ok (.getfield 56, 3) := by decide +kernel
theorem dX1_openFrame_26 : decode cX1_openFrame 26 = .ok (.aaload, 1) := by decide +kernel
theorem dX1_openFrame_27 : decode cX1_openFrame 27 = .ok (.astore 5, 2) := by decide +kernel
theorem dX1_openFrame_29 : decode cX1_openFrame 29 = .ok (.aload_n 0, 1) := by decide +kernel
theorem dX1_openFrame_30 : decode cX1_openFrame 30 = .ok (.dup, 1) := by decide +kernel
theorem dX1_openFrame_31 : decode cX1_openFrame 31 = .ok (.getfield 56, 3) := by decide +kernel
theorem dX1_openFrame_34 : decode cX1_openFrame 34 = .ok (.iconst 1, 1) := by decide +kernel
theorem dX1_openFrame_35 : decode cX1_openFrame 35 = .ok (.iadd, 1) := by decide +kernel
theorem dX1_openFrame_36 : decode cX1_openFrame 36 = .ok (.putfield 56, 3) := by decide +kernel
theorem dX1_openFrame_39 : decode cX1_openFrame 39 = .ok (.aload 5, 2) := by decide +kernel
theorem dX1_openFrame_41 : decode cX1_openFrame 41 = .ok (.iload_n 1, 1) := by decide +kernel
theorem dX1_openFrame_42 : decode cX1_openFrame 42 = .ok (.aload_n 2, 1) := by decide +kernel
theorem dX1_openFrame_43 : decode cX1_openFrame 43 = .ok (.aload_n 3, 1) := by decide +kernel
theorem dX1_openFrame_44 : decode cX1_openFrame 44 = .ok (.invokevirtual 103, 3) := by decide +kernel
theorem dX1_openFrame_47 : decode cX1_openFrame 47 = .ok (.aload_n 0, 1) := by decide +kernel
theorem dX1_openFrame_48 : decode cX1_openFrame 48 = .ok (.aload 5, 2) := by decide +kernel
theorem dX1_openFrame_50 : decode cX1_openFrame 50 = .ok (.iconst 0, 1) := by decide +kernel
theorem dX1_openFrame_51 : decode cX1_openFrame 51 = .ok (.aload_n 2, 1) := by decide +kernel
theorem dX1_openFrame_52 : decode cX1_openFrame 52 = .ok (.getfield 107, 3) := by decide +kernel
theorem dX1_openFrame_55 : decode cX1_openFrame 55 = .ok (.aload 4, 2) := by decide +kernel
theorem dX1_openFrame_57 : decode cX1_openFrame 57 = .ok (.invokevirtual 112, 3) := by decide +kernel
theorem dX1_openFrame_60 : decode cX1_openFrame 60 = .ok (.aload 5, 2) := by decide +kernel
theorem dX1_openFrame_62 : decode cX1_openFrame 62 = .ok (.areturn, 1) := by decide +kernel
theorem dX1_openRun_0 : decode cX1_openRun 0 = .ok (.aload_n 0, 1) := by decide +kernel
theorem dX1_openRun_1 : decode cX1_openRun 1 = .ok (.getfield 60, 3) := by decide +kernel
theorem dX1_openRun_4 : decode cX1_openRun 4 = .ok (.aload_n 0, 1) := by decide +kernel
theorem dX1_openRun_5 : decode cX1_openRun 5 = .ok (.getfield 31, 3) := by decide +kernel
theorem dX1_openRun_8 : decode cX1_openRun 8 = .ok (.arraylength, 1) := by decide +kernel
theorem dX1_openRun_9 : decode cX1_openRun 9 = .ok (.if_icmp .ge 49, 3) := by decide +kernel
theorem dX1_openRun_12 : decode cX1_openRun 12 = .ok (.aload_n 0, 1) := by decide +kernel
theorem dX1_openRun_13 : decode cX1_openRun 13 = .ok (.getfield 31, 3) := by decide +kernel
theorem dX1_openRun_16 : decode cX1_openRun 16 = .ok (.aload_n 0, 1) := by decide +kernel
theorem dX1_openRun_17 : decode cX1_openRun 17 = .ok (.getfield 60, 3) := by decide +kernel
theorem dX1_openRun_20 : decode cX1_openRun 20 = .ok (.aaload, 1) := by decide +kernel
theorem dX1_openRun_21 : decode cX1_openRun 21 = .ok (.astore 5, 2) := by decide +kernel
theorem dX1_openRun_23 : decode cX1_openRun 23 = .ok (.aload_n 0, 1) := by decide +kernel
theorem dX1_openRun_24 : decode cX1_openRun 24 = .ok (.dup, 1) := by decide +kernel
theorem dX1_openRun_25 : decode cX1_openRun 25 = .ok (.getfield 60, 3) := by decide +kernel
theorem dX1_openRun_28 : decode cX1_openRun 28 = .ok (.iconst 1, 1) := by decide +kernel
theorem dX1_openRun_29 : decode cX1_openRun 29 = .ok (.iadd, 1) := by decide +kernel
theorem dX1_openRun_30 : decode cX1_openRun 30 = .ok (.putfield 60, 3) := by decide +kernel
theorem dX1_openRun_33 : decode cX1_openRun 33 = .ok (.aload 5, 2) := by decide +kernel
theorem dX1_openRun_35 : decode cX1_openRun 35 = .ok (.aload_n 1, 1) := by decide +kernel
theorem dX1_openRun_36 : decode cX1_openRun 36 = .ok (.putfield 116, 3) := by decide +kernel
theorem dX1_openRun_39 : decode cX1_openRun 39 = .ok (.aload 5, 2) := by decide +kernel
theorem dX1_openRun_41 : decode cX1_openRun 41 = .ok (.iload_n 2, 1) := by decide +kernel
theorem dX1_openRun_42 : decode cX1_openRun 42 = .ok (.putfield 93, 3) := by decide +kernel
theorem dX1_openRun_45 : decode cX1_openRun 45 = .ok (.aload 5, 2) := by decide +kernel
theorem dX1_openRun_47 : decode cX1_openRun 47 = .ok (.iload_n 3, 1) := by decide +kernel
theorem dX1_openRun_48 : decode cX1_openRun 48 = .ok (.putfield 96, 3) := by decide +kernel
theorem dX1_openRun_51 : decode cX1_openRun 51 = .ok (.aload 5, 2) := by decide +kernel
theorem dX1_openRun_53 : decode cX1_openRun 53 = .ok (.aload 4, 2) := by decide +kernel
theorem dX1_openRun_55 : decode cX1_openRun 55 = .ok (.putfield 120, 3) := by decide +kernel
theorem dX1_openRun_58 : decode cX1_openRun 58 = .ok (.return_, 1) := by decide +kernel
theorem dX1_stepOn_0 : decode cX1_stepOn 0 = .ok (.aload_n 1, 1) := by decide +kernel
theorem dX1_stepOn_1 : decode cX1_stepOn 1 = .ok (.getfield 116, 3) := by decide +kernel
theorem dX1_stepOn_4 : decode cX1_stepOn 4 = .ok (.getfield 121, 3) := by decide +kernel
theorem dX1_stepOn_7 : decode cX1_stepOn 7 = .ok (.astore_n 2, 1) := by decide +kernel
theorem dX1_stepOn_8 : decode cX1_stepOn 8 = .ok (.aload_n 1, 1) := by decide +kernel
theorem dX1_stepOn_9 : decode cX1_stepOn 9 = .ok (.getfield 93, 3) := by decide +kernel
theorem dX1_stepOn_12 : decode cX1_stepOn 12 = .ok (.istore_n 3, 1) := by decide +kernel
theorem dX1_stepOn_13 : decode cX1_stepOn 13 = .ok (.aload_n 2, 1) := by decide +kernel
theorem dX1_stepOn_14 : decode cX1_stepOn 14 = .ok (.iload_n 3, 1) := by decide +kernel
theorem dX1_stepOn_15 : decode cX1_stepOn 15 = .ok (.invokevirtual 125, 3) := by decide +kernel
theorem dX1_stepOn_18 : decode cX1_stepOn 18 = .ok (.istore 4, 2) := by decide +kernel
theorem dX1_stepOn_20 : decode cX1_stepOn 20 = .ok (.aload_n 2, 1) := by decide +kernel
theorem dX1_stepOn_21 : decode cX1_stepOn 21 = .ok (.iload_n 3, 1) := by decide +kernel
theorem dX1_stepOn_22 : decode cX1_stepOn 22 = .ok (.invokevirtual 129, 3) := by decide +kernel
theorem dX1_stepOn_25 : decode cX1_stepOn 25 = .ok (.tableswitch 254 0 12 #[67, 79, 234, 182, 193, 254, 254, 254, 130, 156, 254, 111, 79], 67) := by decide +kernel
theorem dX1_stepOn_92 : decode cX1_stepOn 92 = .ok (.aload_n 1, 1) := by decide +kernel
theorem dX1_stepOn_93 : decode cX1_stepOn 93 = .ok (.getfield 120, 3) := by decide +kernel
theorem dX1_stepOn_96 : decode cX1_stepOn 96 = .ok (.iload 4, 2) := by decide +kernel
theorem dX1_stepOn_98 : decode cX1_stepOn 98 = .ok (.invokevirtual 132, 3) := by decide +kernel
theorem dX1_stepOn_101 : decode cX1_stepOn 101 = .ok (.goto 178, 3) := by decide +kernel
theorem dX1_stepOn_104 : decode cX1_stepOn 104 = .ok (.aload_n 0, 1) := by decide +kernel
theorem dX1_stepOn_105 : decode cX1_stepOn 105 = .ok (.getfield 52, 3) := by decide +kernel
theorem dX1_stepOn_108 : decode cX1_stepOn 108 = .ok (.dup, 1) := by decide +kernel
theorem dX1_stepOn_109 : decode cX1_stepOn 109 = .ok (.getfield 136, 3) := by decide +kernel
theorem dX1_stepOn_112 : decode cX1_stepOn 112 = .ok (.iconst 1, 1) := by decide +kernel
theorem dX1_stepOn_113 : decode cX1_stepOn 113 = .ok (.iload 4, 2) := by decide +kernel
theorem dX1_stepOn_115 : decode cX1_stepOn 115 = .ok (.ishl, 1) := by decide +kernel
theorem dX1_stepOn_116 : decode cX1_stepOn 116 = .ok (.ior, 1) := by decide +kernel
theorem dX1_stepOn_117 : decode cX1_stepOn 117 = .ok (.putfield 136, 3) := by decide +kernel
theorem dX1_stepOn_120 : decode cX1_stepOn 120 = .ok (.aload_n 1, 1) := by decide +kernel
theorem dX1_stepOn_121 : decode cX1_stepOn 121 = .ok (.getfield 120, 3) := by decide +kernel
theorem dX1_stepOn_124 : decode cX1_stepOn 124 = .ok (.sipush 1000, 3) := by decide +kernel
theorem dX1_stepOn_127 : decode cX1_stepOn 127 = .ok (.iload 4, 2) := by decide +kernel
theorem dX1_stepOn_129 : decode cX1_stepOn 129 = .ok (.iadd, 1) := by decide +kernel
theorem dX1_stepOn_130 : decode cX1_stepOn 130 = .ok (.invokevirtual 132, 3) := by decide +kernel
theorem dX1_stepOn_133 : decode cX1_stepOn 133 = .ok (.goto 146, 3) := by decide +kernel
theorem dX1_stepOn_136 : decode cX1_stepOn 136 = .ok (.aload_n 0, 1) := by decide +kernel
theorem dX1_stepOn_137 : decode cX1_stepOn 137 = .ok (.getfield 52, 3) := by decide +kernel
theorem dX1_stepOn_140 : decode cX1_stepOn 140 = .ok (.dup, 1) := by decide +kernel
theorem dX1_stepOn_141 : decode cX1_stepOn 141 = .ok (.getfield 139, 3) := by decide +kernel
theorem dX1_stepOn_144 : decode cX1_stepOn 144 = .ok (.iconst 1, 1) := by decide +kernel
theorem dX1_stepOn_145 : decode cX1_stepOn 145 = .ok (.iload 4, 2) := by decide +kernel
theorem dX1_stepOn_147 : decode cX1_stepOn 147 = .ok (.ishl, 1) := by decide +kernel
theorem dX1_stepOn_148 : decode cX1_stepOn 148 = .ok (.ior, 1) := by decide +kernel
theorem dX1_stepOn_149 : decode cX1_stepOn 149 = .ok (.putfield 139, 3) := by decide +kernel
theorem dX1_stepOn_152 : decode cX1_stepOn 152 = .ok (.goto 127, 3) := by decide +kernel
theorem dX1_stepOn_155 : decode cX1_stepOn 155 = .ok (.aload_n 1, 1) := by decide +kernel
theorem dX1_stepOn_156 : decode cX1_stepOn 156 = .ok (.aload_n 1, 1) := by decide +kernel
theorem dX1_stepOn_157 : decode cX1_stepOn 157 = .ok (.getfield 116, 3) := by decide +kernel
theorem dX1_stepOn_160 : decode cX1_stepOn 160 = .ok (.getfield 142, 3) := by decide +kernel
theorem dX1_stepOn_163 : decode cX1_stepOn 163 = .ok (.ifCond .le 7, 3) := by decide +kernel
theorem dX1_stepOn_166 : decode cX1_stepOn 166 = .ok (.iload_n 3, 1) := by decide +kernel
theorem dX1_stepOn_167 : decode cX1_stepOn 167 = .ok (.goto 8, 3) := by decide +kernel
theorem dX1_stepOn_170 : decode cX1_stepOn 170 = .ok (.aload_n 2, 1) := by decide +kernel
theorem dX1_stepOn_171 : decode cX1_stepOn 171 = .ok (.iload_n 3, 1) := by decide +kernel
theorem dX1_stepOn_172 : decode cX1_stepOn 172 = .ok (.invokevirtual 145, 3) := by decide +kernel
theorem dX1_stepOn_175 : decode cX1_stepOn 175 = .ok (.putfield 93, 3) := by decide +kernel
theorem dX1_stepOn_178 : decode cX1_stepOn 178 = .ok (.goto 101, 3) := by decide +kernel
theorem dX1_stepOn_181 : decode cX1_stepOn 181 = .ok (.aload_n 1, 1) := by decide +kernel
theorem dX1_stepOn_182 : decode cX1_stepOn 182 = .ok (.aload_n 1, 1) := by decide +kernel
theorem dX1_stepOn_183 : decode cX1_stepOn 183 = .ok (.getfield 116, 3) := by decide +kernel
theorem dX1_stepOn_186 : decode cX1_stepOn 186 = .ok (.getfield 142, 3) := by decide +kernel
theorem dX1_stepOn_189 : decode cX1_stepOn 189 = .ok (.ifCond .le 11, 3) := by decide +kernel
theorem dX1_stepOn_192 : decode cX1_stepOn 192 = .ok (.aload_n 2, 1) := by decide +kernel
theorem dX1_stepOn_193 : decode cX1_stepOn 193 = .ok (.iload_n 3, 1) := by decide +kernel
theorem dX1_stepOn_194 : decode cX1_stepOn 194 = .ok (.invokevirtual 145, 3) := by decide +kernel
theorem dX1_stepOn_197 : decode cX1_stepOn 197 = .ok (.goto 4, 3) := by decide +kernel
theorem dX1_stepOn_200 : decode cX1_stepOn 200 = .ok (.iload_n 3, 1) := by decide +kernel
theorem dX1_stepOn_201 : decode cX1_stepOn 201 = .ok (.putfield 93, 3) := by decide +kernel
theorem dX1_stepOn_204 : decode cX1_stepOn 204 = .ok (.goto 75, 3) := by decide +kernel
theorem dX1_stepOn_207 : decode cX1_stepOn 207 = .ok (.aload_n 0, 1) := by decide +kernel
theorem dX1_stepOn_208 : decode cX1_stepOn 208 = .ok (.aload_n 1, 1) := by decide +kernel
theorem dX1_stepOn_209 : decode cX1_stepOn 209 = .ok (.iload 4, 2) := by decide +kernel
theorem dX1_stepOn_211 : decode cX1_stepOn 211 = .ok (.invokevirtual 148, 3) := by decide +kernel
theorem dX1_stepOn_214 : decode cX1_stepOn 214 = .ok (.ifCond .ne 65, 3) := by decide +kernel
theorem dX1_stepOn_217 : decode cX1_stepOn 217 = .ok (.return_, 1) := by decide +kernel
theorem dX1_stepOn_218 : decode cX1_stepOn 218 = .ok (.aload_n 0, 1) := by decide +kernel
theorem dX1_stepOn_219 : decode cX1_stepOn 219 = .ok (.aload_n 2, 1) := by decide +kernel
theorem dX1_stepOn_220 : decode cX1_stepOn 220 = .ok (.iload_n 3, 1) := by decide +kernel
theorem dX1_stepOn_221 : decode cX1_stepOn 221 = .ok (.invokevirtual 152, 3) := by decide +kernel
theorem dX1_stepOn_224 : decode cX1_stepOn 224 = .ok (.aload_n 0, 1) := by decide +kernel
theorem dX1_stepOn_225 : decode cX1_stepOn 225 = .ok (.aload_n 1, 1) := by decide +kernel
theorem dX1_stepOn_226 : decode cX1_stepOn 226 = .ok (.iload 4, 2) := by decide +kernel
theorem dX1_stepOn_228 : decode cX1_stepOn 228 = .ok (.invokevirtual 156, 3) := by decide +kernel
theorem dX1_stepOn_231 : decode cX1_stepOn 231 = .ok (.ifCond .ne 16, 3) := by decide +kernel
theorem dX1_stepOn_234 : decode cX1_stepOn 234 = .ok (.aload_n 0, 1) := by decide +kernel
theorem dX1_stepOn_235 : decode cX1_stepOn 235 = .ok (.aload_n 1, 1) := by decide +kernel
theorem dX1_stepOn_236 : decode cX1_stepOn 236 = .ok (.getfield 116, 3) := by decide +kernel
theorem dX1_stepOn_239 : decode cX1_stepOn 239 = .ok (.aload_n 0, 1) := by decide +kernel
theorem dX1_stepOn_240 : decode cX1_stepOn 240 = .ok (.getfield 75, 3) := by decide +kernel
theorem dX1_stepOn_243 : decode cX1_stepOn 243 = .ok (.invokevirtual 159, 3) := by decide +kernel
theorem dX1_stepOn_246 : decode cX1_stepOn 246 = .ok (.return_, 1) := by decide +kernel
theorem dX1_stepOn_247 : decode cX1_stepOn 247 = .ok (.aload_n 1, 1) := by decide +kernel
theorem dX1_stepOn_248 : decode cX1_stepOn 248 = .ok (.aload_n 2, 1) := by decide +kernel
theorem dX1_stepOn_249 : decode cX1_stepOn 249 = .ok (.iload_n 3, 1) := by decide +kernel
theorem dX1_stepOn_250 : decode cX1_stepOn 250 = .ok (.invokevirtual 145, 3) := by decide +kernel
theorem dX1_stepOn_253 : decode cX1_stepOn 253 = .ok (.putfield 93, 3) := by decide +kernel
theorem dX1_stepOn_256 : decode cX1_stepOn 256 = .ok (.goto 23, 3) := by decide +kernel
theorem dX1_stepOn_259 : decode cX1_stepOn 259 = .ok (.aload_n 1, 1) := by decide +kernel
theorem dX1_stepOn_260 : decode cX1_stepOn 260 = .ok (.aload_n 2, 1) := by decide +kernel
theorem dX1_stepOn_261 : decode cX1_stepOn 261 = .ok (.iload_n 3, 1) := by decide +kernel
theorem dX1_stepOn_262 : decode cX1_stepOn 262 = .ok (.invokevirtual 145, 3) := by decide +kernel
theorem dX1_stepOn_265 : decode cX1_stepOn 265 = .ok (.putfield 93, 3) := by decide +kernel
theorem dX1_stepOn_268 : decode cX1_stepOn 268 = .ok (.aload_n 0, 1) := by decide +kernel
theorem dX1_stepOn_269 : decode cX1_stepOn 269 = .ok (.aload_n 1, 1) := by decide +kernel
theorem dX1_stepOn_270 : decode cX1_stepOn 270 = .ok (.iload_n 3, 1) := by decide +kernel
theorem dX1_stepOn_271 : decode cX1_stepOn 271 = .ok (.iload 4, 2) := by decide +kernel
theorem dX1_stepOn_273 : decode cX1_stepOn 273 = .ok (.invokevirtual 163, 3) := by decide +kernel
theorem dX1_stepOn_276 : decode cX1_stepOn 276 = .ok (.goto 3, 3) := by decide +kernel
theorem dX1_stepOn_279 : decode cX1_stepOn 279 = .ok (.aload_n 1, 1) := by decide +kernel
theorem dX1_stepOn_280 : decode cX1_stepOn 280 = .ok (.dup, 1) := by decide +kernel
theorem dX1_stepOn_281 : decode cX1_stepOn 281 = .ok (.getfield 93, 3) := by decide +kernel
theorem dX1_stepOn_284 : decode cX1_stepOn 284 = .ok (.iconst 1, 1) := by decide +kernel
theorem dX1_stepOn_285 : decode cX1_stepOn 285 = .ok (.iadd, 1) := by decide +kernel
theorem dX1_stepOn_286 : decode cX1_stepOn 286 = .ok (.putfield 93, 3) := by decide +kernel
theorem dX1_stepOn_289 : decode cX1_stepOn 289 = .ok (.return_, 1) := by decide +kernel
theorem dX1_giveCall_0 : decode cX1_giveCall 0 = .ok (.aload_n 0, 1) := by decide +kernel
theorem dX1_giveCall_1 : decode cX1_giveCall 1 = .ok (.getfield 63, 3) := by decide +kernel
theorem dX1_giveCall_4 : decode cX1_giveCall 4 = .ok (.bipush 40, 2) := by decide +kernel
theorem dX1_giveCall_6 : decode cX1_giveCall 6 = .ok (.if_icmp .lt 14, 3) := by decide +kernel
theorem dX1_giveCall_9 : decode cX1_giveCall 9 = .ok (.aload_n 1, 1) := by decide +kernel
theorem dX1_giveCall_10 : decode cX1_giveCall 10 = .ok (.getfield 120, 3) := by decide +kernel
theorem dX1_giveCall_13 : decode cX1_giveCall 13 = .ok (.sipush 9003, 3) := by decide +kernel
theorem dX1_giveCall_16 : decode cX1_giveCall 16 = .ok (.invokevirtual 132, 3) := by decide +kernel
theorem dX1_giveCall_19 : decode cX1_giveCall 19 = .ok (.return_, 1) := by decide +kernel
theorem dX1_giveCall_20 : decode cX1_giveCall 20 = .ok (.aload_n 0, 1) := by decide +kernel
theorem dX1_giveCall_21 : decode cX1_giveCall 21 = .ok (.dup, 1) := by decide +kernel
theorem dX1_giveCall_22 : decode cX1_giveCall 22 = .ok (.getfield 63, 3) := by decide +kernel
theorem dX1_giveCall_25 : decode cX1_giveCall 25 = .ok (.iconst 1, 1) := by decide +kernel
theorem dX1_giveCall_26 : decode cX1_giveCall 26 = .ok (.iadd, 1) := by decide +kernel
theorem dX1_giveCall_27 : decode cX1_giveCall 27 = .ok (.putfield 63, 3) := by decide +kernel
theorem dX1_giveCall_30 : decode cX1_giveCall 30 = .ok (.aload_n 1, 1) := by decide +kernel
theorem dX1_giveCall_31 : decode cX1_giveCall 31 = .ok (.getfield 116, 3) := by decide +kernel
theorem dX1_giveCall_34 : decode cX1_giveCall 34 = .ok (.astore 4, 2) := by decide +kernel
theorem dX1_giveCall_36 : decode cX1_giveCall 36 = .ok (.aload_n 0, 1) := by decide +kernel
theorem dX1_giveCall_37 : decode cX1_giveCall 37 = .ok (.iload_n 3, 1) := by decide +kernel
theorem dX1_giveCall_38 : decode cX1_giveCall 38 = .ok (.aload_n 0, 1) := by decide +kernel
theorem dX1_giveCall_39 : decode cX1_giveCall 39 = .ok (.getfield 66, 3) := by decide +kernel
theorem dX1_giveCall_42 : decode cX1_giveCall 42 = .ok (.invokevirtual 167, 3) := by decide +kernel
theorem dX1_giveCall_45 : decode cX1_giveCall 45 = .ok (.istore 5, 2) := by decide +kernel
theorem dX1_giveCall_47 : decode cX1_giveCall 47 = .ok (.aload_n 0, 1) := by decide +kernel
theorem dX1_giveCall_48 : decode cX1_giveCall 48 = .ok (.getfield 52, 3) := by decide +kernel
theorem dX1_giveCall_51 : decode cX1_giveCall 51 = .ok (.dup, 1) := by decide +kernel
theorem dX1_giveCall_52 : decode cX1_giveCall 52 = .ok (.getfield 171, 3) := by decide +kernel
theorem dX1_giveCall_55 : decode cX1_giveCall 55 = .ok (.aload_n 0, 1) := by decide +kernel
theorem dX1_giveCall_56 : decode cX1_giveCall 56 = .ok (.getfield 69, 3) := by decide +kernel
theorem dX1_giveCall_59 : decode cX1_giveCall 59 = .ok (.ior, 1) := by decide +kernel
theorem dX1_giveCall_60 : decode cX1_giveCall 60 = .ok (.putfield 171, 3) := by decide +kernel
theorem dX1_giveCall_63 : decode cX1_giveCall 63 = .ok (.iload 5, 2) := by decide +kernel
theorem dX1_giveCall_65 : decode cX1_giveCall 65 = .ok (.iconst (-1), 1) := by decide +kernel
theorem dX1_giveCall_66 : decode cX1_giveCall 66 = .ok (.if_icmp .ne 33, 3) := by decide +kernel
theorem dX1_giveCall_69 : decode cX1_giveCall 69 = .ok (.aload_n 0, 1) := by decide +kernel
theorem dX1_giveCall_70 : decode cX1_giveCall 70 = .ok (.getfield 52, 3) := by decide +kernel
theorem dX1_giveCall_73 : decode cX1_giveCall 73 = .ok (.dup, 1) := by decide +kernel
theorem dX1_giveCall_74 : decode cX1_giveCall 74 = .ok (.getfield 136, 3) := by decide +kernel
theorem dX1_giveCall_77 : decode cX1_giveCall 77 = .ok (.iconst 1, 1) := by decide +kernel
theorem dX1_giveCall_78 : decode cX1_giveCall 78 = .ok (.iload_n 3, 1) := by decide +kernel
theorem dX1_giveCall_79 : decode cX1_giveCall 79 = .ok (.ishl, 1) := by decide +kernel
theorem dX1_giveCall_80 : decode cX1_giveCall 80 = .ok (.ior, 1) := by decide +kernel
theorem dX1_giveCall_81 : decode cX1_giveCall 81 = .ok (.putfield 136, 3) := by decide +kernel
theorem dX1_giveCall_84 : decode cX1_giveCall 84 = .ok (.aload_n 1, 1) := by decide +kernel
theorem dX1_giveCall_85 : decode cX1_giveCall 85 = .ok (.getfield 120, 3) := by decide +kernel
theorem dX1_giveCall_88 : decode cX1_giveCall 88 = .ok (.sipush 2000, 3) := by decide +kernel
theorem dX1_giveCall_91 : decode cX1_giveCall 91 = .ok (.iload_n 3, 1) := by decide +kernel
theorem dX1_giveCall_92 : decode cX1_giveCall 92 = .ok (.iadd, 1) := by decide +kernel
theorem dX1_giveCall_93 : decode cX1_giveCall 93 = .ok (.invokevirtual 132, 3) := by decide +kernel
theorem dX1_giveCall_96 : decode cX1_giveCall 96 = .ok (.goto 89, 3) := by decide +kernel
theorem dX1_giveCall_99 : decode cX1_giveCall 99 = .ok (.aload 4, 2) := by decide +kernel
theorem dX1_giveCall_101 : decode cX1_giveCall 101 = .ok (.iload 5, 2) := by decide +kernel
theorem dX1_giveCall_103 : decode cX1_giveCall 103 = .ok (.invokevirtual 174, 3) := by decide +kernel
theorem dX1_giveCall_106 : decode cX1_giveCall 106 = .ok (.ifCond .eq 16, 3) := by decide +kernel
theorem dX1_giveCall_109 : decode cX1_giveCall 109 = .ok (.aload_n 1, 1) := by decide +kernel
theorem dX1_giveCall_110 : decode cX1_giveCall 110 = .ok (.getfield 120, 3) := by decide +kernel
theorem dX1_giveCall_113 : decode cX1_giveCall 113 = .ok (.sipush 9001, 3) := by decide +kernel
theorem dX1_giveCall_116 : decode cX1_giveCall 116 = .ok (.invokevirtual 132, 3) := by decide +kernel
theorem dX1_giveCall_119 : decode cX1_giveCall 119 = .ok (.goto 66, 3) := by decide +kernel
theorem dX1_giveCall_122 : decode cX1_giveCall 122 = .ok (.aload 4, 2) := by decide +kernel
theorem dX1_giveCall_124 : decode cX1_giveCall 124 = .ok (.getfield 142, 3) := by decide +kernel
theorem dX1_giveCall_127 : decode cX1_giveCall 127 = .ok (.bipush 6, 2) := by decide +kernel
theorem dX1_giveCall_129 : decode cX1_giveCall 129 = .ok (.if_icmp .lt 16, 3) := by decide +kernel
theorem dX1_giveCall_132 : decode cX1_giveCall 132 = .ok (.aload_n 1, 1) := by decide +kernel
theorem dX1_giveCall_133 : decode cX1_giveCall 133 = .ok (.getfield 120, 3) := by decide +kernel
theorem dX1_giveCall_136 : decode cX1_giveCall 136 = .ok (.sipush 9002, 3) := by decide +kernel
theorem dX1_giveCall_139 : decode cX1_giveCall 139 = .ok (.invokevirtual 132, 3) := by decide +kernel
theorem dX1_giveCall_142 : decode cX1_giveCall 142 = .ok (.goto 43, 3) := by decide +kernel
theorem dX1_giveCall_145 : decode cX1_giveCall 145 = .ok (.aload_n 0, 1) := by decide +kernel
theorem dX1_giveCall_146 : decode cX1_giveCall 146 = .ok (.iload 5, 2) := by decide +kernel
theorem dX1_giveCall_148 : decode cX1_giveCall 148 = .ok (.aload_n 0, 1) := by decide +kernel
theorem dX1_giveCall_149 : decode cX1_giveCall 149 = .ok (.iload 5, 2) := by decide +kernel
theorem dX1_giveCall_151 : decode cX1_giveCall 151 = .ok (.aload_n 0, 1) := by decide +kernel
theorem dX1_giveCall_152 : decode cX1_giveCall 152 = .ok (.getfield 66, 3) := by decide +kernel
theorem dX1_giveCall_155 : decode cX1_giveCall 155 = .ok (.invokevirtual 178, 3) := by decide +kernel
theorem dX1_giveCall_158 : decode cX1_giveCall 158 = .ok (.aload 4, 2) := by decide +kernel
theorem dX1_giveCall_160 : decode cX1_giveCall 160 = .ok (.aload_n 1, 1) := by decide +kernel
theorem dX1_giveCall_161 : decode cX1_giveCall 161 = .ok (.getfield 120, 3) := by decide +kernel
theorem dX1_giveCall_164 : decode cX1_giveCall 164 = .ok (.invokevirtual 88, 3) := by decide +kernel
theorem dX1_giveCall_167 : decode cX1_giveCall 167 = .ok (.astore 6, 2) := by decide +kernel
theorem dX1_giveCall_169 : decode cX1_giveCall 169 = .ok (.aload 6, 2) := by decide +kernel
theorem dX1_giveCall_171 : decode cX1_giveCall 171 = .ok (.ifnull 14, 3) := by decide +kernel
theorem dX1_giveCall_174 : decode cX1_giveCall 174 = .ok (.aload 6, 2) := by decide +kernel
theorem dX1_giveCall_176 : decode cX1_giveCall 176 = .ok (.aload 4, 2) := by decide +kernel
theorem dX1_giveCall_178 : decode cX1_giveCall 178 = .ok (.getfield 121, 3) := by decide +kernel
theorem dX1_giveCall_181 : decode cX1_giveCall 181 = .ok (.iload_n 2, 1) := by decide +kernel
theorem dX1_giveCall_182 : decode cX1_giveCall 182 = .ok (.invokevirtual 182, 3) := by decide +kernel
theorem dX1_giveCall_185 : decode cX1_giveCall 185 = .ok (.return_, 1) := by decide +kernel
theorem dX1_textAt_0 : decode cX1_textAt 0 = .ok (.iload_n 1, 1) := by decide +kernel
theorem dX1_textAt_1 : decode cX1_textAt 1 = .ok (.ifCond .lt 24, 3) := by decide +kernel
theorem dX1_textAt_4 : decode cX1_textAt 4 = .ok (.iload_n 1, 1) := by decide +kernel
theorem dX1_textAt_5 : decode cX1_textAt 5 = .ok (.aload_n 0, 1) := by decide +kernel
theorem dX1_textAt_6 : decode cX1_textAt 6 = .ok (.getfield 11, 3) := by decide +kernel
theorem dX1_textAt_9 : decode cX1_textAt 9 = .ok (.arraylength, 1) := by decide +kernel
theorem dX1_textAt_10 : decode cX1_textAt 10 = .ok (.if_icmp .ge 15, 3) := by decide +kernel
theorem dX1_textAt_13 : decode cX1_textAt 13 = .ok (.aload_n 0, 1) := by decide +kernel
theorem dX1_textAt_14 : decode cX1_textAt 14 = .ok (.getfield 11, 3) := by decide +kernel
theorem dX1_textAt_17 : decode cX1_textAt 17 = .ok (.iload_n 1, 1) := by decide +kernel
theorem dX1_textAt_18 : decode cX1_textAt 18 = .ok (.aaload, 1) := by decide +kernel
theorem dX1_textAt_19 : decode cX1_textAt 19 = .ok (.getfield 185, 3) := by decide +kernel
theorem dX1_textAt_22 : decode cX1_textAt 22 = .ok (.goto 4, 3) := by decide +kernel
theorem dX1_textAt_25 : decode cX1_textAt 25 = .ok (.aconst_null, 1) := by decide +kernel
theorem dX1_textAt_26 : decode cX1_textAt 26 = .ok (.astore_n 3, 1) := by decide +kernel
theorem dX1_textAt_27 : decode cX1_textAt 27 = .ok (.aload_n 3, 1) := by decide +kernel
theorem dX1_textAt_28 : decode cX1_textAt 28 = .ok (.ifnonnull 7, 3) := by decide +kernel
theorem dX1_textAt_31 : decode cX1_textAt 31 = .ok (.aconst_null, 1) := by decide +kernel
theorem dX1_textAt_32 : decode cX1_textAt 32 = .ok (.goto 8, 3) := by decide +kernel
theorem dX1_textAt_35 : decode cX1_textAt 35 = .ok (.aload_n 3, 1) := by decide +kernel
theorem dX1_textAt_36 : decode cX1_textAt 36 = .ok (.iload_n 2, 1) := by decide +kernel
theorem dX1_textAt_37 : decode cX1_textAt 37 = .ok (.invokevirtual 189, 3) := by decide +kernel
theorem dX1_textAt_40 : decode cX1_textAt 40 = .ok (.areturn, 1) := by decide +kernel
theorem dX1_goalOf_0 : decode cX1_goalOf 0 = .ok (.iload_n 1, 1) := by decide +kernel
theorem dX1_goalOf_1 : decode cX1_goalOf 1 = .ok (.istore_n 3, 1) := by decide +kernel
theorem dX1_goalOf_2 : decode cX1_goalOf 2 = .ok (.aload_n 0, 1) := by decide +kernel
theorem dX1_goalOf_3 : decode cX1_goalOf 3 = .ok (.iconst 0, 1) := by decide +kernel
theorem dX1_goalOf_4 : decode cX1_goalOf 4 = .ok (.putfield 69, 3) := by decide +kernel
theorem dX1_goalOf_7 : decode cX1_goalOf 7 = .ok (.iconst 0, 1) := by decide +kernel
theorem dX1_goalOf_8 : decode cX1_goalOf 8 = .ok (.istore 4, 2) := by decide +kernel
theorem dX1_goalOf_10 : decode cX1_goalOf 10 = .ok (.iload 4, 2) := by decide +kernel
theorem dX1_goalOf_12 : decode cX1_goalOf 12 = .ok (.iconst 4, 1) := by decide +kernel
theorem dX1_goalOf_13 : decode cX1_goalOf 13 = .ok (.if_icmp .gt 53, 3) := by decide +kernel
theorem dX1_goalOf_16 : decode cX1_goalOf 16 = .ok (.aload_n 0, 1) := by decide +kernel
theorem dX1_goalOf_17 : decode cX1_goalOf 17 = .ok (.dup, 1) := by decide +kernel
theorem dX1_goalOf_18 : decode cX1_goalOf 18 = .ok (.getfield 69, 3) := by decide +kernel
theorem dX1_goalOf_21 : decode cX1_goalOf 21 = .ok (.iconst 1, 1) := by decide +kernel
theorem dX1_goalOf_22 : decode cX1_goalOf 22 = .ok (.iload_n 3, 1) := by decide +kernel
theorem dX1_goalOf_23 : decode cX1_goalOf 23 = .ok (.ishl, 1) := by decide +kernel
theorem dX1_goalOf_24 : decode cX1_goalOf 24 = .ok (.ior, 1) := by decide +kernel
theorem dX1_goalOf_25 : decode cX1_goalOf 25 = .ok (.putfield 69, 3) := by decide +kernel
theorem dX1_goalOf_28 : decode cX1_goalOf 28 = .ok (.aload_n 0, 1) := by decide +kernel
theorem dX1_goalOf_29 : decode cX1_goalOf 29 = .ok (.iload_n 3, 1) := by decide +kernel
theorem dX1_goalOf_30 : decode cX1_goalOf 30 = .ok (.iload_n 2, 1) := by decide +kernel
theorem dX1_goalOf_31 : decode cX1_goalOf 31 = .ok (.invokevirtual 178, 3) := by decide +kernel
theorem dX1_goalOf_34 : decode cX1_goalOf 34 = .ok (.astore 5, 2) := by decide +kernel
theorem dX1_goalOf_36 : decode cX1_goalOf 36 = .ok (.aload 5, 2) := by decide +kernel
theorem dX1_goalOf_38 : decode cX1_goalOf 38 = .ok (.ifnonnull 5, 3) := by decide +kernel
theorem dX1_goalOf_41 : decode cX1_goalOf 41 = .ok (.iconst (-1), 1) := by decide +kernel
theorem dX1_goalOf_42 : decode cX1_goalOf 42 = .ok (.ireturn, 1) := by decide +kernel
theorem dX1_goalOf_43 : decode cX1_goalOf 43 = .ok (.aload 5, 2) := by decide +kernel
theorem dX1_goalOf_45 : decode cX1_goalOf 45 = .ok (.invokevirtual 195, 3) := by decide +kernel
theorem dX1_goalOf_48 : decode cX1_goalOf 48 = .ok (.ifCond .ne 5, 3) := by decide +kernel
theorem dX1_goalOf_51 : decode cX1_goalOf 51 = .ok (.iload_n 3, 1) := by decide +kernel
theorem dX1_goalOf_52 : decode cX1_goalOf 52 = .ok (.ireturn, 1) := by decide +kernel
theorem dX1_goalOf_53 : decode cX1_goalOf 53 = .ok (.aload 5, 2) := by decide +kernel
theorem dX1_goalOf_55 : decode cX1_goalOf 55 = .ok (.iconst 0, 1) := by decide +kernel
theorem dX1_goalOf_56 : decode cX1_goalOf 56 = .ok (.invokevirtual 125, 3) := by decide +kernel
theorem dX1_goalOf_59 : decode cX1_goalOf 59 = .ok (.istore_n 3, 1) := by decide +kernel
theorem dX1_goalOf_60 : decode cX1_goalOf 60 = .ok (.iinc 4 1, 3) := by decide +kernel
theorem dX1_goalOf_63 : decode cX1_goalOf 63 = .ok (.goto (-53), 3) := by decide +kernel
theorem dX1_goalOf_66 : decode cX1_goalOf 66 = .ok (.iconst (-1), 1) := by decide +kernel
theorem dX1_goalOf_67 : decode cX1_goalOf 67 = .ok (.ireturn, 1) := by decide +kernel
theorem dX1_giveArgument_0 : decode cX1_giveArgument 0 = .ok (.aload_n 1, 1) := by decide +kernel
theorem dX1_giveArgument_1 : decode cX1_giveArgument 1 = .ok (.getfield 116, 3) := by decide +kernel
theorem dX1_giveArgument_4 : decode cX1_giveArgument 4 = .ok (.astore_n 3, 1) := by decide +kernel
theorem dX1_giveArgument_5 : decode cX1_giveArgument 5 = .ok (.aload_n 3, 1) := by decide +kernel
theorem dX1_giveArgument_6 : decode cX1_giveArgument 6 = .ok (.iload_n 2, 1) := by decide +kernel
theorem dX1_giveArgument_7 : decode cX1_giveArgument 7 = .ok (.invokevirtual 199, 3) := by decide +kernel
theorem dX1_giveArgument_10 : decode cX1_giveArgument 10 = .ok (.istore 4, 2) := by decide +kernel
theorem dX1_giveArgument_12 : decode cX1_giveArgument 12 = .ok (.iload 4, 2) := by decide +kernel
theorem dX1_giveArgument_14 : decode cX1_giveArgument 14 = .ok (.iconst (-1), 1) := by decide +kernel
theorem dX1_giveArgument_15 : decode cX1_giveArgument 15 = .ok (.if_icmp .eq 10, 3) := by decide +kernel
theorem dX1_giveArgument_18 : decode cX1_giveArgument 18 = .ok (.aload_n 3, 1) := by decide +kernel
theorem dX1_giveArgument_19 : decode cX1_giveArgument 19 = .ok (.getfield 202, 3) := by decide +kernel
theorem dX1_giveArgument_22 : decode cX1_giveArgument 22 = .ok (.ifnonnull 5, 3) := by decide +kernel
theorem dX1_giveArgument_25 : decode cX1_giveArgument 25 = .ok (.iconst 1, 1) := by decide +kernel
theorem dX1_giveArgument_26 : decode cX1_giveArgument 26 = .ok (.ireturn, 1) := by decide +kernel
theorem dX1_giveArgument_27 : decode cX1_giveArgument 27 = .ok (.aload_n 3, 1) := by decide +kernel
theorem dX1_giveArgument_28 : decode cX1_giveArgument 28 = .ok (.getfield 202, 3) := by decide +kernel
theorem dX1_giveArgument_31 : decode cX1_giveArgument 31 = .ok (.iload 4, 2) := by decide +kernel
theorem dX1_giveArgument_33 : decode cX1_giveArgument 33 = .ok (.invokevirtual 205, 3) := by decide +kernel
theorem dX1_giveArgument_36 : decode cX1_giveArgument 36 = .ok (.astore 5, 2) := by decide +kernel
theorem dX1_giveArgument_38 : decode cX1_giveArgument 38 = .ok (.aload 5, 2) := by decide +kernel
theorem dX1_giveArgument_40 : decode cX1_giveArgument 40 = .ok (.ifnonnull 15, 3) := by decide +kernel
theorem dX1_giveArgument_43 : decode cX1_giveArgument 43 = .ok (.aload_n 0, 1) := by decide +kernel
theorem dX1_giveArgument_44 : decode cX1_giveArgument 44 = .ok (.aload_n 3, 1) := by decide +kernel
theorem dX1_giveArgument_45 : decode cX1_giveArgument 45 = .ok (.getfield 202, 3) := by decide +kernel
theorem dX1_giveArgument_48 : decode cX1_giveArgument 48 = .ok (.iload 4, 2) := by decide +kernel
theorem dX1_giveArgument_50 : decode cX1_giveArgument 50 = .ok (.invokevirtual 159, 3) := by decide +kernel
theorem dX1_giveArgument_53 : decode cX1_giveArgument 53 = .ok (.iconst 0, 1) := by decide +kernel
theorem dX1_giveArgument_54 : decode cX1_giveArgument 54 = .ok (.ireturn, 1) := by decide +kernel
theorem dX1_giveArgument_55 : decode cX1_giveArgument 55 = .ok (.aload_n 1, 1) := by decide +kernel
theorem dX1_giveArgument_56 : decode cX1_giveArgument 56 = .ok (.getfield 120, 3) := by decide +kernel
theorem dX1_giveArgument_59 : decode cX1_giveArgument 59 = .ok (.aload 5, 2) := by decide +kernel
theorem dX1_giveArgument_61 : decode cX1_giveArgument 61 = .ok (.invokevirtual 209, 3) := by decide +kernel
theorem dX1_giveArgument_64 : decode cX1_giveArgument 64 = .ok (.aload_n 1, 1) := by decide +kernel
theorem dX1_giveArgument_65 : decode cX1_giveArgument 65 = .ok (.aload_n 3, 1) := by decide +kernel
theorem dX1_giveArgument_66 : decode cX1_giveArgument 66 = .ok (.getfield 121, 3) := by decide +kernel
theorem dX1_giveArgument_69 : decode cX1_giveArgument 69 = .ok (.aload_n 1, 1) := by decide +kernel
theorem dX1_giveArgument_70 : decode cX1_giveArgument 70 = .ok (.getfield 93, 3) := by decide +kernel
theorem dX1_giveArgument_73 : decode cX1_giveArgument 73 = .ok (.invokevirtual 145, 3) := by decide +kernel
theorem dX1_giveArgument_76 : decode cX1_giveArgument 76 = .ok (.putfield 93, 3) := by decide +kernel
theorem dX1_giveArgument_79 : decode cX1_giveArgument 79 = .ok (.iconst 1, 1) := by decide +kernel
theorem dX1_giveArgument_80 : decode cX1_giveArgument 80 = .ok (.ireturn, 1) := by decide +kernel
theorem dX1_openPart_0 : decode cX1_openPart 0 = .ok (.iload_n 2, 1) := by decide +kernel
theorem dX1_openPart_1 : decode cX1_openPart 1 = .ok (.ifCond .lt 12, 3) := by decide +kernel
theorem dX1_openPart_4 : decode cX1_openPart 4 = .ok (.iload_n 2, 1) := by decide +kernel
theorem dX1_openPart_5 : decode cX1_openPart 5 = .ok (.aload_n 1, 1) := by decide +kernel
theorem dX1_openPart_6 : decode cX1_openPart 6 = .ok (.getfield 213, 3) := by decide +kernel
theorem dX1_openPart_9 : decode cX1_openPart 9 = .ok (.arraylength, 1) := by decide +kernel
theorem dX1_openPart_10 : decode cX1_openPart 10 = .ok (.if_icmp .lt 4, 3) := by decide +kernel
theorem dX1_openPart_13 : decode cX1_openPart 13 = .ok (.return_, 1) := by decide +kernel
theorem dX1_openPart_14 : decode cX1_openPart 14 = .ok (.aload_n 1, 1) := by decide +kernel
theorem dX1_openPart_15 : decode cX1_openPart 15 = .ok (.getfield 213, 3) := by decide +kernel
theorem dX1_openPart_18 : decode cX1_openPart 18 = .ok (.iload_n 2, 1) := by decide +kernel
theorem dX1_openPart_19 : decode cX1_openPart 19 = .ok (.aaload, 1) := by decide +kernel
theorem dX1_openPart_20 : decode cX1_openPart 20 = .ok (.astore_n 3, 1) := by decide +kernel
theorem dX1_openPart_21 : decode cX1_openPart 21 = .ok (.aload_n 3, 1) := by decide +kernel
theorem dX1_openPart_22 : decode cX1_openPart 22 = .ok (.ifnonnull 18, 3) := by decide +kernel
theorem dX1_openPart_25 : decode cX1_openPart 25 = .ok (.new 35, 3) := by decide +kernel
theorem dX1_openPart_28 : decode cX1_openPart 28 = .ok (.dup, 1) := by decide +kernel
theorem dX1_openPart_29 : decode cX1_openPart 29 = .ok (.invokespecial 37, 3) := by decide +kernel
theorem dX1_openPart_32 : decode cX1_openPart 32 = .ok (.astore_n 3, 1) := by decide +kernel
theorem dX1_openPart_33 : decode cX1_openPart 33 = .ok (.aload_n 1, 1) := by decide +kernel
theorem dX1_openPart_34 : decode cX1_openPart 34 = .ok (.getfield 213, 3) := by decide +kernel
theorem dX1_openPart_37 : decode cX1_openPart 37 = .ok (.iload_n 2, 1) := by decide +kernel
theorem dX1_openPart_38 : decode cX1_openPart 38 = .ok (.aload_n 3, 1) := by decide +kernel
theorem dX1_openPart_39 : decode cX1_openPart 39 = .ok (.aastore, 1) := by decide +kernel
theorem dX1_openPart_40 : decode cX1_openPart 40 = .ok (.aload_n 3, 1) := by decide +kernel
theorem dX1_openPart_41 : decode cX1_openPart 41 = .ok (.invokevirtual 217, 3) := by decide +kernel
theorem dX1_openPart_44 : decode cX1_openPart 44 = .ok (.aload_n 1, 1) := by decide +kernel
theorem dX1_openPart_45 : decode cX1_openPart 45 = .ok (.getfield 218, 3) := by decide +kernel
theorem dX1_openPart_48 : decode cX1_openPart 48 = .ok (.iload_n 2, 1) := by decide +kernel
theorem dX1_openPart_49 : decode cX1_openPart 49 = .ok (.iconst 1, 1) := by decide +kernel
theorem dX1_openPart_50 : decode cX1_openPart 50 = .ok (.bastore, 1) := by decide +kernel
theorem dX1_openPart_51 : decode cX1_openPart 51 = .ok (.aload_n 0, 1) := by decide +kernel
theorem dX1_openPart_52 : decode cX1_openPart 52 = .ok (.aload_n 1, 1) := by decide +kernel
theorem dX1_openPart_53 : decode cX1_openPart 53 = .ok (.iload_n 2, 1) := by decide +kernel
theorem dX1_openPart_54 : decode cX1_openPart 54 = .ok (.iconst 1, 1) := by decide +kernel
theorem dX1_openPart_55 : decode cX1_openPart 55 = .ok (.iadd, 1) := by decide +kernel
theorem dX1_openPart_56 : decode cX1_openPart 56 = .ok (.aload_n 1, 1) := by decide +kernel
theorem dX1_openPart_57 : decode cX1_openPart 57 = .ok (.getfield 121, 3) := by decide +kernel
theorem dX1_openPart_60 : decode cX1_openPart 60 = .ok (.iload_n 2, 1) := by decide +kernel
theorem dX1_openPart_61 : decode cX1_openPart 61 = .ok (.invokevirtual 145, 3) := by decide +kernel
theorem dX1_openPart_64 : decode cX1_openPart 64 = .ok (.aload_n 3, 1) := by decide +kernel
theorem dX1_openPart_65 : decode cX1_openPart 65 = .ok (.invokevirtual 112, 3) := by decide +kernel
theorem dX1_openPart_68 : decode cX1_openPart 68 = .ok (.return_, 1) := by decide +kernel
theorem dX1_listParts_0 : decode cX1_listParts 0 = .ok (.aload_n 0, 1) := by decide +kernel
theorem dX1_listParts_1 : decode cX1_listParts 1 = .ok (.iconst 0, 1) := by decide +kernel
theorem dX1_listParts_2 : decode cX1_listParts 2 = .ok (.putfield 72, 3) := by decide +kernel
theorem dX1_listParts_5 : decode cX1_listParts 5 = .ok (.iload_n 2, 1) := by decide +kernel
theorem dX1_listParts_6 : decode cX1_listParts 6 = .ok (.iconst 1, 1) := by decide +kernel
theorem dX1_listParts_7 : decode cX1_listParts 7 = .ok (.iadd, 1) := by decide +kernel
theorem dX1_listParts_8 : decode cX1_listParts 8 = .ok (.istore_n 3, 1) := by decide +kernel
theorem dX1_listParts_9 : decode cX1_listParts 9 = .ok (.iconst 0, 1) := by decide +kernel
theorem dX1_listParts_10 : decode cX1_listParts 10 = .ok (.istore 4, 2) := by decide +kernel
theorem dX1_listParts_12 : decode cX1_listParts 12 = .ok (.iload 4, 2) := by decide +kernel
theorem dX1_listParts_14 : decode cX1_listParts 14 = .ok (.aload_n 0, 1) := by decide +kernel
theorem dX1_listParts_15 : decode cX1_listParts 15 = .ok (.getfield 46, 3) := by decide +kernel
theorem dX1_listParts_18 : decode cX1_listParts 18 = .ok (.arraylength, 1) := by decide +kernel
theorem dX1_listParts_19 : decode cX1_listParts 19 = .ok (.if_icmp .ge 41, 3) := by decide +kernel
theorem dX1_listParts_22 : decode cX1_listParts 22 = .ok (.aload_n 1, 1) := by decide +kernel
theorem dX1_listParts_23 : decode cX1_listParts 23 = .ok (.iload_n 3, 1) := by decide +kernel
theorem dX1_listParts_24 : decode cX1_listParts 24 = .ok (.invokevirtual 222, 3) := by decide +kernel
theorem dX1_listParts_27 : decode cX1_listParts 27 = .ok (.ifCond .eq 33, 3) := by decide +kernel
theorem dX1_listParts_30 : decode cX1_listParts 30 = .ok (.aload_n 0, 1) := by decide +kernel
theorem dX1_listParts_31 : decode cX1_listParts 31 = .ok (.getfield 46, 3) := by decide +kernel
theorem dX1_listParts_34 : decode cX1_listParts 34 = .ok (.iload 4, 2) := by decide +kernel
theorem dX1_listParts_36 : decode cX1_listParts 36 = .ok (.iload_n 3, 1) := by decide +kernel
theorem dX1_listParts_37 : decode cX1_listParts 37 = .ok (.iastore, 1) := by decide +kernel
theorem dX1_listParts_38 : decode cX1_listParts 38 = .ok (.aload_n 0, 1) := by decide +kernel
theorem dX1_listParts_39 : decode cX1_listParts 39 = .ok (.dup, 1) := by decide +kernel
theorem dX1_listParts_40 : decode cX1_listParts 40 = .ok (.getfield 72, 3) := by decide +kernel
theorem dX1_listParts_43 : decode cX1_listParts 43 = .ok (.iconst 1, 1) := by decide +kernel
theorem dX1_listParts_44 : decode cX1_listParts 44 = .ok (.iadd, 1) := by decide +kernel
theorem dX1_listParts_45 : decode cX1_listParts 45 = .ok (.putfield 72, 3) := by decide +kernel
theorem dX1_listParts_48 : decode cX1_listParts 48 = .ok (.aload_n 1, 1) := by decide +kernel
theorem dX1_listParts_49 : decode cX1_listParts 49 = .ok (.iload_n 3, 1) := by decide +kernel
theorem dX1_listParts_50 : decode cX1_listParts 50 = .ok (.invokevirtual 145, 3) := by decide +kernel
theorem dX1_listParts_53 : decode cX1_listParts 53 = .ok (.istore_n 3, 1) := by decide +kernel
theorem dX1_listParts_54 : decode cX1_listParts 54 = .ok (.iinc 4 1, 3) := by decide +kernel
theorem dX1_listParts_57 : decode cX1_listParts 57 = .ok (.goto (-45), 3) := by decide +kernel
theorem dX1_listParts_60 : decode cX1_listParts 60 = .ok (.return_, 1) := by decide +kernel
theorem dX1_partOf_0 : decode cX1_partOf 0 = .ok (.iload_n 2, 1) := by decide +kernel
theorem dX1_partOf_1 : decode cX1_partOf 1 = .ok (.iconst 1, 1) := by decide +kernel
theorem dX1_partOf_2 : decode cX1_partOf 2 = .ok (.if_icmp .lt 31, 3) := by decide +kernel
theorem dX1_partOf_5 : decode cX1_partOf 5 = .ok (.iload_n 2, 1) := by decide +kernel
theorem dX1_partOf_6 : decode cX1_partOf 6 = .ok (.aload_n 0, 1) := by decide +kernel
theorem dX1_partOf_7 : decode cX1_partOf 7 = .ok (.getfield 72, 3) := by decide +kernel
theorem dX1_partOf_10 : decode cX1_partOf 10 = .ok (.if_icmp .gt 23, 3) := by decide +kernel
theorem dX1_partOf_13 : decode cX1_partOf 13 = .ok (.iload_n 2, 1) := by decide +kernel
theorem dX1_partOf_14 : decode cX1_partOf 14 = .ok (.aload_n 0, 1) := by decide +kernel
theorem dX1_partOf_15 : decode cX1_partOf 15 = .ok (.getfield 46, 3) := by decide +kernel
theorem dX1_partOf_18 : decode cX1_partOf 18 = .ok (.arraylength, 1) := by decide +kernel
theorem dX1_partOf_19 : decode cX1_partOf 19 = .ok (.if_icmp .gt 14, 3) := by decide +kernel
theorem dX1_partOf_22 : decode cX1_partOf 22 = .ok (.aload_n 0, 1) := by decide +kernel
theorem dX1_partOf_23 : decode cX1_partOf 23 = .ok (.getfield 46, 3) := by decide +kernel
theorem dX1_partOf_26 : decode cX1_partOf 26 = .ok (.iload_n 2, 1) := by decide +kernel
theorem dX1_partOf_27 : decode cX1_partOf 27 = .ok (.iconst 1, 1) := by decide +kernel
theorem dX1_partOf_28 : decode cX1_partOf 28 = .ok (.isub, 1) := by decide +kernel
theorem dX1_partOf_29 : decode cX1_partOf 29 = .ok (.iaload, 1) := by decide +kernel
theorem dX1_partOf_30 : decode cX1_partOf 30 = .ok (.goto 4, 3) := by decide +kernel
theorem dX1_partOf_33 : decode cX1_partOf 33 = .ok (.iconst (-1), 1) := by decide +kernel
theorem dX1_partOf_34 : decode cX1_partOf 34 = .ok (.istore_n 3, 1) := by decide +kernel
theorem dX1_partOf_35 : decode cX1_partOf 35 = .ok (.iload_n 3, 1) := by decide +kernel
theorem dX1_partOf_36 : decode cX1_partOf 36 = .ok (.ifCond .lt 12, 3) := by decide +kernel
theorem dX1_partOf_39 : decode cX1_partOf 39 = .ok (.iload_n 3, 1) := by decide +kernel
theorem dX1_partOf_40 : decode cX1_partOf 40 = .ok (.aload_n 1, 1) := by decide +kernel
theorem dX1_partOf_41 : decode cX1_partOf 41 = .ok (.getfield 213, 3) := by decide +kernel
theorem dX1_partOf_44 : decode cX1_partOf 44 = .ok (.arraylength, 1) := by decide +kernel
theorem dX1_partOf_45 : decode cX1_partOf 45 = .ok (.if_icmp .lt 8, 3) := by decide +kernel
theorem dX1_partOf_48 : decode cX1_partOf 48 = .ok (.aload_n 0, 1) := by decide +kernel
theorem dX1_partOf_49 : decode cX1_partOf 49 = .ok (.getfield 38, 3) := by decide +kernel
theorem dX1_partOf_52 : decode cX1_partOf 52 = .ok (.areturn, 1) := by decide +kernel
theorem dX1_partOf_53 : decode cX1_partOf 53 = .ok (.aload_n 1, 1) := by decide +kernel
theorem dX1_partOf_54 : decode cX1_partOf 54 = .ok (.getfield 218, 3) := by decide +kernel
theorem dX1_partOf_57 : decode cX1_partOf 57 = .ok (.iload_n 3, 1) := by decide +kernel
theorem dX1_partOf_58 : decode cX1_partOf 58 = .ok (.baload, 1) := by decide +kernel
theorem dX1_partOf_59 : decode cX1_partOf 59 = .ok (.ifCond .ne 10, 3) := by decide +kernel
theorem dX1_partOf_62 : decode cX1_partOf 62 = .ok (.aload_n 0, 1) := by decide +kernel
theorem dX1_partOf_63 : decode cX1_partOf 63 = .ok (.iload_n 3, 1) := by decide +kernel
theorem dX1_partOf_64 : decode cX1_partOf 64 = .ok (.putfield 75, 3) := by decide +kernel
theorem dX1_partOf_67 : decode cX1_partOf 67 = .ok (.aconst_null, 1) := by decide +kernel
theorem dX1_partOf_68 : decode cX1_partOf 68 = .ok (.areturn, 1) := by decide +kernel
theorem dX1_partOf_69 : decode cX1_partOf 69 = .ok (.aload_n 1, 1) := by decide +kernel
theorem dX1_partOf_70 : decode cX1_partOf 70 = .ok (.getfield 213, 3) := by decide +kernel
theorem dX1_partOf_73 : decode cX1_partOf 73 = .ok (.iload_n 3, 1) := by decide +kernel
theorem dX1_partOf_74 : decode cX1_partOf 74 = .ok (.aaload, 1) := by decide +kernel
theorem dX1_partOf_75 : decode cX1_partOf 75 = .ok (.areturn, 1) := by decide +kernel
theorem dX1_giveFunction_0 : decode cX1_giveFunction 0 = .ok (.iload_n 2, 1) := by decide +kernel
theorem dX1_giveFunction_1 : decode cX1_giveFunction 1 = .ok (.iconst 2, 1) := by decide +kernel
theorem dX1_giveFunction_2 : decode cX1_giveFunction 2 = .ok (.if_icmp .ne 9, 3) := by decide +kernel
theorem dX1_giveFunction_5 : decode cX1_giveFunction 5 = .ok (.aload_n 0, 1) := by decide +kernel
theorem dX1_giveFunction_6 : decode cX1_giveFunction 6 = .ok (.aload_n 1, 1) := by decide +kernel
theorem dX1_giveFunction_7 : decode cX1_giveFunction 7 = .ok (.invokevirtual 225, 3) := by decide +kernel
theorem dX1_giveFunction_10 : decode cX1_giveFunction 10 = .ok (.ireturn, 1) := by decide +kernel
theorem dX1_giveFunction_11 : decode cX1_giveFunction 11 = .ok (.aload_n 0, 1) := by decide +kernel
theorem dX1_giveFunction_12 : decode cX1_giveFunction 12 = .ok (.aload_n 1, 1) := by decide +kernel
theorem dX1_giveFunction_13 : decode cX1_giveFunction 13 = .ok (.getfield 116, 3) := by decide +kernel
theorem dX1_giveFunction_16 : decode cX1_giveFunction 16 = .ok (.iconst 1, 1) := by decide +kernel
theorem dX1_giveFunction_17 : decode cX1_giveFunction 17 = .ok (.invokevirtual 229, 3) := by decide +kernel
theorem dX1_giveFunction_20 : decode cX1_giveFunction 20 = .ok (.astore_n 3, 1) := by decide +kernel
theorem dX1_giveFunction_21 : decode cX1_giveFunction 21 = .ok (.aload_n 3, 1) := by decide +kernel
theorem dX1_giveFunction_22 : decode cX1_giveFunction 22 = .ok (.ifnonnull 5, 3) := by decide +kernel
theorem dX1_giveFunction_25 : decode cX1_giveFunction 25 = .ok (.iconst 0, 1) := by decide +kernel
theorem dX1_giveFunction_26 : decode cX1_giveFunction 26 = .ok (.ireturn, 1) := by decide +kernel
theorem dX1_giveFunction_27 : decode cX1_giveFunction 27 = .ok (.iload_n 2, 1) := by decide +kernel
theorem dX1_giveFunction_28 : decode cX1_giveFunction 28 = .ok (.tableswitch 162 0 6 #[44, 62, 162, 106, 117, 137, 152], 44) := by decide +kernel
theorem dX1_giveFunction_72 : decode cX1_giveFunction 72 = .ok (.aload_n 0, 1) := by decide +kernel
theorem dX1_giveFunction_73 : decode cX1_giveFunction 73 = .ok (.aload_n 1, 1) := by decide +kernel
theorem dX1_giveFunction_74 : decode cX1_giveFunction 74 = .ok (.aload_n 3, 1) := by decide +kernel
theorem dX1_giveFunction_75 : decode cX1_giveFunction 75 = .ok (.invokevirtual 233, 3) := by decide +kernel
theorem dX1_giveFunction_78 : decode cX1_giveFunction 78 = .ok (.ifCond .eq 7, 3) := by decide +kernel
theorem dX1_giveFunction_81 : decode cX1_giveFunction 81 = .ok (.iconst 2, 1) := by decide +kernel
theorem dX1_giveFunction_82 : decode cX1_giveFunction 82 = .ok (.goto 4, 3) := by decide +kernel
theorem dX1_giveFunction_85 : decode cX1_giveFunction 85 = .ok (.iconst 3, 1) := by decide +kernel
theorem dX1_giveFunction_86 : decode cX1_giveFunction 86 = .ok (.invokevirtual 236, 3) := by decide +kernel
theorem dX1_giveFunction_89 : decode cX1_giveFunction 89 = .ok (.ireturn, 1) := by decide +kernel
theorem dX1_giveFunction_90 : decode cX1_giveFunction 90 = .ok (.aload_n 0, 1) := by decide +kernel
theorem dX1_giveFunction_91 : decode cX1_giveFunction 91 = .ok (.aload_n 1, 1) := by decide +kernel
theorem dX1_giveFunction_92 : decode cX1_giveFunction 92 = .ok (.getfield 116, 3) := by decide +kernel
theorem dX1_giveFunction_95 : decode cX1_giveFunction 95 = .ok (.iconst 2, 1) := by decide +kernel
theorem dX1_giveFunction_96 : decode cX1_giveFunction 96 = .ok (.invokevirtual 229, 3) := by decide +kernel
theorem dX1_giveFunction_99 : decode cX1_giveFunction 99 = .ok (.astore 4, 2) := by decide +kernel
theorem dX1_giveFunction_101 : decode cX1_giveFunction 101 = .ok (.aload 4, 2) := by decide +kernel
theorem dX1_giveFunction_103 : decode cX1_giveFunction 103 = .ok (.ifnull 29, 3) := by decide +kernel
theorem dX1_giveFunction_106 : decode cX1_giveFunction 106 = .ok (.aload_n 0, 1) := by decide +kernel
theorem dX1_giveFunction_107 : decode cX1_giveFunction 107 = .ok (.aload_n 1, 1) := by decide +kernel
theorem dX1_giveFunction_108 : decode cX1_giveFunction 108 = .ok (.aload_n 3, 1) := by decide +kernel
theorem dX1_giveFunction_109 : decode cX1_giveFunction 109 = .ok (.aload 4, 2) := by decide +kernel
theorem dX1_giveFunction_111 : decode cX1_giveFunction 111 = .ok (.invokevirtual 239, 3) := by decide +kernel
theorem dX1_giveFunction_114 : decode cX1_giveFunction 114 = .ok (.ifCond .eq 7, 3) := by decide +kernel
theorem dX1_giveFunction_117 : decode cX1_giveFunction 117 = .ok (.iconst 3, 1) := by decide +kernel
theorem dX1_giveFunction_118 : decode cX1_giveFunction 118 = .ok (.goto 4, 3) := by decide +kernel
theorem dX1_giveFunction_121 : decode cX1_giveFunction 121 = .ok (.iconst 4, 1) := by decide +kernel
theorem dX1_giveFunction_122 : decode cX1_giveFunction 122 = .ok (.invokevirtual 236, 3) := by decide +kernel
theorem dX1_giveFunction_125 : decode cX1_giveFunction 125 = .ok (.ifCond .eq 7, 3) := by decide +kernel
theorem dX1_giveFunction_128 : decode cX1_giveFunction 128 = .ok (.iconst 1, 1) := by decide +kernel
theorem dX1_giveFunction_129 : decode cX1_giveFunction 129 = .ok (.goto 4, 3) := by decide +kernel
theorem dX1_giveFunction_132 : decode cX1_giveFunction 132 = .ok (.iconst 0, 1) := by decide +kernel
theorem dX1_giveFunction_133 : decode cX1_giveFunction 133 = .ok (.ireturn, 1) := by decide +kernel
theorem dX1_giveFunction_134 : decode cX1_giveFunction 134 = .ok (.aload_n 0, 1) := by decide +kernel
theorem dX1_giveFunction_135 : decode cX1_giveFunction 135 = .ok (.aload_n 1, 1) := by decide +kernel
theorem dX1_giveFunction_136 : decode cX1_giveFunction 136 = .ok (.aload_n 3, 1) := by decide +kernel
theorem dX1_giveFunction_137 : decode cX1_giveFunction 137 = .ok (.invokevirtual 243, 3) := by decide +kernel
theorem dX1_giveFunction_140 : decode cX1_giveFunction 140 = .ok (.invokevirtual 247, 3) := by decide +kernel
theorem dX1_giveFunction_143 : decode cX1_giveFunction 143 = .ok (.iconst 1, 1) := by decide +kernel
theorem dX1_giveFunction_144 : decode cX1_giveFunction 144 = .ok (.ireturn, 1) := by decide +kernel
theorem dX1_giveFunction_145 : decode cX1_giveFunction 145 = .ok (.aload_n 1, 1) := by decide +kernel
theorem dX1_giveFunction_146 : decode cX1_giveFunction 146 = .ok (.getfield 120, 3) := by decide +kernel
theorem dX1_giveFunction_149 : decode cX1_giveFunction 149 = .ok (.aload_n 0, 1) := by decide +kernel
theorem dX1_giveFunction_150 : decode cX1_giveFunction 150 = .ok (.aload_n 3, 1) := by decide +kernel
theorem dX1_giveFunction_151 : decode cX1_giveFunction 151 = .ok (.invokevirtual 243, 3) := by decide +kernel
theorem dX1_giveFunction_154 : decode cX1_giveFunction 154 = .ok (.invokevirtual 251, 3) := by decide +kernel
theorem dX1_giveFunction_157 : decode cX1_giveFunction 157 = .ok (.invokestatic 254, 3) := by decide +kernel
theorem dX1_giveFunction_160 : decode cX1_giveFunction 160 = .ok (.invokevirtual 132, 3) := by decide +kernel
theorem dX1_giveFunction_163 : decode cX1_giveFunction 163 = .ok (.iconst 1, 1) := by decide +kernel
theorem dX1_giveFunction_164 : decode cX1_giveFunction 164 = .ok (.ireturn, 1) := by decide +kernel
theorem dX1_giveFunction_165 : decode cX1_giveFunction 165 = .ok (.aload_n 0, 1) := by decide +kernel
theorem dX1_giveFunction_166 : decode cX1_giveFunction 166 = .ok (.aload_n 1, 1) := by decide +kernel
theorem dX1_giveFunction_167 : decode cX1_giveFunction 167 = .ok (.aload_n 0, 1) := by decide +kernel
theorem dX1_giveFunction_168 : decode cX1_giveFunction 168 = .ok (.aload_n 3, 1) := by decide +kernel
theorem dX1_giveFunction_169 : decode cX1_giveFunction 169 = .ok (.invokevirtual 243, 3) := by decide +kernel
theorem dX1_giveFunction_172 : decode cX1_giveFunction 172 = .ok (.invokevirtual 251, 3) := by decide +kernel
theorem dX1_giveFunction_175 : decode cX1_giveFunction 175 = .ok (.invokevirtual 259, 3) := by decide +kernel
theorem dX1_giveFunction_178 : decode cX1_giveFunction 178 = .ok (.iconst 1, 1) := by decide +kernel
theorem dX1_giveFunction_179 : decode cX1_giveFunction 179 = .ok (.ireturn, 1) := by decide +kernel
theorem dX1_giveFunction_180 : decode cX1_giveFunction 180 = .ok (.aload_n 0, 1) := by decide +kernel
theorem dX1_giveFunction_181 : decode cX1_giveFunction 181 = .ok (.aload_n 1, 1) := by decide +kernel
theorem dX1_giveFunction_182 : decode cX1_giveFunction 182 = .ok (.aload_n 3, 1) := by decide +kernel
theorem dX1_giveFunction_183 : decode cX1_giveFunction 183 = .ok (.invokevirtual 243, 3) := by decide +kernel
theorem dX1_giveFunction_186 : decode cX1_giveFunction 186 = .ok (.invokevirtual 262, 3) := by decide +kernel
theorem dX1_giveFunction_189 : decode cX1_giveFunction 189 = .ok (.ireturn, 1) := by decide +kernel
theorem dX1_giveFunction_190 : decode cX1_giveFunction 190 = .ok (.iconst 1, 1) := by decide +kernel
theorem dX1_giveFunction_191 : decode cX1_giveFunction 191 = .ok (.ireturn, 1) := by decide +kernel
theorem dX1_givePart_0 : decode cX1_givePart 0 = .ok (.aload_n 0, 1) := by decide +kernel
theorem dX1_givePart_1 : decode cX1_givePart 1 = .ok (.aload_n 1, 1) := by decide +kernel
theorem dX1_givePart_2 : decode cX1_givePart 2 = .ok (.getfield 116, 3) := by decide +kernel
theorem dX1_givePart_5 : decode cX1_givePart 5 = .ok (.iload_n 2, 1) := by decide +kernel
theorem dX1_givePart_6 : decode cX1_givePart 6 = .ok (.invokevirtual 229, 3) := by decide +kernel
theorem dX1_givePart_9 : decode cX1_givePart 9 = .ok (.astore_n 3, 1) := by decide +kernel
theorem dX1_givePart_10 : decode cX1_givePart 10 = .ok (.aload_n 3, 1) := by decide +kernel
theorem dX1_givePart_11 : decode cX1_givePart 11 = .ok (.ifnonnull 5, 3) := by decide +kernel
theorem dX1_givePart_14 : decode cX1_givePart 14 = .ok (.iconst 0, 1) := by decide +kernel
theorem dX1_givePart_15 : decode cX1_givePart 15 = .ok (.ireturn, 1) := by decide +kernel
theorem dX1_givePart_16 : decode cX1_givePart 16 = .ok (.aload_n 1, 1) := by decide +kernel
theorem dX1_givePart_17 : decode cX1_givePart 17 = .ok (.getfield 120, 3) := by decide +kernel
theorem dX1_givePart_20 : decode cX1_givePart 20 = .ok (.aload_n 3, 1) := by decide +kernel
theorem dX1_givePart_21 : decode cX1_givePart 21 = .ok (.invokevirtual 209, 3) := by decide +kernel
theorem dX1_givePart_24 : decode cX1_givePart 24 = .ok (.iconst 1, 1) := by decide +kernel
theorem dX1_givePart_25 : decode cX1_givePart 25 = .ok (.ireturn, 1) := by decide +kernel
theorem dX1_giveSum_0 : decode cX1_giveSum 0 = .ok (.iconst 0, 1) := by decide +kernel
theorem dX1_giveSum_1 : decode cX1_giveSum 1 = .ok (.istore_n 2, 1) := by decide +kernel
theorem dX1_giveSum_2 : decode cX1_giveSum 2 = .ok (.iconst 1, 1) := by decide +kernel
theorem dX1_giveSum_3 : decode cX1_giveSum 3 = .ok (.istore_n 3, 1) := by decide +kernel
theorem dX1_giveSum_4 : decode cX1_giveSum 4 = .ok (.iload_n 3, 1) := by decide +kernel
theorem dX1_giveSum_5 : decode cX1_giveSum 5 = .ok (.aload_n 0, 1) := by decide +kernel
theorem dX1_giveSum_6 : decode cX1_giveSum 6 = .ok (.getfield 72, 3) := by decide +kernel
theorem dX1_giveSum_9 : decode cX1_giveSum 9 = .ok (.if_icmp .gt 35, 3) := by decide +kernel
theorem dX1_giveSum_12 : decode cX1_giveSum 12 = .ok (.aload_n 0, 1) := by decide +kernel
theorem dX1_giveSum_13 : decode cX1_giveSum 13 = .ok (.aload_n 1, 1) := by decide +kernel
theorem dX1_giveSum_14 : decode cX1_giveSum 14 = .ok (.getfield 116, 3) := by decide +kernel
theorem dX1_giveSum_17 : decode cX1_giveSum 17 = .ok (.iload_n 3, 1) := by decide +kernel
theorem dX1_giveSum_18 : decode cX1_giveSum 18 = .ok (.invokevirtual 229, 3) := by decide +kernel
theorem dX1_giveSum_21 : decode cX1_giveSum 21 = .ok (.astore 4, 2) := by decide +kernel
theorem dX1_giveSum_23 : decode cX1_giveSum 23 = .ok (.aload 4, 2) := by decide +kernel
theorem dX1_giveSum_25 : decode cX1_giveSum 25 = .ok (.ifnonnull 5, 3) := by decide +kernel
theorem dX1_giveSum_28 : decode cX1_giveSum 28 = .ok (.iconst 0, 1) := by decide +kernel
theorem dX1_giveSum_29 : decode cX1_giveSum 29 = .ok (.ireturn, 1) := by decide +kernel
theorem dX1_giveSum_30 : decode cX1_giveSum 30 = .ok (.iload_n 2, 1) := by decide +kernel
theorem dX1_giveSum_31 : decode cX1_giveSum 31 = .ok (.aload 4, 2) := by decide +kernel
theorem dX1_giveSum_33 : decode cX1_giveSum 33 = .ok (.getfield 265, 3) := by decide +kernel
theorem dX1_giveSum_36 : decode cX1_giveSum 36 = .ok (.iadd, 1) := by decide +kernel
theorem dX1_giveSum_37 : decode cX1_giveSum 37 = .ok (.istore_n 2, 1) := by decide +kernel
theorem dX1_giveSum_38 : decode cX1_giveSum 38 = .ok (.iinc 3 1, 3) := by decide +kernel
theorem dX1_giveSum_41 : decode cX1_giveSum 41 = .ok (.goto (-37), 3) := by decide +kernel
theorem dX1_giveSum_44 : decode cX1_giveSum 44 = .ok (.aload_n 1, 1) := by decide +kernel
theorem dX1_giveSum_45 : decode cX1_giveSum 45 = .ok (.getfield 120, 3) := by decide +kernel
theorem dX1_giveSum_48 : decode cX1_giveSum 48 = .ok (.iload_n 2, 1) := by decide +kernel
theorem dX1_giveSum_49 : decode cX1_giveSum 49 = .ok (.sipush 1000, 3) := by decide +kernel
theorem dX1_giveSum_52 : decode cX1_giveSum 52 = .ok (.irem, 1) := by decide +kernel
theorem dX1_giveSum_53 : decode cX1_giveSum 53 = .ok (.invokevirtual 132, 3) := by decide +kernel
theorem dX1_giveSum_56 : decode cX1_giveSum 56 = .ok (.iconst 1, 1) := by decide +kernel
theorem dX1_giveSum_57 : decode cX1_giveSum 57 = .ok (.ireturn, 1) := by decide +kernel
theorem dX1_giveExists_0 : decode cX1_giveExists 0 = .ok (.iload_n 2, 1) := by decide +kernel
theorem dX1_giveExists_1 : decode cX1_giveExists 1 = .ok (.ifCond .lt 13, 3) := by decide +kernel
theorem dX1_giveExists_4 : decode cX1_giveExists 4 = .ok (.iload_n 2, 1) := by decide +kernel
theorem dX1_giveExists_5 : decode cX1_giveExists 5 = .ok (.bipush 24, 2) := by decide +kernel
theorem dX1_giveExists_7 : decode cX1_giveExists 7 = .ok (.if_icmp .ge 7, 3) := by decide +kernel
theorem dX1_giveExists_10 : decode cX1_giveExists 10 = .ok (.iconst 1, 1) := by decide +kernel
theorem dX1_giveExists_11 : decode cX1_giveExists 11 = .ok (.goto 4, 3) := by decide +kernel
theorem dX1_giveExists_14 : decode cX1_giveExists 14 = .ok (.iconst 0, 1) := by decide +kernel
theorem dX1_giveExists_15 : decode cX1_giveExists 15 = .ok (.istore_n 3, 1) := by decide +kernel
theorem dX1_giveExists_16 : decode cX1_giveExists 16 = .ok (.iload_n 3, 1) := by decide +kernel
theorem dX1_giveExists_17 : decode cX1_giveExists 17 = .ok (.ifCond .eq 18, 3) := by decide +kernel
theorem dX1_giveExists_20 : decode cX1_giveExists 20 = .ok (.aload_n 0, 1) := by decide +kernel
theorem dX1_giveExists_21 : decode cX1_giveExists 21 = .ok (.getfield 52, 3) := by decide +kernel
theorem dX1_giveExists_24 : decode cX1_giveExists 24 = .ok (.dup, 1) := by decide +kernel
theorem dX1_giveExists_25 : decode cX1_giveExists 25 = .ok (.getfield 171, 3) := by decide +kernel
theorem dX1_giveExists_28 : decode cX1_giveExists 28 = .ok (.iconst 1, 1) := by decide +kernel
theorem dX1_giveExists_29 : decode cX1_giveExists 29 = .ok (.iload_n 2, 1) := by decide +kernel
theorem dX1_giveExists_30 : decode cX1_giveExists 30 = .ok (.ishl, 1) := by decide +kernel
theorem dX1_giveExists_31 : decode cX1_giveExists 31 = .ok (.ior, 1) := by decide +kernel
theorem dX1_giveExists_32 : decode cX1_giveExists 32 = .ok (.putfield 171, 3) := by decide +kernel
theorem dX1_giveExists_35 : decode cX1_giveExists 35 = .ok (.aload_n 1, 1) := by decide +kernel
theorem dX1_giveExists_36 : decode cX1_giveExists 36 = .ok (.getfield 120, 3) := by decide +kernel
theorem dX1_giveExists_39 : decode cX1_giveExists 39 = .ok (.iload_n 3, 1) := by decide +kernel
theorem dX1_giveExists_40 : decode cX1_giveExists 40 = .ok (.ifCond .eq 19, 3) := by decide +kernel
theorem dX1_giveExists_43 : decode cX1_giveExists 43 = .ok (.aload_n 0, 1) := by decide +kernel
theorem dX1_giveExists_44 : decode cX1_giveExists 44 = .ok (.iload_n 2, 1) := by decide +kernel
theorem dX1_giveExists_45 : decode cX1_giveExists 45 = .ok (.aload_n 0, 1) := by decide +kernel
theorem dX1_giveExists_46 : decode cX1_giveExists 46 = .ok (.getfield 66, 3) := by decide +kernel
theorem dX1_giveExists_49 : decode cX1_giveExists 49 = .ok (.invokevirtual 178, 3) := by decide +kernel
theorem dX1_giveExists_52 : decode cX1_giveExists 52 = .ok (.ifnull 7, 3) := by decide +kernel
theorem dX1_giveExists_55 : decode cX1_giveExists 55 = .ok (.iconst 1, 1) := by decide +kernel
theorem dX1_giveExists_56 : decode cX1_giveExists 56 = .ok (.goto 4, 3) := by decide +kernel
theorem dX1_giveExists_59 : decode cX1_giveExists 59 = .ok (.iconst 0, 1) := by decide +kernel
theorem dX1_giveExists_60 : decode cX1_giveExists 60 = .ok (.invokevirtual 132, 3) := by decide +kernel
theorem dX1_giveExists_63 : decode cX1_giveExists 63 = .ok (.return_, 1) := by decide +kernel
theorem dX1_countedMembers_0 : decode cX1_countedMembers 0 = .ok (.iload_n 1, 1) := by decide +kernel
theorem dX1_countedMembers_1 : decode cX1_countedMembers 1 = .ok (.ifCond .lt 9, 3) := by decide +kernel
theorem dX1_countedMembers_4 : decode cX1_countedMembers 4 = .ok (.iload_n 1, 1) := by decide +kernel
theorem dX1_countedMembers_5 : decode cX1_countedMembers 5 = .ok (.bipush 8, 2) := by decide +kernel
theorem dX1_countedMembers_7 : decode cX1_countedMembers 7 = .ok (.if_icmp .lt 5, 3) := by decide +kernel
theorem dX1_countedMembers_10 : decode cX1_countedMembers 10 = .ok (.iconst 0, 1) := by decide +kernel
theorem dX1_countedMembers_11 : decode cX1_countedMembers 11 = .ok (.ireturn, 1) := by decide +kernel
theorem dX1_countedMembers_12 : decode cX1_countedMembers 12 = .ok (.aload_n 0, 1) := by decide +kernel
theorem dX1_countedMembers_13 : decode cX1_countedMembers 13 = .ok (.getfield 52, 3) := by decide +kernel
theorem dX1_countedMembers_16 : decode cX1_countedMembers 16 = .ok (.dup, 1) := by decide +kernel
theorem dX1_countedMembers_17 : decode cX1_countedMembers 17 = .ok (.getfield 268, 3) := by decide +kernel
theorem dX1_countedMembers_20 : decode cX1_countedMembers 20 = .ok (.iconst 1, 1) := by decide +kernel
theorem dX1_countedMembers_21 : decode cX1_countedMembers 21 = .ok (.iload_n 1, 1) := by decide +kernel
theorem dX1_countedMembers_22 : decode cX1_countedMembers 22 = .ok (.ishl, 1) := by decide +kernel
theorem dX1_countedMembers_23 : decode cX1_countedMembers 23 = .ok (.ior, 1) := by decide +kernel
theorem dX1_countedMembers_24 : decode cX1_countedMembers 24 = .ok (.putfield 268, 3) := by decide +kernel
theorem dX1_countedMembers_27 : decode cX1_countedMembers 27 = .ok (.aload_n 0, 1) := by decide +kernel
theorem dX1_countedMembers_28 : decode cX1_countedMembers 28 = .ok (.getfield 11, 3) := by decide +kernel
theorem dX1_countedMembers_31 : decode cX1_countedMembers 31 = .ok (.iload_n 1, 1) := by decide +kernel
theorem dX1_countedMembers_32 : decode cX1_countedMembers 32 = .ok (.invokestatic 271, 3) := by decide +kernel
theorem dX1_countedMembers_35 : decode cX1_countedMembers 35 = .ok (.ireturn, 1) := by decide +kernel
theorem dX1_giveList_0 : decode cX1_giveList 0 = .ok (.aload_n 0, 1) := by decide +kernel
theorem dX1_giveList_1 : decode cX1_giveList 1 = .ok (.getfield 52, 3) := by decide +kernel
theorem dX1_giveList_4 : decode cX1_giveList 4 = .ok (.dup, 1) := by decide +kernel
theorem dX1_giveList_5 : decode cX1_giveList 5 = .ok (.getfield 136, 3) := by decide +kernel
theorem dX1_giveList_8 : decode cX1_giveList 8 = .ok (.iload_n 2, 1) := by decide +kernel
theorem dX1_giveList_9 : decode cX1_giveList 9 = .ok (.ior, 1) := by decide +kernel
theorem dX1_giveList_10 : decode cX1_giveList 10 = .ok (.putfield 136, 3) := by decide +kernel
theorem dX1_giveList_13 : decode cX1_giveList 13 = .ok (.iconst 0, 1) := by decide +kernel
theorem dX1_giveList_14 : decode cX1_giveList 14 = .ok (.istore_n 3, 1) := by decide +kernel
theorem dX1_giveList_15 : decode cX1_giveList 15 = .ok (.iload_n 3, 1) := by decide +kernel
theorem dX1_giveList_16 : decode cX1_giveList 16 = .ok (.bipush 24, 2) := by decide +kernel
theorem dX1_giveList_18 : decode cX1_giveList 18 = .ok (.if_icmp .ge 29, 3) := by decide +kernel
theorem dX1_giveList_21 : decode cX1_giveList 21 = .ok (.iload_n 2, 1) := by decide +kernel
theorem dX1_giveList_22 : decode cX1_giveList 22 = .ok (.iload_n 3, 1) := by decide +kernel
theorem dX1_giveList_23 : decode cX1_giveList 23 = .ok (.invokestatic 275, 3) := by decide +kernel
theorem dX1_giveList_26 : decode cX1_giveList 26 = .ok (.ifCond .eq 15, 3) := by decide +kernel
theorem dX1_giveList_29 : decode cX1_giveList 29 = .ok (.aload_n 1, 1) := by decide +kernel
theorem dX1_giveList_30 : decode cX1_giveList 30 = .ok (.getfield 120, 3) := by decide +kernel
theorem dX1_giveList_33 : decode cX1_giveList 33 = .ok (.sipush 1000, 3) := by decide +kernel
theorem dX1_giveList_36 : decode cX1_giveList 36 = .ok (.iload_n 3, 1) := by decide +kernel
theorem dX1_giveList_37 : decode cX1_giveList 37 = .ok (.iadd, 1) := by decide +kernel
theorem dX1_giveList_38 : decode cX1_giveList 38 = .ok (.invokevirtual 132, 3) := by decide +kernel
theorem dX1_giveList_41 : decode cX1_giveList 41 = .ok (.iinc 3 1, 3) := by decide +kernel
theorem dX1_giveList_44 : decode cX1_giveList 44 = .ok (.goto (-29), 3) := by decide +kernel
theorem dX1_giveList_47 : decode cX1_giveList 47 = .ok (.return_, 1) := by decide +kernel
theorem dX1_giveModule_0 : decode cX1_giveModule 0 = .ok (.sipush 9004, 3) := by decide +kernel
theorem dX1_giveModule_3 : decode cX1_giveModule 3 = .ok (.istore_n 3, 1) := by decide +kernel
theorem dX1_giveModule_4 : decode cX1_giveModule 4 = .ok (.iload_n 2, 1) := by decide +kernel
theorem dX1_giveModule_5 : decode cX1_giveModule 5 = .ok (.ifCond .lt 42, 3) := by decide +kernel
theorem dX1_giveModule_8 : decode cX1_giveModule 8 = .ok (.iload_n 2, 1) := by decide +kernel
theorem dX1_giveModule_9 : decode cX1_giveModule 9 = .ok (.aload_n 0, 1) := by decide +kernel
theorem dX1_giveModule_10 : decode cX1_giveModule 10 = .ok (.getfield 19, 3) := by decide +kernel
theorem dX1_giveModule_13 : decode cX1_giveModule 13 = .ok (.arraylength, 1) := by decide +kernel
theorem dX1_giveModule_14 : decode cX1_giveModule 14 = .ok (.if_icmp .ge 33, 3) := by decide +kernel
theorem dX1_giveModule_17 : decode cX1_giveModule 17 = .ok (.aload_n 0, 1) := by decide +kernel
theorem dX1_giveModule_18 : decode cX1_giveModule 18 = .ok (.getfield 52, 3) := by decide +kernel
theorem dX1_giveModule_21 : decode cX1_giveModule 21 = .ok (.dup, 1) := by decide +kernel
theorem dX1_giveModule_22 : decode cX1_giveModule 22 = .ok (.getfield 279, 3) := by decide +kernel
theorem dX1_giveModule_25 : decode cX1_giveModule 25 = .ok (.iconst 1, 1) := by decide +kernel
theorem dX1_giveModule_26 : decode cX1_giveModule 26 = .ok (.iload_n 2, 1) := by decide +kernel
theorem dX1_giveModule_27 : decode cX1_giveModule 27 = .ok (.ishl, 1) := by decide +kernel
theorem dX1_giveModule_28 : decode cX1_giveModule 28 = .ok (.ior, 1) := by decide +kernel
theorem dX1_giveModule_29 : decode cX1_giveModule 29 = .ok (.putfield 279, 3) := by decide +kernel
theorem dX1_giveModule_32 : decode cX1_giveModule 32 = .ok (.aload_n 0, 1) := by decide +kernel
theorem dX1_giveModule_33 : decode cX1_giveModule 33 = .ok (.aload_n 0, 1) := by decide +kernel
theorem dX1_giveModule_34 : decode cX1_giveModule 34 = .ok (.getfield 19, 3) := by decide +kernel
theorem dX1_giveModule_37 : decode cX1_giveModule 37 = .ok (.iload_n 2, 1) := by decide +kernel
theorem dX1_giveModule_38 : decode cX1_giveModule 38 = .ok (.aaload, 1) := by decide +kernel
theorem dX1_giveModule_39 : decode cX1_giveModule 39 = .ok (.aload_n 1, 1) := by decide +kernel
theorem dX1_giveModule_40 : decode cX1_giveModule 40 = .ok (.getfield 116, 3) := by decide +kernel
theorem dX1_giveModule_43 : decode cX1_giveModule 43 = .ok (.invokevirtual 282, 3) := by decide +kernel
theorem dX1_giveModule_46 : decode cX1_giveModule 46 = .ok (.istore_n 3, 1) := by decide +kernel
theorem dX1_giveModule_47 : decode cX1_giveModule 47 = .ok (.iload_n 3, 1) := by decide +kernel
theorem dX1_giveModule_48 : decode cX1_giveModule 48 = .ok (.bipush (-2), 2) := by decide +kernel
theorem dX1_giveModule_50 : decode cX1_giveModule 50 = .ok (.if_icmp .ne 5, 3) := by decide +kernel
theorem dX1_giveModule_53 : decode cX1_giveModule 53 = .ok (.iconst 0, 1) := by decide +kernel
theorem dX1_giveModule_54 : decode cX1_giveModule 54 = .ok (.ireturn, 1) := by decide +kernel
theorem dX1_giveModule_55 : decode cX1_giveModule 55 = .ok (.aload_n 1, 1) := by decide +kernel
theorem dX1_giveModule_56 : decode cX1_giveModule 56 = .ok (.getfield 120, 3) := by decide +kernel
theorem dX1_giveModule_59 : decode cX1_giveModule 59 = .ok (.iload_n 3, 1) := by decide +kernel
theorem dX1_giveModule_60 : decode cX1_giveModule 60 = .ok (.invokevirtual 132, 3) := by decide +kernel
theorem dX1_giveModule_63 : decode cX1_giveModule 63 = .ok (.iconst 1, 1) := by decide +kernel
theorem dX1_giveModule_64 : decode cX1_giveModule 64 = .ok (.ireturn, 1) := by decide +kernel
theorem dX1_outOf_0 : decode cX1_outOf 0 = .ok (.iconst 0, 1) := by decide +kernel
theorem dX1_outOf_1 : decode cX1_outOf 1 = .ok (.istore_n 3, 1) := by decide +kernel
theorem dX1_outOf_2 : decode cX1_outOf 2 = .ok (.iconst 0, 1) := by decide +kernel
theorem dX1_outOf_3 : decode cX1_outOf 3 = .ok (.istore 4, 2) := by decide +kernel
theorem dX1_outOf_5 : decode cX1_outOf 5 = .ok (.iconst 0, 1) := by decide +kernel
theorem dX1_outOf_6 : decode cX1_outOf 6 = .ok (.istore 5, 2) := by decide +kernel
theorem dX1_outOf_8 : decode cX1_outOf 8 = .ok (.iload 5, 2) := by decide +kernel
theorem dX1_outOf_10 : decode cX1_outOf 10 = .ok (.bipush 50, 2) := by decide +kernel
theorem dX1_outOf_12 : decode cX1_outOf 12 = .ok (.if_icmp .ge 210, 3) := by decide +kernel
theorem dX1_outOf_15 : decode cX1_outOf 15 = .ok (.aload_n 1, 1) := by decide +kernel
theorem dX1_outOf_16 : decode cX1_outOf 16 = .ok (.iload 4, 2) := by decide +kernel
theorem dX1_outOf_18 : decode cX1_outOf 18 = .ok (.invokevirtual 286, 3) := by decide +kernel
theorem dX1_outOf_21 : decode cX1_outOf 21 = .ok (.istore 6, 2) := by decide +kernel
theorem dX1_outOf_23 : decode cX1_outOf 23 = .ok (.aload_n 1, 1) := by decide +kernel
theorem dX1_outOf_24 : decode cX1_outOf 24 = .ok (.iload 4, 2) := by decide +kernel
theorem dX1_outOf_26 : decode cX1_outOf 26 = .ok (.invokevirtual 289, 3) := by decide +kernel
theorem dX1_outOf_29 : decode cX1_outOf 29 = .ok (.istore 7, 2) := by decide +kernel
theorem dX1_outOf_31 : decode cX1_outOf 31 = .ok (.iinc 4 1, 3) := by decide +kernel
theorem dX1_outOf_34 : decode cX1_outOf 34 = .ok (.aload_n 0, 1) := by decide +kernel
theorem dX1_outOf_35 : decode cX1_outOf 35 = .ok (.iload 6, 2) := by decide +kernel
theorem dX1_outOf_37 : decode cX1_outOf 37 = .ok (.invokevirtual 290, 3) := by decide +kernel
theorem dX1_outOf_40 : decode cX1_outOf 40 = .ok (.istore 8, 2) := by decide +kernel
theorem dX1_outOf_42 : decode cX1_outOf 42 = .ok (.iload_n 3, 1) := by decide +kernel
theorem dX1_outOf_43 : decode cX1_outOf 43 = .ok (.iload 8, 2) := by decide +kernel
theorem dX1_outOf_45 : decode cX1_outOf 45 = .ok (.isub, 1) := by decide +kernel
theorem dX1_outOf_46 : decode cX1_outOf 46 = .ok (.istore 9, 2) := by decide +kernel
theorem dX1_outOf_48 : decode cX1_outOf 48 = .ok (.aload_n 0, 1) := by decide +kernel
theorem dX1_outOf_49 : decode cX1_outOf 49 = .ok (.iload_n 3, 1) := by decide +kernel
theorem dX1_outOf_50 : decode cX1_outOf 50 = .ok (.iconst 1, 1) := by decide +kernel
theorem dX1_outOf_51 : decode cX1_outOf 51 = .ok (.isub, 1) := by decide +kernel
theorem dX1_outOf_52 : decode cX1_outOf 52 = .ok (.invokevirtual 293, 3) := by decide +kernel
theorem dX1_outOf_55 : decode cX1_outOf 55 = .ok (.istore 10, 2) := by decide +kernel
theorem dX1_outOf_57 : decode cX1_outOf 57 = .ok (.iload 6, 2) := by decide +kernel
theorem dX1_outOf_59 : decode cX1_outOf 59 = .ok (.iconst (-1), 1) := by decide +kernel
theorem dX1_outOf_60 : decode cX1_outOf 60 = .ok (.if_icmp .eq 8, 3) := by decide +kernel
theorem dX1_outOf_63 : decode cX1_outOf 63 = .ok (.iload 9, 2) := by decide +kernel
theorem dX1_outOf_65 : decode cX1_outOf 65 = .ok (.ifCond .ge 7, 3) := by decide +kernel
theorem dX1_outOf_68 : decode cX1_outOf 68 = .ok (.sipush 9004, 3) := by decide +kernel
theorem dX1_outOf_71 : decode cX1_outOf 71 = .ok (.ireturn, 1) := by decide +kernel
theorem dX1_outOf_72 : decode cX1_outOf 72 = .ok (.iload 6, 2) := by decide +kernel
theorem dX1_outOf_74 : decode cX1_outOf 74 = .ok (.bipush 8, 2) := by decide +kernel
theorem dX1_outOf_76 : decode cX1_outOf 76 = .ok (.if_icmp .ne 6, 3) := by decide +kernel
theorem dX1_outOf_79 : decode cX1_outOf 79 = .ok (.iload 10, 2) := by decide +kernel
theorem dX1_outOf_81 : decode cX1_outOf 81 = .ok (.ireturn, 1) := by decide +kernel
theorem dX1_outOf_82 : decode cX1_outOf 82 = .ok (.iload 6, 2) := by decide +kernel
theorem dX1_outOf_84 : decode cX1_outOf 84 = .ok (.bipush 6, 2) := by decide +kernel
theorem dX1_outOf_86 : decode cX1_outOf 86 = .ok (.if_icmp .eq 15, 3) := by decide +kernel
theorem dX1_outOf_89 : decode cX1_outOf 89 = .ok (.iload 6, 2) := by decide +kernel
theorem dX1_outOf_91 : decode cX1_outOf 91 = .ok (.bipush 7, 2) := by decide +kernel
theorem dX1_outOf_93 : decode cX1_outOf 93 = .ok (.if_icmp .ne 12, 3) := by decide +kernel
theorem dX1_outOf_96 : decode cX1_outOf 96 = .ok (.iload 10, 2) := by decide +kernel
theorem dX1_outOf_98 : decode cX1_outOf 98 = .ok (.ifCond .ne 7, 3) := by decide +kernel
