theorem dX12_countOf_15 : decode cX12_countOf 15 = .ok (.iconst 1, 1) := by decide +kernel
theorem dX12_countOf_16 : decode cX12_countOf 16 = .ok (.ishr, 1) := by decide +kernel
theorem dX12_countOf_17 : decode cX12_countOf 17 = .ok (.istore_n 2, 1) := by decide +kernel
theorem dX12_countOf_18 : decode cX12_countOf 18 = .ok (.goto (-14), 3) := by decide +kernel
theorem dX12_countOf_21 : decode cX12_countOf 21 = .ok (.iload_n 1, 1) := by decide +kernel
theorem dX12_countOf_22 : decode cX12_countOf 22 = .ok (.ireturn, 1) := by decide +kernel
theorem dX12_membersOf_0 : decode cX12_membersOf 0 = .ok (.iconst 0, 1) := by decide +kernel
theorem dX12_membersOf_1 : decode cX12_membersOf 1 = .ok (.istore_n 2, 1) := by decide +kernel
theorem dX12_membersOf_2 : decode cX12_membersOf 2 = .ok (.iconst 0, 1) := by decide +kernel
theorem dX12_membersOf_3 : decode cX12_membersOf 3 = .ok (.istore_n 3, 1) := by decide +kernel
theorem dX12_membersOf_4 : decode cX12_membersOf 4 = .ok (.iload_n 3, 1) := by decide +kernel
theorem dX12_membersOf_5 : decode cX12_membersOf 5 = .ok (.bipush 24, 2) := by decide +kernel
theorem dX12_membersOf_7 : decode cX12_membersOf 7 = .ok (.if_icmp .ge 24, 3) := by decide +kernel
theorem dX12_membersOf_10 : decode cX12_membersOf 10 = .ok (.iload_n 2, 1) := by decide +kernel
theorem dX12_membersOf_11 : decode cX12_membersOf 11 = .ok (.aload_n 0, 1) := by decide +kernel
theorem dX12_membersOf_12 : decode cX12_membersOf 12 = .ok (.getfield 86, 3) := by decide +kernel
theorem dX12_membersOf_15 : decode cX12_membersOf 15 = .ok (.iload_n 3, 1) := by decide +kernel
theorem dX12_membersOf_16 : decode cX12_membersOf 16 = .ok (.iaload, 1) := by decide +kernel
theorem dX12_membersOf_17 : decode cX12_membersOf 17 = .ok (.iload_n 1, 1) := by decide +kernel
theorem dX12_membersOf_18 : decode cX12_membersOf 18 = .ok (.ishr, 1) := by decide +kernel
theorem dX12_membersOf_19 : decode cX12_membersOf 19 = .ok (.iconst 1, 1) := by decide +kernel
theorem dX12_membersOf_20 : decode cX12_membersOf 20 = .ok (.iand, 1) := by decide +kernel
theorem dX12_membersOf_21 : decode cX12_membersOf 21 = .ok (.iload_n 3, 1) := by decide +kernel
theorem dX12_membersOf_22 : decode cX12_membersOf 22 = .ok (.ishl, 1) := by decide +kernel
theorem dX12_membersOf_23 : decode cX12_membersOf 23 = .ok (.ior, 1) := by decide +kernel
theorem dX12_membersOf_24 : decode cX12_membersOf 24 = .ok (.istore_n 2, 1) := by decide +kernel
theorem dX12_membersOf_25 : decode cX12_membersOf 25 = .ok (.iinc 3 1, 3) := by decide +kernel
theorem dX12_membersOf_28 : decode cX12_membersOf 28 = .ok (.goto (-24), 3) := by decide +kernel
theorem dX12_membersOf_31 : decode cX12_membersOf 31 = .ok (.iload_n 2, 1) := by decide +kernel
theorem dX12_membersOf_32 : decode cX12_membersOf 32 = .ok (.ireturn, 1) := by decide +kernel
theorem dX12_takesTwo_0 : decode cX12_takesTwo 0 = .ok (.aload_n 0, 1) := by decide +kernel
theorem dX12_takesTwo_1 : decode cX12_takesTwo 1 = .ok (.getfield 322, 3) := by decide +kernel
theorem dX12_takesTwo_4 : decode cX12_takesTwo 4 = .ok (.iconst 2, 1) := by decide +kernel
theorem dX12_takesTwo_5 : decode cX12_takesTwo 5 = .ok (.if_icmp .ge 5, 3) := by decide +kernel
theorem dX12_takesTwo_8 : decode cX12_takesTwo 8 = .ok (.iconst 0, 1) := by decide +kernel
theorem dX12_takesTwo_9 : decode cX12_takesTwo 9 = .ok (.ireturn, 1) := by decide +kernel
theorem dX12_takesTwo_10 : decode cX12_takesTwo 10 = .ok (.aload_n 0, 1) := by decide +kernel
theorem dX12_takesTwo_11 : decode cX12_takesTwo 11 = .ok (.getfield 168, 3) := by decide +kernel
theorem dX12_takesTwo_14 : decode cX12_takesTwo 14 = .ok (.aload_n 0, 1) := by decide +kernel
theorem dX12_takesTwo_15 : decode cX12_takesTwo 15 = .ok (.getfield 322, 3) := by decide +kernel
theorem dX12_takesTwo_18 : decode cX12_takesTwo 18 = .ok (.iconst 1, 1) := by decide +kernel
theorem dX12_takesTwo_19 : decode cX12_takesTwo 19 = .ok (.isub, 1) := by decide +kernel
theorem dX12_takesTwo_20 : decode cX12_takesTwo 20 = .ok (.iaload, 1) := by decide +kernel
theorem dX12_takesTwo_21 : decode cX12_takesTwo 21 = .ok (.istore_n 2, 1) := by decide +kernel
theorem dX12_takesTwo_22 : decode cX12_takesTwo 22 = .ok (.aload_n 0, 1) := by decide +kernel
theorem dX12_takesTwo_23 : decode cX12_takesTwo 23 = .ok (.getfield 168, 3) := by decide +kernel
theorem dX12_takesTwo_26 : decode cX12_takesTwo 26 = .ok (.aload_n 0, 1) := by decide +kernel
theorem dX12_takesTwo_27 : decode cX12_takesTwo 27 = .ok (.getfield 322, 3) := by decide +kernel
theorem dX12_takesTwo_30 : decode cX12_takesTwo 30 = .ok (.iconst 2, 1) := by decide +kernel
theorem dX12_takesTwo_31 : decode cX12_takesTwo 31 = .ok (.isub, 1) := by decide +kernel
theorem dX12_takesTwo_32 : decode cX12_takesTwo 32 = .ok (.iaload, 1) := by decide +kernel
theorem dX12_takesTwo_33 : decode cX12_takesTwo 33 = .ok (.istore_n 3, 1) := by decide +kernel
theorem dX12_takesTwo_34 : decode cX12_takesTwo 34 = .ok (.aload_n 0, 1) := by decide +kernel
theorem dX12_takesTwo_35 : decode cX12_takesTwo 35 = .ok (.dup, 1) := by decide +kernel
theorem dX12_takesTwo_36 : decode cX12_takesTwo 36 = .ok (.getfield 322, 3) := by decide +kernel
theorem dX12_takesTwo_39 : decode cX12_takesTwo 39 = .ok (.iconst 1, 1) := by decide +kernel
theorem dX12_takesTwo_40 : decode cX12_takesTwo 40 = .ok (.isub, 1) := by decide +kernel
theorem dX12_takesTwo_41 : decode cX12_takesTwo 41 = .ok (.putfield 322, 3) := by decide +kernel
theorem dX12_takesTwo_44 : decode cX12_takesTwo 44 = .ok (.aload_n 0, 1) := by decide +kernel
theorem dX12_takesTwo_45 : decode cX12_takesTwo 45 = .ok (.getfield 168, 3) := by decide +kernel
theorem dX12_takesTwo_48 : decode cX12_takesTwo 48 = .ok (.aload_n 0, 1) := by decide +kernel
theorem dX12_takesTwo_49 : decode cX12_takesTwo 49 = .ok (.getfield 322, 3) := by decide +kernel
theorem dX12_takesTwo_52 : decode cX12_takesTwo 52 = .ok (.iconst 1, 1) := by decide +kernel
theorem dX12_takesTwo_53 : decode cX12_takesTwo 53 = .ok (.isub, 1) := by decide +kernel
theorem dX12_takesTwo_54 : decode cX12_takesTwo 54 = .ok (.iload_n 1, 1) := by decide +kernel
theorem dX12_takesTwo_55 : decode cX12_takesTwo 55 = .ok (.iconst 2, 1) := by decide +kernel
theorem dX12_takesTwo_56 : decode cX12_takesTwo 56 = .ok (.if_icmp .ne 13, 3) := by decide +kernel
theorem dX12_takesTwo_59 : decode cX12_takesTwo 59 = .ok (.iload_n 3, 1) := by decide +kernel
theorem dX12_takesTwo_60 : decode cX12_takesTwo 60 = .ok (.iload_n 2, 1) := by decide +kernel
theorem dX12_takesTwo_61 : decode cX12_takesTwo 61 = .ok (.iadd, 1) := by decide +kernel
theorem dX12_takesTwo_62 : decode cX12_takesTwo 62 = .ok (.sipush 1000, 3) := by decide +kernel
theorem dX12_takesTwo_65 : decode cX12_takesTwo 65 = .ok (.irem, 1) := by decide +kernel
theorem dX12_takesTwo_66 : decode cX12_takesTwo 66 = .ok (.goto 47, 3) := by decide +kernel
theorem dX12_takesTwo_69 : decode cX12_takesTwo 69 = .ok (.iload_n 1, 1) := by decide +kernel
theorem dX12_takesTwo_70 : decode cX12_takesTwo 70 = .ok (.iconst 3, 1) := by decide +kernel
theorem dX12_takesTwo_71 : decode cX12_takesTwo 71 = .ok (.if_icmp .ne 17, 3) := by decide +kernel
theorem dX12_takesTwo_74 : decode cX12_takesTwo 74 = .ok (.iload_n 3, 1) := by decide +kernel
theorem dX12_takesTwo_75 : decode cX12_takesTwo 75 = .ok (.iload_n 2, 1) := by decide +kernel
theorem dX12_takesTwo_76 : decode cX12_takesTwo 76 = .ok (.isub, 1) := by decide +kernel
theorem dX12_takesTwo_77 : decode cX12_takesTwo 77 = .ok (.sipush 1000, 3) := by decide +kernel
theorem dX12_takesTwo_80 : decode cX12_takesTwo 80 = .ok (.iadd, 1) := by decide +kernel
theorem dX12_takesTwo_81 : decode cX12_takesTwo 81 = .ok (.sipush 1000, 3) := by decide +kernel
theorem dX12_takesTwo_84 : decode cX12_takesTwo 84 = .ok (.irem, 1) := by decide +kernel
theorem dX12_takesTwo_85 : decode cX12_takesTwo 85 = .ok (.goto 28, 3) := by decide +kernel
theorem dX12_takesTwo_88 : decode cX12_takesTwo 88 = .ok (.iload_n 1, 1) := by decide +kernel
theorem dX12_takesTwo_89 : decode cX12_takesTwo 89 = .ok (.iconst 4, 1) := by decide +kernel
theorem dX12_takesTwo_90 : decode cX12_takesTwo 90 = .ok (.if_icmp .ne 13, 3) := by decide +kernel
theorem dX12_takesTwo_93 : decode cX12_takesTwo 93 = .ok (.iload_n 3, 1) := by decide +kernel
theorem dX12_takesTwo_94 : decode cX12_takesTwo 94 = .ok (.iload_n 2, 1) := by decide +kernel
theorem dX12_takesTwo_95 : decode cX12_takesTwo 95 = .ok (.imul, 1) := by decide +kernel
theorem dX12_takesTwo_96 : decode cX12_takesTwo 96 = .ok (.sipush 1000, 3) := by decide +kernel
theorem dX12_takesTwo_99 : decode cX12_takesTwo 99 = .ok (.irem, 1) := by decide +kernel
theorem dX12_takesTwo_100 : decode cX12_takesTwo 100 = .ok (.goto 13, 3) := by decide +kernel
theorem dX12_takesTwo_103 : decode cX12_takesTwo 103 = .ok (.iload_n 3, 1) := by decide +kernel
theorem dX12_takesTwo_104 : decode cX12_takesTwo 104 = .ok (.iload_n 2, 1) := by decide +kernel
theorem dX12_takesTwo_105 : decode cX12_takesTwo 105 = .ok (.if_icmp .ge 7, 3) := by decide +kernel
theorem dX12_takesTwo_108 : decode cX12_takesTwo 108 = .ok (.iconst 1, 1) := by decide +kernel
theorem dX12_takesTwo_109 : decode cX12_takesTwo 109 = .ok (.goto 4, 3) := by decide +kernel
theorem dX12_takesTwo_112 : decode cX12_takesTwo 112 = .ok (.iconst 0, 1) := by decide +kernel
theorem dX12_takesTwo_113 : decode cX12_takesTwo 113 = .ok (.iastore, 1) := by decide +kernel
theorem dX12_takesTwo_114 : decode cX12_takesTwo 114 = .ok (.iconst 1, 1) := by decide +kernel
theorem dX12_takesTwo_115 : decode cX12_takesTwo 115 = .ok (.ireturn, 1) := by decide +kernel
theorem dX12_moduleResult_0 : decode cX12_moduleResult 0 = .ok (.aload_n 0, 1) := by decide +kernel
theorem dX12_moduleResult_1 : decode cX12_moduleResult 1 = .ok (.iconst 0, 1) := by decide +kernel
theorem dX12_moduleResult_2 : decode cX12_moduleResult 2 = .ok (.putfield 322, 3) := by decide +kernel
theorem dX12_moduleResult_5 : decode cX12_moduleResult 5 = .ok (.iconst 0, 1) := by decide +kernel
theorem dX12_moduleResult_6 : decode cX12_moduleResult 6 = .ok (.istore_n 3, 1) := by decide +kernel
theorem dX12_moduleResult_7 : decode cX12_moduleResult 7 = .ok (.iconst 0, 1) := by decide +kernel
theorem dX12_moduleResult_8 : decode cX12_moduleResult 8 = .ok (.istore 4, 2) := by decide +kernel
theorem dX12_moduleResult_10 : decode cX12_moduleResult 10 = .ok (.iload 4, 2) := by decide +kernel
theorem dX12_moduleResult_12 : decode cX12_moduleResult 12 = .ok (.bipush 50, 2) := by decide +kernel
theorem dX12_moduleResult_14 : decode cX12_moduleResult 14 = .ok (.if_icmp .ge 263, 3) := by decide +kernel
theorem dX12_moduleResult_17 : decode cX12_moduleResult 17 = .ok (.iload_n 3, 1) := by decide +kernel
theorem dX12_moduleResult_18 : decode cX12_moduleResult 18 = .ok (.aload_n 0, 1) := by decide +kernel
theorem dX12_moduleResult_19 : decode cX12_moduleResult 19 = .ok (.getfield 55, 3) := by decide +kernel
theorem dX12_moduleResult_22 : decode cX12_moduleResult 22 = .ok (.iload_n 2, 1) := by decide +kernel
theorem dX12_moduleResult_23 : decode cX12_moduleResult 23 = .ok (.iaload, 1) := by decide +kernel
theorem dX12_moduleResult_24 : decode cX12_moduleResult 24 = .ok (.if_icmp .ge 253, 3) := by decide +kernel
theorem dX12_moduleResult_27 : decode cX12_moduleResult 27 = .ok (.aload_n 0, 1) := by decide +kernel
theorem dX12_moduleResult_28 : decode cX12_moduleResult 28 = .ok (.getfield 49, 3) := by decide +kernel
theorem dX12_moduleResult_31 : decode cX12_moduleResult 31 = .ok (.bipush 16, 2) := by decide +kernel
theorem dX12_moduleResult_33 : decode cX12_moduleResult 33 = .ok (.iload_n 2, 1) := by decide +kernel
theorem dX12_moduleResult_34 : decode cX12_moduleResult 34 = .ok (.imul, 1) := by decide +kernel
theorem dX12_moduleResult_35 : decode cX12_moduleResult 35 = .ok (.iload_n 3, 1) := by decide +kernel
theorem dX12_moduleResult_36 : decode cX12_moduleResult 36 = .ok (.iadd, 1) := by decide +kernel
theorem dX12_moduleResult_37 : decode cX12_moduleResult 37 = .ok (.iaload, 1) := by decide +kernel
theorem dX12_moduleResult_38 : decode cX12_moduleResult 38 = .ok (.istore 5, 2) := by decide +kernel
theorem dX12_moduleResult_40 : decode cX12_moduleResult 40 = .ok (.aload_n 0, 1) := by decide +kernel
theorem dX12_moduleResult_41 : decode cX12_moduleResult 41 = .ok (.getfield 52, 3) := by decide +kernel
theorem dX12_moduleResult_44 : decode cX12_moduleResult 44 = .ok (.bipush 16, 2) := by decide +kernel
theorem dX12_moduleResult_46 : decode cX12_moduleResult 46 = .ok (.iload_n 2, 1) := by decide +kernel
theorem dX12_moduleResult_47 : decode cX12_moduleResult 47 = .ok (.imul, 1) := by decide +kernel
theorem dX12_moduleResult_48 : decode cX12_moduleResult 48 = .ok (.iload_n 3, 1) := by decide +kernel
theorem dX12_moduleResult_49 : decode cX12_moduleResult 49 = .ok (.iadd, 1) := by decide +kernel
theorem dX12_moduleResult_50 : decode cX12_moduleResult 50 = .ok (.iaload, 1) := by decide +kernel
theorem dX12_moduleResult_51 : decode cX12_moduleResult 51 = .ok (.istore 6, 2) := by decide +kernel
theorem dX12_moduleResult_53 : decode cX12_moduleResult 53 = .ok (.iinc 3 1, 3) := by decide +kernel
theorem dX12_moduleResult_56 : decode cX12_moduleResult 56 = .ok (.iconst 1, 1) := by decide +kernel
theorem dX12_moduleResult_57 : decode cX12_moduleResult 57 = .ok (.istore 7, 2) := by decide +kernel
theorem dX12_moduleResult_59 : decode cX12_moduleResult 59 = .ok (.iload 5, 2) := by decide +kernel
theorem dX12_moduleResult_61 : decode cX12_moduleResult 61 = .ok (.iconst 2, 1) := by decide +kernel
theorem dX12_moduleResult_62 : decode cX12_moduleResult 62 = .ok (.if_icmp .ge 16, 3) := by decide +kernel
theorem dX12_moduleResult_65 : decode cX12_moduleResult 65 = .ok (.aload_n 0, 1) := by decide +kernel
theorem dX12_moduleResult_66 : decode cX12_moduleResult 66 = .ok (.getfield 322, 3) := by decide +kernel
theorem dX12_moduleResult_69 : decode cX12_moduleResult 69 = .ok (.bipush 8, 2) := by decide +kernel
theorem dX12_moduleResult_71 : decode cX12_moduleResult 71 = .ok (.if_icmp .ne 7, 3) := by decide +kernel
theorem dX12_moduleResult_74 : decode cX12_moduleResult 74 = .ok (.sipush 9004, 3) := by decide +kernel
theorem dX12_moduleResult_77 : decode cX12_moduleResult 77 = .ok (.ireturn, 1) := by decide +kernel
theorem dX12_moduleResult_78 : decode cX12_moduleResult 78 = .ok (.iload 5, 2) := by decide +kernel
theorem dX12_moduleResult_80 : decode cX12_moduleResult 80 = .ok (.iconst 2, 1) := by decide +kernel
theorem dX12_moduleResult_81 : decode cX12_moduleResult 81 = .ok (.if_icmp .ge 71, 3) := by decide +kernel
theorem dX12_moduleResult_84 : decode cX12_moduleResult 84 = .ok (.iload 5, 2) := by decide +kernel
theorem dX12_moduleResult_86 : decode cX12_moduleResult 86 = .ok (.ifCond .ne 8, 3) := by decide +kernel
theorem dX12_moduleResult_89 : decode cX12_moduleResult 89 = .ok (.iload 6, 2) := by decide +kernel
theorem dX12_moduleResult_91 : decode cX12_moduleResult 91 = .ok (.goto 16, 3) := by decide +kernel
theorem dX12_moduleResult_94 : decode cX12_moduleResult 94 = .ok (.aload_n 0, 1) := by decide +kernel
theorem dX12_moduleResult_95 : decode cX12_moduleResult 95 = .ok (.aload_n 0, 1) := by decide +kernel
theorem dX12_moduleResult_96 : decode cX12_moduleResult 96 = .ok (.iload_n 1, 1) := by decide +kernel
theorem dX12_moduleResult_97 : decode cX12_moduleResult 97 = .ok (.iload 6, 2) := by decide +kernel
theorem dX12_moduleResult_99 : decode cX12_moduleResult 99 = .ok (.iconst 2, 1) := by decide +kernel
theorem dX12_moduleResult_100 : decode cX12_moduleResult 100 = .ok (.iadd, 1) := by decide +kernel
theorem dX12_moduleResult_101 : decode cX12_moduleResult 101 = .ok (.invokevirtual 319, 3) := by decide +kernel
theorem dX12_moduleResult_104 : decode cX12_moduleResult 104 = .ok (.invokevirtual 325, 3) := by decide +kernel
theorem dX12_moduleResult_107 : decode cX12_moduleResult 107 = .ok (.istore 8, 2) := by decide +kernel
theorem dX12_moduleResult_109 : decode cX12_moduleResult 109 = .ok (.aload_n 0, 1) := by decide +kernel
theorem dX12_moduleResult_110 : decode cX12_moduleResult 110 = .ok (.getfield 316, 3) := by decide +kernel
theorem dX12_moduleResult_113 : decode cX12_moduleResult 113 = .ok (.ifCond .le 5, 3) := by decide +kernel
theorem dX12_moduleResult_116 : decode cX12_moduleResult 116 = .ok (.iconst 0, 1) := by decide +kernel
theorem dX12_moduleResult_117 : decode cX12_moduleResult 117 = .ok (.ireturn, 1) := by decide +kernel
theorem dX12_moduleResult_118 : decode cX12_moduleResult 118 = .ok (.aload_n 0, 1) := by decide +kernel
theorem dX12_moduleResult_119 : decode cX12_moduleResult 119 = .ok (.getfield 168, 3) := by decide +kernel
theorem dX12_moduleResult_122 : decode cX12_moduleResult 122 = .ok (.aload_n 0, 1) := by decide +kernel
theorem dX12_moduleResult_123 : decode cX12_moduleResult 123 = .ok (.getfield 322, 3) := by decide +kernel
theorem dX12_moduleResult_126 : decode cX12_moduleResult 126 = .ok (.iload 8, 2) := by decide +kernel
theorem dX12_moduleResult_128 : decode cX12_moduleResult 128 = .ok (.iconst (-1), 1) := by decide +kernel
theorem dX12_moduleResult_129 : decode cX12_moduleResult 129 = .ok (.if_icmp .ne 7, 3) := by decide +kernel
theorem dX12_moduleResult_132 : decode cX12_moduleResult 132 = .ok (.iconst 0, 1) := by decide +kernel
theorem dX12_moduleResult_133 : decode cX12_moduleResult 133 = .ok (.goto 5, 3) := by decide +kernel
theorem dX12_moduleResult_136 : decode cX12_moduleResult 136 = .ok (.iload 8, 2) := by decide +kernel
theorem dX12_moduleResult_138 : decode cX12_moduleResult 138 = .ok (.iastore, 1) := by decide +kernel
theorem dX12_moduleResult_139 : decode cX12_moduleResult 139 = .ok (.aload_n 0, 1) := by decide +kernel
theorem dX12_moduleResult_140 : decode cX12_moduleResult 140 = .ok (.dup, 1) := by decide +kernel
theorem dX12_moduleResult_141 : decode cX12_moduleResult 141 = .ok (.getfield 322, 3) := by decide +kernel
theorem dX12_moduleResult_144 : decode cX12_moduleResult 144 = .ok (.iconst 1, 1) := by decide +kernel
theorem dX12_moduleResult_145 : decode cX12_moduleResult 145 = .ok (.iadd, 1) := by decide +kernel
theorem dX12_moduleResult_146 : decode cX12_moduleResult 146 = .ok (.putfield 322, 3) := by decide +kernel
theorem dX12_moduleResult_149 : decode cX12_moduleResult 149 = .ok (.goto 113, 3) := by decide +kernel
theorem dX12_moduleResult_152 : decode cX12_moduleResult 152 = .ok (.iload 5, 2) := by decide +kernel
theorem dX12_moduleResult_154 : decode cX12_moduleResult 154 = .ok (.bipush 6, 2) := by decide +kernel
theorem dX12_moduleResult_156 : decode cX12_moduleResult 156 = .ok (.if_icmp .ge 14, 3) := by decide +kernel
theorem dX12_moduleResult_159 : decode cX12_moduleResult 159 = .ok (.aload_n 0, 1) := by decide +kernel
theorem dX12_moduleResult_160 : decode cX12_moduleResult 160 = .ok (.iload 5, 2) := by decide +kernel
theorem dX12_moduleResult_162 : decode cX12_moduleResult 162 = .ok (.invokevirtual 328, 3) := by decide +kernel
theorem dX12_moduleResult_165 : decode cX12_moduleResult 165 = .ok (.istore 7, 2) := by decide +kernel
theorem dX12_moduleResult_167 : decode cX12_moduleResult 167 = .ok (.goto 95, 3) := by decide +kernel
theorem dX12_moduleResult_170 : decode cX12_moduleResult 170 = .ok (.iload 5, 2) := by decide +kernel
theorem dX12_moduleResult_172 : decode cX12_moduleResult 172 = .ok (.bipush 6, 2) := by decide +kernel
theorem dX12_moduleResult_174 : decode cX12_moduleResult 174 = .ok (.if_icmp .ne 9, 3) := by decide +kernel
theorem dX12_moduleResult_177 : decode cX12_moduleResult 177 = .ok (.iload 6, 2) := by decide +kernel
theorem dX12_moduleResult_179 : decode cX12_moduleResult 179 = .ok (.istore_n 3, 1) := by decide +kernel
theorem dX12_moduleResult_180 : decode cX12_moduleResult 180 = .ok (.goto 82, 3) := by decide +kernel
theorem dX12_moduleResult_183 : decode cX12_moduleResult 183 = .ok (.aload_n 0, 1) := by decide +kernel
theorem dX12_moduleResult_184 : decode cX12_moduleResult 184 = .ok (.getfield 322, 3) := by decide +kernel
theorem dX12_moduleResult_187 : decode cX12_moduleResult 187 = .ok (.ifCond .le 7, 3) := by decide +kernel
theorem dX12_moduleResult_190 : decode cX12_moduleResult 190 = .ok (.iconst 1, 1) := by decide +kernel
theorem dX12_moduleResult_191 : decode cX12_moduleResult 191 = .ok (.goto 4, 3) := by decide +kernel
theorem dX12_moduleResult_194 : decode cX12_moduleResult 194 = .ok (.iconst 0, 1) := by decide +kernel
theorem dX12_moduleResult_195 : decode cX12_moduleResult 195 = .ok (.istore 7, 2) := by decide +kernel
theorem dX12_moduleResult_197 : decode cX12_moduleResult 197 = .ok (.aload_n 0, 1) := by decide +kernel
theorem dX12_moduleResult_198 : decode cX12_moduleResult 198 = .ok (.dup, 1) := by decide +kernel
theorem dX12_moduleResult_199 : decode cX12_moduleResult 199 = .ok (.getfield 322, 3) := by decide +kernel
theorem dX12_moduleResult_202 : decode cX12_moduleResult 202 = .ok (.iload 7, 2) := by decide +kernel
theorem dX12_moduleResult_204 : decode cX12_moduleResult 204 = .ok (.ifCond .eq 7, 3) := by decide +kernel
theorem dX12_moduleResult_207 : decode cX12_moduleResult 207 = .ok (.iconst 1, 1) := by decide +kernel
theorem dX12_moduleResult_208 : decode cX12_moduleResult 208 = .ok (.goto 4, 3) := by decide +kernel
theorem dX12_moduleResult_211 : decode cX12_moduleResult 211 = .ok (.iconst 0, 1) := by decide +kernel
theorem dX12_moduleResult_212 : decode cX12_moduleResult 212 = .ok (.isub, 1) := by decide +kernel
theorem dX12_moduleResult_213 : decode cX12_moduleResult 213 = .ok (.putfield 322, 3) := by decide +kernel
theorem dX12_moduleResult_216 : decode cX12_moduleResult 216 = .ok (.iload 7, 2) := by decide +kernel
theorem dX12_moduleResult_218 : decode cX12_moduleResult 218 = .ok (.ifCond .eq 20, 3) := by decide +kernel
theorem dX12_moduleResult_221 : decode cX12_moduleResult 221 = .ok (.iload 5, 2) := by decide +kernel
theorem dX12_moduleResult_223 : decode cX12_moduleResult 223 = .ok (.bipush 8, 2) := by decide +kernel
theorem dX12_moduleResult_225 : decode cX12_moduleResult 225 = .ok (.if_icmp .ne 13, 3) := by decide +kernel
theorem dX12_moduleResult_228 : decode cX12_moduleResult 228 = .ok (.aload_n 0, 1) := by decide +kernel
theorem dX12_moduleResult_229 : decode cX12_moduleResult 229 = .ok (.getfield 168, 3) := by decide +kernel
theorem dX12_moduleResult_232 : decode cX12_moduleResult 232 = .ok (.aload_n 0, 1) := by decide +kernel
theorem dX12_moduleResult_233 : decode cX12_moduleResult 233 = .ok (.getfield 322, 3) := by decide +kernel
theorem dX12_moduleResult_236 : decode cX12_moduleResult 236 = .ok (.iaload, 1) := by decide +kernel
theorem dX12_moduleResult_237 : decode cX12_moduleResult 237 = .ok (.ireturn, 1) := by decide +kernel
theorem dX12_moduleResult_238 : decode cX12_moduleResult 238 = .ok (.iload 7, 2) := by decide +kernel
theorem dX12_moduleResult_240 : decode cX12_moduleResult 240 = .ok (.ifCond .eq 20, 3) := by decide +kernel
theorem dX12_moduleResult_243 : decode cX12_moduleResult 243 = .ok (.aload_n 0, 1) := by decide +kernel
theorem dX12_moduleResult_244 : decode cX12_moduleResult 244 = .ok (.getfield 168, 3) := by decide +kernel
theorem dX12_moduleResult_247 : decode cX12_moduleResult 247 = .ok (.aload_n 0, 1) := by decide +kernel
theorem dX12_moduleResult_248 : decode cX12_moduleResult 248 = .ok (.getfield 322, 3) := by decide +kernel
theorem dX12_moduleResult_251 : decode cX12_moduleResult 251 = .ok (.iaload, 1) := by decide +kernel
theorem dX12_moduleResult_252 : decode cX12_moduleResult 252 = .ok (.ifCond .ne 8, 3) := by decide +kernel
theorem dX12_moduleResult_255 : decode cX12_moduleResult 255 = .ok (.iload 6, 2) := by decide +kernel
theorem dX12_moduleResult_257 : decode cX12_moduleResult 257 = .ok (.goto 4, 3) := by decide +kernel
theorem dX12_moduleResult_260 : decode cX12_moduleResult 260 = .ok (.iload_n 3, 1) := by decide +kernel
theorem dX12_moduleResult_261 : decode cX12_moduleResult 261 = .ok (.istore_n 3, 1) := by decide +kernel
theorem dX12_moduleResult_262 : decode cX12_moduleResult 262 = .ok (.iload 7, 2) := by decide +kernel
theorem dX12_moduleResult_264 : decode cX12_moduleResult 264 = .ok (.ifCond .ne 7, 3) := by decide +kernel
theorem dX12_moduleResult_267 : decode cX12_moduleResult 267 = .ok (.sipush 9004, 3) := by decide +kernel
theorem dX12_moduleResult_270 : decode cX12_moduleResult 270 = .ok (.ireturn, 1) := by decide +kernel
theorem dX12_moduleResult_271 : decode cX12_moduleResult 271 = .ok (.iinc 4 1, 3) := by decide +kernel
theorem dX12_moduleResult_274 : decode cX12_moduleResult 274 = .ok (.goto (-264), 3) := by decide +kernel
theorem dX12_moduleResult_277 : decode cX12_moduleResult 277 = .ok (.sipush 9004, 3) := by decide +kernel
theorem dX12_moduleResult_280 : decode cX12_moduleResult 280 = .ok (.ireturn, 1) := by decide +kernel
theorem dX12_listMembers_0 : decode cX12_listMembers 0 = .ok (.iconst 0, 1) := by decide +kernel
theorem dX12_listMembers_1 : decode cX12_listMembers 1 = .ok (.istore_n 3, 1) := by decide +kernel
theorem dX12_listMembers_2 : decode cX12_listMembers 2 = .ok (.iload_n 3, 1) := by decide +kernel
theorem dX12_listMembers_3 : decode cX12_listMembers 3 = .ok (.bipush 24, 2) := by decide +kernel
theorem dX12_listMembers_5 : decode cX12_listMembers 5 = .ok (.if_icmp .ge 40, 3) := by decide +kernel
theorem dX12_listMembers_8 : decode cX12_listMembers 8 = .ok (.iload_n 2, 1) := by decide +kernel
theorem dX12_listMembers_9 : decode cX12_listMembers 9 = .ok (.iload_n 3, 1) := by decide +kernel
theorem dX12_listMembers_10 : decode cX12_listMembers 10 = .ok (.ishr, 1) := by decide +kernel
theorem dX12_listMembers_11 : decode cX12_listMembers 11 = .ok (.iconst 1, 1) := by decide +kernel
theorem dX12_listMembers_12 : decode cX12_listMembers 12 = .ok (.iand, 1) := by decide +kernel
theorem dX12_listMembers_13 : decode cX12_listMembers 13 = .ok (.iconst 1, 1) := by decide +kernel
theorem dX12_listMembers_14 : decode cX12_listMembers 14 = .ok (.if_icmp .ne 25, 3) := by decide +kernel
theorem dX12_listMembers_17 : decode cX12_listMembers 17 = .ok (.aload_n 0, 1) := by decide +kernel
theorem dX12_listMembers_18 : decode cX12_listMembers 18 = .ok (.iload_n 1, 1) := by decide +kernel
theorem dX12_listMembers_19 : decode cX12_listMembers 19 = .ok (.sipush 1000, 3) := by decide +kernel
theorem dX12_listMembers_22 : decode cX12_listMembers 22 = .ok (.iload_n 3, 1) := by decide +kernel
theorem dX12_listMembers_23 : decode cX12_listMembers 23 = .ok (.iadd, 1) := by decide +kernel
theorem dX12_listMembers_24 : decode cX12_listMembers 24 = .ok (.invokevirtual 251, 3) := by decide +kernel
theorem dX12_listMembers_27 : decode cX12_listMembers 27 = .ok (.aload_n 0, 1) := by decide +kernel
theorem dX12_listMembers_28 : decode cX12_listMembers 28 = .ok (.dup, 1) := by decide +kernel
theorem dX12_listMembers_29 : decode cX12_listMembers 29 = .ok (.getfield 276, 3) := by decide +kernel
theorem dX12_listMembers_32 : decode cX12_listMembers 32 = .ok (.iconst 1, 1) := by decide +kernel
theorem dX12_listMembers_33 : decode cX12_listMembers 33 = .ok (.iload_n 3, 1) := by decide +kernel
theorem dX12_listMembers_34 : decode cX12_listMembers 34 = .ok (.ishl, 1) := by decide +kernel
theorem dX12_listMembers_35 : decode cX12_listMembers 35 = .ok (.ior, 1) := by decide +kernel
theorem dX12_listMembers_36 : decode cX12_listMembers 36 = .ok (.putfield 276, 3) := by decide +kernel
theorem dX12_listMembers_39 : decode cX12_listMembers 39 = .ok (.iinc 3 1, 3) := by decide +kernel
theorem dX12_listMembers_42 : decode cX12_listMembers 42 = .ok (.goto (-40), 3) := by decide +kernel
theorem dX12_listMembers_45 : decode cX12_listMembers 45 = .ok (.return_, 1) := by decide +kernel
theorem dX12_giveByNumber_0 : decode cX12_giveByNumber 0 = .ok (.aload_n 0, 1) := by decide +kernel
theorem dX12_giveByNumber_1 : decode cX12_giveByNumber 1 = .ok (.getfield 138, 3) := by decide +kernel
theorem dX12_giveByNumber_4 : decode cX12_giveByNumber 4 = .ok (.iload_n 1, 1) := by decide +kernel
theorem dX12_giveByNumber_5 : decode cX12_giveByNumber 5 = .ok (.iaload, 1) := by decide +kernel
theorem dX12_giveByNumber_6 : decode cX12_giveByNumber 6 = .ok (.istore_n 3, 1) := by decide +kernel
theorem dX12_giveByNumber_7 : decode cX12_giveByNumber 7 = .ok (.aload_n 0, 1) := by decide +kernel
theorem dX12_giveByNumber_8 : decode cX12_giveByNumber 8 = .ok (.getfield 132, 3) := by decide +kernel
theorem dX12_giveByNumber_11 : decode cX12_giveByNumber 11 = .ok (.iload_n 1, 1) := by decide +kernel
theorem dX12_giveByNumber_12 : decode cX12_giveByNumber 12 = .ok (.iaload, 1) := by decide +kernel
theorem dX12_giveByNumber_13 : decode cX12_giveByNumber 13 = .ok (.istore 4, 2) := by decide +kernel
theorem dX12_giveByNumber_15 : decode cX12_giveByNumber 15 = .ok (.iload 4, 2) := by decide +kernel
theorem dX12_giveByNumber_17 : decode cX12_giveByNumber 17 = .ok (.iconst 3, 1) := by decide +kernel
theorem dX12_giveByNumber_18 : decode cX12_giveByNumber 18 = .ok (.if_icmp .ne 57, 3) := by decide +kernel
theorem dX12_giveByNumber_21 : decode cX12_giveByNumber 21 = .ok (.iload_n 2, 1) := by decide +kernel
theorem dX12_giveByNumber_22 : decode cX12_giveByNumber 22 = .ok (.invokestatic 188, 3) := by decide +kernel
theorem dX12_giveByNumber_25 : decode cX12_giveByNumber 25 = .ok (.istore 5, 2) := by decide +kernel
theorem dX12_giveByNumber_27 : decode cX12_giveByNumber 27 = .ok (.aload_n 0, 1) := by decide +kernel
theorem dX12_giveByNumber_28 : decode cX12_giveByNumber 28 = .ok (.dup, 1) := by decide +kernel
theorem dX12_giveByNumber_29 : decode cX12_giveByNumber 29 = .ok (.getfield 239, 3) := by decide +kernel
theorem dX12_giveByNumber_32 : decode cX12_giveByNumber 32 = .ok (.iload 5, 2) := by decide +kernel
theorem dX12_giveByNumber_34 : decode cX12_giveByNumber 34 = .ok (.ifCond .eq 9, 3) := by decide +kernel
theorem dX12_giveByNumber_37 : decode cX12_giveByNumber 37 = .ok (.iconst 1, 1) := by decide +kernel
theorem dX12_giveByNumber_38 : decode cX12_giveByNumber 38 = .ok (.iload_n 2, 1) := by decide +kernel
theorem dX12_giveByNumber_39 : decode cX12_giveByNumber 39 = .ok (.ishl, 1) := by decide +kernel
theorem dX12_giveByNumber_40 : decode cX12_giveByNumber 40 = .ok (.goto 4, 3) := by decide +kernel
theorem dX12_giveByNumber_43 : decode cX12_giveByNumber 43 = .ok (.iconst 0, 1) := by decide +kernel
theorem dX12_giveByNumber_44 : decode cX12_giveByNumber 44 = .ok (.ior, 1) := by decide +kernel
theorem dX12_giveByNumber_45 : decode cX12_giveByNumber 45 = .ok (.putfield 239, 3) := by decide +kernel
theorem dX12_giveByNumber_48 : decode cX12_giveByNumber 48 = .ok (.aload_n 0, 1) := by decide +kernel
theorem dX12_giveByNumber_49 : decode cX12_giveByNumber 49 = .ok (.iload_n 3, 1) := by decide +kernel
theorem dX12_giveByNumber_50 : decode cX12_giveByNumber 50 = .ok (.iload 5, 2) := by decide +kernel
theorem dX12_giveByNumber_52 : decode cX12_giveByNumber 52 = .ok (.ifCond .eq 16, 3) := by decide +kernel
theorem dX12_giveByNumber_55 : decode cX12_giveByNumber 55 = .ok (.aload_n 0, 1) := by decide +kernel
theorem dX12_giveByNumber_56 : decode cX12_giveByNumber 56 = .ok (.iload_n 2, 1) := by decide +kernel
theorem dX12_giveByNumber_57 : decode cX12_giveByNumber 57 = .ok (.invokevirtual 242, 3) := by decide +kernel
theorem dX12_giveByNumber_60 : decode cX12_giveByNumber 60 = .ok (.iconst (-1), 1) := by decide +kernel
theorem dX12_giveByNumber_61 : decode cX12_giveByNumber 61 = .ok (.if_icmp .eq 7, 3) := by decide +kernel
theorem dX12_giveByNumber_64 : decode cX12_giveByNumber 64 = .ok (.iconst 1, 1) := by decide +kernel
theorem dX12_giveByNumber_65 : decode cX12_giveByNumber 65 = .ok (.goto 4, 3) := by decide +kernel
theorem dX12_giveByNumber_68 : decode cX12_giveByNumber 68 = .ok (.iconst 0, 1) := by decide +kernel
theorem dX12_giveByNumber_69 : decode cX12_giveByNumber 69 = .ok (.invokevirtual 251, 3) := by decide +kernel
theorem dX12_giveByNumber_72 : decode cX12_giveByNumber 72 = .ok (.goto 152, 3) := by decide +kernel
theorem dX12_giveByNumber_75 : decode cX12_giveByNumber 75 = .ok (.iload 4, 2) := by decide +kernel
theorem dX12_giveByNumber_77 : decode cX12_giveByNumber 77 = .ok (.iconst 4, 1) := by decide +kernel
theorem dX12_giveByNumber_78 : decode cX12_giveByNumber 78 = .ok (.if_icmp .eq 9, 3) := by decide +kernel
theorem dX12_giveByNumber_81 : decode cX12_giveByNumber 81 = .ok (.iload 4, 2) := by decide +kernel
theorem dX12_giveByNumber_83 : decode cX12_giveByNumber 83 = .ok (.iconst 5, 1) := by decide +kernel
theorem dX12_giveByNumber_84 : decode cX12_giveByNumber 84 = .ok (.if_icmp .ne 78, 3) := by decide +kernel
theorem dX12_giveByNumber_87 : decode cX12_giveByNumber 87 = .ok (.iload_n 2, 1) := by decide +kernel
theorem dX12_giveByNumber_88 : decode cX12_giveByNumber 88 = .ok (.iconst 0, 1) := by decide +kernel
theorem dX12_giveByNumber_89 : decode cX12_giveByNumber 89 = .ok (.bipush 7, 2) := by decide +kernel
theorem dX12_giveByNumber_91 : decode cX12_giveByNumber 91 = .ok (.invokestatic 184, 3) := by decide +kernel
theorem dX12_giveByNumber_94 : decode cX12_giveByNumber 94 = .ok (.istore 5, 2) := by decide +kernel
theorem dX12_giveByNumber_96 : decode cX12_giveByNumber 96 = .ok (.aload_n 0, 1) := by decide +kernel
theorem dX12_giveByNumber_97 : decode cX12_giveByNumber 97 = .ok (.dup, 1) := by decide +kernel
theorem dX12_giveByNumber_98 : decode cX12_giveByNumber 98 = .ok (.getfield 331, 3) := by decide +kernel
theorem dX12_giveByNumber_101 : decode cX12_giveByNumber 101 = .ok (.iload 5, 2) := by decide +kernel
theorem dX12_giveByNumber_103 : decode cX12_giveByNumber 103 = .ok (.ifCond .eq 9, 3) := by decide +kernel
theorem dX12_giveByNumber_106 : decode cX12_giveByNumber 106 = .ok (.iconst 1, 1) := by decide +kernel
theorem dX12_giveByNumber_107 : decode cX12_giveByNumber 107 = .ok (.iload_n 2, 1) := by decide +kernel
theorem dX12_giveByNumber_108 : decode cX12_giveByNumber 108 = .ok (.ishl, 1) := by decide +kernel
theorem dX12_giveByNumber_109 : decode cX12_giveByNumber 109 = .ok (.goto 4, 3) := by decide +kernel
theorem dX12_giveByNumber_112 : decode cX12_giveByNumber 112 = .ok (.iconst 0, 1) := by decide +kernel
theorem dX12_giveByNumber_113 : decode cX12_giveByNumber 113 = .ok (.ior, 1) := by decide +kernel
theorem dX12_giveByNumber_114 : decode cX12_giveByNumber 114 = .ok (.putfield 331, 3) := by decide +kernel
theorem dX12_giveByNumber_117 : decode cX12_giveByNumber 117 = .ok (.iload 5, 2) := by decide +kernel
theorem dX12_giveByNumber_119 : decode cX12_giveByNumber 119 = .ok (.ifCond .eq 11, 3) := by decide +kernel
theorem dX12_giveByNumber_122 : decode cX12_giveByNumber 122 = .ok (.aload_n 0, 1) := by decide +kernel
theorem dX12_giveByNumber_123 : decode cX12_giveByNumber 123 = .ok (.iload_n 2, 1) := by decide +kernel
theorem dX12_giveByNumber_124 : decode cX12_giveByNumber 124 = .ok (.invokevirtual 334, 3) := by decide +kernel
theorem dX12_giveByNumber_127 : decode cX12_giveByNumber 127 = .ok (.goto 4, 3) := by decide +kernel
theorem dX12_giveByNumber_130 : decode cX12_giveByNumber 130 = .ok (.iconst 0, 1) := by decide +kernel
theorem dX12_giveByNumber_131 : decode cX12_giveByNumber 131 = .ok (.istore 6, 2) := by decide +kernel
theorem dX12_giveByNumber_133 : decode cX12_giveByNumber 133 = .ok (.iload 4, 2) := by decide +kernel
theorem dX12_giveByNumber_135 : decode cX12_giveByNumber 135 = .ok (.iconst 4, 1) := by decide +kernel
theorem dX12_giveByNumber_136 : decode cX12_giveByNumber 136 = .ok (.if_icmp .ne 16, 3) := by decide +kernel
theorem dX12_giveByNumber_139 : decode cX12_giveByNumber 139 = .ok (.aload_n 0, 1) := by decide +kernel
theorem dX12_giveByNumber_140 : decode cX12_giveByNumber 140 = .ok (.iload_n 3, 1) := by decide +kernel
theorem dX12_giveByNumber_141 : decode cX12_giveByNumber 141 = .ok (.iload 6, 2) := by decide +kernel
theorem dX12_giveByNumber_143 : decode cX12_giveByNumber 143 = .ok (.invokestatic 337, 3) := by decide +kernel
theorem dX12_giveByNumber_146 : decode cX12_giveByNumber 146 = .ok (.invokevirtual 251, 3) := by decide +kernel
theorem dX12_giveByNumber_149 : decode cX12_giveByNumber 149 = .ok (.goto 10, 3) := by decide +kernel
theorem dX12_giveByNumber_152 : decode cX12_giveByNumber 152 = .ok (.aload_n 0, 1) := by decide +kernel
theorem dX12_giveByNumber_153 : decode cX12_giveByNumber 153 = .ok (.iload_n 3, 1) := by decide +kernel
theorem dX12_giveByNumber_154 : decode cX12_giveByNumber 154 = .ok (.iload 6, 2) := by decide +kernel
theorem dX12_giveByNumber_156 : decode cX12_giveByNumber 156 = .ok (.invokevirtual 340, 3) := by decide +kernel
theorem dX12_giveByNumber_159 : decode cX12_giveByNumber 159 = .ok (.goto 65, 3) := by decide +kernel
theorem dX12_giveByNumber_162 : decode cX12_giveByNumber 162 = .ok (.iload_n 2, 1) := by decide +kernel
theorem dX12_giveByNumber_163 : decode cX12_giveByNumber 163 = .ok (.iconst 0, 1) := by decide +kernel
theorem dX12_giveByNumber_164 : decode cX12_giveByNumber 164 = .ok (.iconst 3, 1) := by decide +kernel
theorem dX12_giveByNumber_165 : decode cX12_giveByNumber 165 = .ok (.invokestatic 184, 3) := by decide +kernel
theorem dX12_giveByNumber_168 : decode cX12_giveByNumber 168 = .ok (.istore 5, 2) := by decide +kernel
theorem dX12_giveByNumber_170 : decode cX12_giveByNumber 170 = .ok (.aload_n 0, 1) := by decide +kernel
theorem dX12_giveByNumber_171 : decode cX12_giveByNumber 171 = .ok (.dup, 1) := by decide +kernel
theorem dX12_giveByNumber_172 : decode cX12_giveByNumber 172 = .ok (.getfield 343, 3) := by decide +kernel
theorem dX12_giveByNumber_175 : decode cX12_giveByNumber 175 = .ok (.iload 5, 2) := by decide +kernel
theorem dX12_giveByNumber_177 : decode cX12_giveByNumber 177 = .ok (.ifCond .eq 9, 3) := by decide +kernel
theorem dX12_giveByNumber_180 : decode cX12_giveByNumber 180 = .ok (.iconst 1, 1) := by decide +kernel
theorem dX12_giveByNumber_181 : decode cX12_giveByNumber 181 = .ok (.iload_n 2, 1) := by decide +kernel
theorem dX12_giveByNumber_182 : decode cX12_giveByNumber 182 = .ok (.ishl, 1) := by decide +kernel
theorem dX12_giveByNumber_183 : decode cX12_giveByNumber 183 = .ok (.goto 4, 3) := by decide +kernel
theorem dX12_giveByNumber_186 : decode cX12_giveByNumber 186 = .ok (.iconst 0, 1) := by decide +kernel
theorem dX12_giveByNumber_187 : decode cX12_giveByNumber 187 = .ok (.ior, 1) := by decide +kernel
theorem dX12_giveByNumber_188 : decode cX12_giveByNumber 188 = .ok (.putfield 343, 3) := by decide +kernel
theorem dX12_giveByNumber_191 : decode cX12_giveByNumber 191 = .ok (.iload 5, 2) := by decide +kernel
theorem dX12_giveByNumber_193 : decode cX12_giveByNumber 193 = .ok (.ifCond .eq 12, 3) := by decide +kernel
theorem dX12_giveByNumber_196 : decode cX12_giveByNumber 196 = .ok (.aload_n 0, 1) := by decide +kernel
theorem dX12_giveByNumber_197 : decode cX12_giveByNumber 197 = .ok (.iload_n 1, 1) := by decide +kernel
theorem dX12_giveByNumber_198 : decode cX12_giveByNumber 198 = .ok (.iload_n 2, 1) := by decide +kernel
theorem dX12_giveByNumber_199 : decode cX12_giveByNumber 199 = .ok (.invokevirtual 346, 3) := by decide +kernel
theorem dX12_giveByNumber_202 : decode cX12_giveByNumber 202 = .ok (.goto 6, 3) := by decide +kernel
theorem dX12_giveByNumber_205 : decode cX12_giveByNumber 205 = .ok (.sipush 9004, 3) := by decide +kernel
theorem dX12_giveByNumber_208 : decode cX12_giveByNumber 208 = .ok (.istore 6, 2) := by decide +kernel
theorem dX12_giveByNumber_210 : decode cX12_giveByNumber 210 = .ok (.aload_n 0, 1) := by decide +kernel
theorem dX12_giveByNumber_211 : decode cX12_giveByNumber 211 = .ok (.getfield 316, 3) := by decide +kernel
theorem dX12_giveByNumber_214 : decode cX12_giveByNumber 214 = .ok (.ifCond .ne 10, 3) := by decide +kernel
theorem dX12_giveByNumber_217 : decode cX12_giveByNumber 217 = .ok (.aload_n 0, 1) := by decide +kernel
theorem dX12_giveByNumber_218 : decode cX12_giveByNumber 218 = .ok (.iload_n 3, 1) := by decide +kernel
theorem dX12_giveByNumber_219 : decode cX12_giveByNumber 219 = .ok (.iload 6, 2) := by decide +kernel
theorem dX12_giveByNumber_221 : decode cX12_giveByNumber 221 = .ok (.invokevirtual 251, 3) := by decide +kernel
theorem dX12_giveByNumber_224 : decode cX12_giveByNumber 224 = .ok (.return_, 1) := by decide +kernel
theorem dX12_give_0 : decode cX12_give 0 = .ok (.aload_n 0, 1) := by decide +kernel
theorem dX12_give_1 : decode cX12_give 1 = .ok (.getfield 138, 3) := by decide +kernel
theorem dX12_give_4 : decode cX12_give 4 = .ok (.iload_n 1, 1) := by decide +kernel
theorem dX12_give_5 : decode cX12_give 5 = .ok (.iaload, 1) := by decide +kernel
theorem dX12_give_6 : decode cX12_give 6 = .ok (.istore_n 2, 1) := by decide +kernel
theorem dX12_give_7 : decode cX12_give 7 = .ok (.aload_n 0, 1) := by decide +kernel
theorem dX12_give_8 : decode cX12_give 8 = .ok (.getfield 132, 3) := by decide +kernel
theorem dX12_give_11 : decode cX12_give 11 = .ok (.iload_n 1, 1) := by decide +kernel
theorem dX12_give_12 : decode cX12_give 12 = .ok (.iaload, 1) := by decide +kernel
theorem dX12_give_13 : decode cX12_give 13 = .ok (.istore_n 3, 1) := by decide +kernel
theorem dX12_give_14 : decode cX12_give 14 = .ok (.aload_n 0, 1) := by decide +kernel
theorem dX12_give_15 : decode cX12_give 15 = .ok (.iconst 0, 1) := by decide +kernel
theorem dX12_give_16 : decode cX12_give 16 = .ok (.putfield 316, 3) := by decide +kernel
theorem dX12_give_19 : decode cX12_give 19 = .ok (.iload_n 3, 1) := by decide +kernel
theorem dX12_give_20 : decode cX12_give 20 = .ok (.iconst 2, 1) := by decide +kernel
theorem dX12_give_21 : decode cX12_give 21 = .ok (.if_icmp .ne 7, 3) := by decide +kernel
theorem dX12_give_24 : decode cX12_give 24 = .ok (.iconst 1, 1) := by decide +kernel
theorem dX12_give_25 : decode cX12_give 25 = .ok (.goto 9, 3) := by decide +kernel
theorem dX12_give_28 : decode cX12_give 28 = .ok (.aload_n 0, 1) := by decide +kernel
theorem dX12_give_29 : decode cX12_give 29 = .ok (.iload_n 1, 1) := by decide +kernel
theorem dX12_give_30 : decode cX12_give 30 = .ok (.iconst 1, 1) := by decide +kernel
theorem dX12_give_31 : decode cX12_give 31 = .ok (.invokevirtual 319, 3) := by decide +kernel
theorem dX12_give_34 : decode cX12_give 34 = .ok (.istore 4, 2) := by decide +kernel
theorem dX12_give_36 : decode cX12_give 36 = .ok (.iload_n 3, 1) := by decide +kernel
theorem dX12_give_37 : decode cX12_give 37 = .ok (.iconst 2, 1) := by decide +kernel
theorem dX12_give_38 : decode cX12_give 38 = .ok (.if_icmp .ge 97, 3) := by decide +kernel
theorem dX12_give_41 : decode cX12_give 41 = .ok (.aload_n 0, 1) := by decide +kernel
theorem dX12_give_42 : decode cX12_give 42 = .ok (.getfield 316, 3) := by decide +kernel
theorem dX12_give_45 : decode cX12_give 45 = .ok (.ifCond .ne 90, 3) := by decide +kernel
theorem dX12_give_48 : decode cX12_give 48 = .ok (.iload_n 3, 1) := by decide +kernel
theorem dX12_give_49 : decode cX12_give 49 = .ok (.iconst 1, 1) := by decide +kernel
theorem dX12_give_50 : decode cX12_give 50 = .ok (.if_icmp .ne 12, 3) := by decide +kernel
theorem dX12_give_53 : decode cX12_give 53 = .ok (.aload_n 0, 1) := by decide +kernel
theorem dX12_give_54 : decode cX12_give 54 = .ok (.iload_n 1, 1) := by decide +kernel
theorem dX12_give_55 : decode cX12_give 55 = .ok (.iconst 2, 1) := by decide +kernel
theorem dX12_give_56 : decode cX12_give 56 = .ok (.invokevirtual 319, 3) := by decide +kernel
theorem dX12_give_59 : decode cX12_give 59 = .ok (.goto 4, 3) := by decide +kernel
theorem dX12_give_62 : decode cX12_give 62 = .ok (.iconst 1, 1) := by decide +kernel
theorem dX12_give_63 : decode cX12_give 63 = .ok (.istore 5, 2) := by decide +kernel
theorem dX12_give_65 : decode cX12_give 65 = .ok (.iload_n 3, 1) := by decide +kernel
theorem dX12_give_66 : decode cX12_give 66 = .ok (.ifCond .ne 12, 3) := by decide +kernel
theorem dX12_give_69 : decode cX12_give 69 = .ok (.aload_n 0, 1) := by decide +kernel
theorem dX12_give_70 : decode cX12_give 70 = .ok (.iload 4, 2) := by decide +kernel
theorem dX12_give_72 : decode cX12_give 72 = .ok (.invokevirtual 349, 3) := by decide +kernel
theorem dX12_give_75 : decode cX12_give 75 = .ok (.goto 11, 3) := by decide +kernel
theorem dX12_give_78 : decode cX12_give 78 = .ok (.aload_n 0, 1) := by decide +kernel
theorem dX12_give_79 : decode cX12_give 79 = .ok (.iload 4, 2) := by decide +kernel
theorem dX12_give_81 : decode cX12_give 81 = .ok (.iload 5, 2) := by decide +kernel
theorem dX12_give_83 : decode cX12_give 83 = .ok (.invokevirtual 352, 3) := by decide +kernel
theorem dX12_give_86 : decode cX12_give 86 = .ok (.istore 6, 2) := by decide +kernel
theorem dX12_give_88 : decode cX12_give 88 = .ok (.aload_n 0, 1) := by decide +kernel
theorem dX12_give_89 : decode cX12_give 89 = .ok (.getfield 316, 3) := by decide +kernel
theorem dX12_give_92 : decode cX12_give 92 = .ok (.ifCond .le 7, 3) := by decide +kernel
theorem dX12_give_95 : decode cX12_give 95 = .ok (.iconst 1, 1) := by decide +kernel
theorem dX12_give_96 : decode cX12_give 96 = .ok (.goto 20, 3) := by decide +kernel
theorem dX12_give_99 : decode cX12_give 99 = .ok (.aload_n 0, 1) := by decide +kernel
theorem dX12_give_100 : decode cX12_give 100 = .ok (.iload_n 1, 1) := by decide +kernel
theorem dX12_give_101 : decode cX12_give 101 = .ok (.iload_n 3, 1) := by decide +kernel
theorem dX12_give_102 : decode cX12_give 102 = .ok (.iload 6, 2) := by decide +kernel
theorem dX12_give_104 : decode cX12_give 104 = .ok (.ifCond .eq 7, 3) := by decide +kernel
theorem dX12_give_107 : decode cX12_give 107 = .ok (.iconst 2, 1) := by decide +kernel
theorem dX12_give_108 : decode cX12_give 108 = .ok (.goto 4, 3) := by decide +kernel
theorem dX12_give_111 : decode cX12_give 111 = .ok (.iconst 3, 1) := by decide +kernel
theorem dX12_give_112 : decode cX12_give 112 = .ok (.iadd, 1) := by decide +kernel
theorem dX12_give_113 : decode cX12_give 113 = .ok (.invokevirtual 319, 3) := by decide +kernel
theorem dX12_give_116 : decode cX12_give 116 = .ok (.istore 7, 2) := by decide +kernel
theorem dX12_give_118 : decode cX12_give 118 = .ok (.aload_n 0, 1) := by decide +kernel
theorem dX12_give_119 : decode cX12_give 119 = .ok (.getfield 316, 3) := by decide +kernel
theorem dX12_give_122 : decode cX12_give 122 = .ok (.ifCond .ne 10, 3) := by decide +kernel
theorem dX12_give_125 : decode cX12_give 125 = .ok (.aload_n 0, 1) := by decide +kernel
theorem dX12_give_126 : decode cX12_give 126 = .ok (.iload_n 2, 1) := by decide +kernel
theorem dX12_give_127 : decode cX12_give 127 = .ok (.iload 7, 2) := by decide +kernel
theorem dX12_give_129 : decode cX12_give 129 = .ok (.invokevirtual 294, 3) := by decide +kernel
theorem dX12_give_132 : decode cX12_give 132 = .ok (.goto 50, 3) := by decide +kernel
theorem dX12_give_135 : decode cX12_give 135 = .ok (.iload_n 3, 1) := by decide +kernel
theorem dX12_give_136 : decode cX12_give 136 = .ok (.iconst 2, 1) := by decide +kernel
theorem dX12_give_137 : decode cX12_give 137 = .ok (.if_icmp .ne 27, 3) := by decide +kernel
theorem dX12_give_140 : decode cX12_give 140 = .ok (.aload_n 0, 1) := by decide +kernel
theorem dX12_give_141 : decode cX12_give 141 = .ok (.iload_n 1, 1) := by decide +kernel
theorem dX12_give_142 : decode cX12_give 142 = .ok (.invokevirtual 355, 3) := by decide +kernel
theorem dX12_give_145 : decode cX12_give 145 = .ok (.istore 5, 2) := by decide +kernel
theorem dX12_give_147 : decode cX12_give 147 = .ok (.aload_n 0, 1) := by decide +kernel
theorem dX12_give_148 : decode cX12_give 148 = .ok (.getfield 316, 3) := by decide +kernel
theorem dX12_give_151 : decode cX12_give 151 = .ok (.ifCond .ne 10, 3) := by decide +kernel
theorem dX12_give_154 : decode cX12_give 154 = .ok (.aload_n 0, 1) := by decide +kernel
theorem dX12_give_155 : decode cX12_give 155 = .ok (.iload_n 2, 1) := by decide +kernel
theorem dX12_give_156 : decode cX12_give 156 = .ok (.iload 5, 2) := by decide +kernel
theorem dX12_give_158 : decode cX12_give 158 = .ok (.invokevirtual 251, 3) := by decide +kernel
theorem dX12_give_161 : decode cX12_give 161 = .ok (.goto 21, 3) := by decide +kernel
theorem dX12_give_164 : decode cX12_give 164 = .ok (.aload_n 0, 1) := by decide +kernel
theorem dX12_give_165 : decode cX12_give 165 = .ok (.getfield 316, 3) := by decide +kernel
theorem dX12_give_168 : decode cX12_give 168 = .ok (.ifCond .ne 14, 3) := by decide +kernel
theorem dX12_give_171 : decode cX12_give 171 = .ok (.aload_n 0, 1) := by decide +kernel
theorem dX12_give_172 : decode cX12_give 172 = .ok (.iload_n 1, 1) := by decide +kernel
theorem dX12_give_173 : decode cX12_give 173 = .ok (.aload_n 0, 1) := by decide +kernel
theorem dX12_give_174 : decode cX12_give 174 = .ok (.iload 4, 2) := by decide +kernel
theorem dX12_give_176 : decode cX12_give 176 = .ok (.invokevirtual 325, 3) := by decide +kernel
theorem dX12_give_179 : decode cX12_give 179 = .ok (.invokevirtual 358, 3) := by decide +kernel
theorem dX12_give_182 : decode cX12_give 182 = .ok (.aload_n 0, 1) := by decide +kernel
theorem dX12_give_183 : decode cX12_give 183 = .ok (.getfield 316, 3) := by decide +kernel
theorem dX12_give_186 : decode cX12_give 186 = .ok (.ifCond .le 68, 3) := by decide +kernel
theorem dX12_give_189 : decode cX12_give 189 = .ok (.bipush 32, 2) := by decide +kernel
theorem dX12_give_191 : decode cX12_give 191 = .ok (.iload_n 1, 1) := by decide +kernel
theorem dX12_give_192 : decode cX12_give 192 = .ok (.imul, 1) := by decide +kernel
theorem dX12_give_193 : decode cX12_give 193 = .ok (.aload_n 0, 1) := by decide +kernel
theorem dX12_give_194 : decode cX12_give 194 = .ok (.getfield 316, 3) := by decide +kernel
theorem dX12_give_197 : decode cX12_give 197 = .ok (.iadd, 1) := by decide +kernel
theorem dX12_give_198 : decode cX12_give 198 = .ok (.iconst 1, 1) := by decide +kernel
theorem dX12_give_199 : decode cX12_give 199 = .ok (.isub, 1) := by decide +kernel
theorem dX12_give_200 : decode cX12_give 200 = .ok (.istore 5, 2) := by decide +kernel
theorem dX12_give_202 : decode cX12_give 202 = .ok (.aload_n 0, 1) := by decide +kernel
theorem dX12_give_203 : decode cX12_give 203 = .ok (.getfield 150, 3) := by decide +kernel
theorem dX12_give_206 : decode cX12_give 206 = .ok (.iload 5, 2) := by decide +kernel
theorem dX12_give_208 : decode cX12_give 208 = .ok (.aload_n 0, 1) := by decide +kernel
theorem dX12_give_209 : decode cX12_give 209 = .ok (.invokevirtual 297, 3) := by decide +kernel
theorem dX12_give_212 : decode cX12_give 212 = .ok (.iastore, 1) := by decide +kernel
theorem dX12_give_213 : decode cX12_give 213 = .ok (.aload_n 0, 1) := by decide +kernel
theorem dX12_give_214 : decode cX12_give 214 = .ok (.iconst 2, 1) := by decide +kernel
theorem dX12_give_215 : decode cX12_give 215 = .ok (.iload_n 1, 1) := by decide +kernel
theorem dX12_give_216 : decode cX12_give 216 = .ok (.iconst 0, 1) := by decide +kernel
theorem dX12_give_217 : decode cX12_give 217 = .ok (.iconst 0, 1) := by decide +kernel
theorem dX12_give_218 : decode cX12_give 218 = .ok (.iload_n 2, 1) := by decide +kernel
theorem dX12_give_219 : decode cX12_give 219 = .ok (.invokevirtual 290, 3) := by decide +kernel
theorem dX12_give_222 : decode cX12_give 222 = .ok (.aload_n 0, 1) := by decide +kernel
theorem dX12_give_223 : decode cX12_give 223 = .ok (.iconst 0, 1) := by decide +kernel
theorem dX12_give_224 : decode cX12_give 224 = .ok (.aload_n 0, 1) := by decide +kernel
theorem dX12_give_225 : decode cX12_give 225 = .ok (.getfield 135, 3) := by decide +kernel
theorem dX12_give_228 : decode cX12_give 228 = .ok (.iload_n 1, 1) := by decide +kernel
theorem dX12_give_229 : decode cX12_give 229 = .ok (.iaload, 1) := by decide +kernel
theorem dX12_give_230 : decode cX12_give 230 = .ok (.aload_n 0, 1) := by decide +kernel
theorem dX12_give_231 : decode cX12_give 231 = .ok (.getfield 144, 3) := by decide +kernel
theorem dX12_give_234 : decode cX12_give 234 = .ok (.iload 5, 2) := by decide +kernel
theorem dX12_give_236 : decode cX12_give 236 = .ok (.iaload, 1) := by decide +kernel
theorem dX12_give_237 : decode cX12_give 237 = .ok (.aload_n 0, 1) := by decide +kernel
theorem dX12_give_238 : decode cX12_give 238 = .ok (.getfield 147, 3) := by decide +kernel
theorem dX12_give_241 : decode cX12_give 241 = .ok (.iload 5, 2) := by decide +kernel
theorem dX12_give_243 : decode cX12_give 243 = .ok (.iaload, 1) := by decide +kernel
theorem dX12_give_244 : decode cX12_give 244 = .ok (.aload_n 0, 1) := by decide +kernel
theorem dX12_give_245 : decode cX12_give 245 = .ok (.getfield 150, 3) := by decide +kernel
theorem dX12_give_248 : decode cX12_give 248 = .ok (.iload 5, 2) := by decide +kernel
theorem dX12_give_250 : decode cX12_give 250 = .ok (.iaload, 1) := by decide +kernel
theorem dX12_give_251 : decode cX12_give 251 = .ok (.invokevirtual 290, 3) := by decide +kernel
theorem dX12_give_254 : decode cX12_give 254 = .ok (.return_, 1) := by decide +kernel
theorem dX12_expand_0 : decode cX12_expand 0 = .ok (.aload_n 0, 1) := by decide +kernel
theorem dX12_expand_1 : decode cX12_expand 1 = .ok (.iconst 0, 1) := by decide +kernel
theorem dX12_expand_2 : decode cX12_expand 2 = .ok (.putfield 263, 3) := by decide +kernel
theorem dX12_expand_5 : decode cX12_expand 5 = .ok (.aload_n 0, 1) := by decide +kernel
theorem dX12_expand_6 : decode cX12_expand 6 = .ok (.iconst 0, 1) := by decide +kernel
theorem dX12_expand_7 : decode cX12_expand 7 = .ok (.putfield 248, 3) := by decide +kernel
theorem dX12_expand_10 : decode cX12_expand 10 = .ok (.aload_n 0, 1) := by decide +kernel
theorem dX12_expand_11 : decode cX12_expand 11 = .ok (.iconst 0, 1) := by decide +kernel
theorem dX12_expand_12 : decode cX12_expand 12 = .ok (.putfield 301, 3) := by decide +kernel
theorem dX12_expand_15 : decode cX12_expand 15 = .ok (.aload_n 0, 1) := by decide +kernel
theorem dX12_expand_16 : decode cX12_expand 16 = .ok (.iconst 0, 1) := by decide +kernel
theorem dX12_expand_17 : decode cX12_expand 17 = .ok (.putfield 254, 3) := by decide +kernel
theorem dX12_expand_20 : decode cX12_expand 20 = .ok (.aload_n 0, 1) := by decide +kernel
theorem dX12_expand_21 : decode cX12_expand 21 = .ok (.iconst 0, 1) := by decide +kernel
theorem dX12_expand_22 : decode cX12_expand 22 = .ok (.putfield 270, 3) := by decide +kernel
theorem dX12_expand_25 : decode cX12_expand 25 = .ok (.aload_n 0, 1) := by decide +kernel
theorem dX12_expand_26 : decode cX12_expand 26 = .ok (.iconst 0, 1) := by decide +kernel
theorem dX12_expand_27 : decode cX12_expand 27 = .ok (.putfield 276, 3) := by decide +kernel
theorem dX12_expand_30 : decode cX12_expand 30 = .ok (.aload_n 0, 1) := by decide +kernel
theorem dX12_expand_31 : decode cX12_expand 31 = .ok (.iconst 0, 1) := by decide +kernel
theorem dX12_expand_32 : decode cX12_expand 32 = .ok (.putfield 304, 3) := by decide +kernel
theorem dX12_expand_35 : decode cX12_expand 35 = .ok (.aload_n 0, 1) := by decide +kernel
theorem dX12_expand_36 : decode cX12_expand 36 = .ok (.iconst 0, 1) := by decide +kernel
theorem dX12_expand_37 : decode cX12_expand 37 = .ok (.putfield 239, 3) := by decide +kernel
theorem dX12_expand_40 : decode cX12_expand 40 = .ok (.aload_n 0, 1) := by decide +kernel
theorem dX12_expand_41 : decode cX12_expand 41 = .ok (.iconst 0, 1) := by decide +kernel
theorem dX12_expand_42 : decode cX12_expand 42 = .ok (.putfield 331, 3) := by decide +kernel
theorem dX12_expand_45 : decode cX12_expand 45 = .ok (.aload_n 0, 1) := by decide +kernel
theorem dX12_expand_46 : decode cX12_expand 46 = .ok (.iconst 0, 1) := by decide +kernel
theorem dX12_expand_47 : decode cX12_expand 47 = .ok (.putfield 343, 3) := by decide +kernel
theorem dX12_expand_50 : decode cX12_expand 50 = .ok (.aload_n 0, 1) := by decide +kernel
theorem dX12_expand_51 : decode cX12_expand 51 = .ok (.invokevirtual 297, 3) := by decide +kernel
theorem dX12_expand_54 : decode cX12_expand 54 = .ok (.istore_n 3, 1) := by decide +kernel
theorem dX12_expand_55 : decode cX12_expand 55 = .ok (.aload_n 0, 1) := by decide +kernel
theorem dX12_expand_56 : decode cX12_expand 56 = .ok (.invokevirtual 297, 3) := by decide +kernel
theorem dX12_expand_59 : decode cX12_expand 59 = .ok (.istore 4, 2) := by decide +kernel
theorem dX12_expand_61 : decode cX12_expand 61 = .ok (.aload_n 0, 1) := by decide +kernel
theorem dX12_expand_62 : decode cX12_expand 62 = .ok (.iconst 0, 1) := by decide +kernel
theorem dX12_expand_63 : decode cX12_expand 63 = .ok (.aload_n 0, 1) := by decide +kernel
theorem dX12_expand_64 : decode cX12_expand 64 = .ok (.iload_n 2, 1) := by decide +kernel
theorem dX12_expand_65 : decode cX12_expand 65 = .ok (.iload_n 1, 1) := by decide +kernel
theorem dX12_expand_66 : decode cX12_expand 66 = .ok (.iconst 0, 1) := by decide +kernel
theorem dX12_expand_67 : decode cX12_expand 67 = .ok (.iconst (-1), 1) := by decide +kernel
theorem dX12_expand_68 : decode cX12_expand 68 = .ok (.invokevirtual 282, 3) := by decide +kernel
theorem dX12_expand_71 : decode cX12_expand 71 = .ok (.iconst 0, 1) := by decide +kernel
theorem dX12_expand_72 : decode cX12_expand 72 = .ok (.aload_n 0, 1) := by decide +kernel
theorem dX12_expand_73 : decode cX12_expand 73 = .ok (.getfield 25, 3) := by decide +kernel
theorem dX12_expand_76 : decode cX12_expand 76 = .ok (.iload_n 2, 1) := by decide +kernel
theorem dX12_expand_77 : decode cX12_expand 77 = .ok (.iaload, 1) := by decide +kernel
theorem dX12_expand_78 : decode cX12_expand 78 = .ok (.iload_n 3, 1) := by decide +kernel
theorem dX12_expand_79 : decode cX12_expand 79 = .ok (.invokevirtual 290, 3) := by decide +kernel
theorem dX12_expand_82 : decode cX12_expand 82 = .ok (.aload_n 0, 1) := by decide +kernel
theorem dX12_expand_83 : decode cX12_expand 83 = .ok (.getfield 254, 3) := by decide +kernel
theorem dX12_expand_86 : decode cX12_expand 86 = .ok (.ifCond .le 166, 3) := by decide +kernel
theorem dX12_expand_89 : decode cX12_expand 89 = .ok (.aload_n 0, 1) := by decide +kernel
theorem dX12_expand_90 : decode cX12_expand 90 = .ok (.dup, 1) := by decide +kernel
theorem dX12_expand_91 : decode cX12_expand 91 = .ok (.getfield 254, 3) := by decide +kernel
theorem dX12_expand_94 : decode cX12_expand 94 = .ok (.iconst 1, 1) := by decide +kernel
theorem dX12_expand_95 : decode cX12_expand 95 = .ok (.isub, 1) := by decide +kernel
theorem dX12_expand_96 : decode cX12_expand 96 = .ok (.putfield 254, 3) := by decide +kernel
theorem dX12_expand_99 : decode cX12_expand 99 = .ok (.aload_n 0, 1) := by decide +kernel
theorem dX12_expand_100 : decode cX12_expand 100 = .ok (.getfield 153, 3) := by decide +kernel
theorem dX12_expand_103 : decode cX12_expand 103 = .ok (.aload_n 0, 1) := by decide +kernel
theorem dX12_expand_104 : decode cX12_expand 104 = .ok (.getfield 254, 3) := by decide +kernel
theorem dX12_expand_107 : decode cX12_expand 107 = .ok (.iaload, 1) := by decide +kernel
theorem dX12_expand_108 : decode cX12_expand 108 = .ok (.istore 5, 2) := by decide +kernel
theorem dX12_expand_110 : decode cX12_expand 110 = .ok (.aload_n 0, 1) := by decide +kernel
theorem dX12_expand_111 : decode cX12_expand 111 = .ok (.getfield 156, 3) := by decide +kernel
theorem dX12_expand_114 : decode cX12_expand 114 = .ok (.aload_n 0, 1) := by decide +kernel
theorem dX12_expand_115 : decode cX12_expand 115 = .ok (.getfield 254, 3) := by decide +kernel
theorem dX12_expand_118 : decode cX12_expand 118 = .ok (.iaload, 1) := by decide +kernel
theorem dX12_expand_119 : decode cX12_expand 119 = .ok (.istore 6, 2) := by decide +kernel
theorem dX12_expand_121 : decode cX12_expand 121 = .ok (.aload_n 0, 1) := by decide +kernel
theorem dX12_expand_122 : decode cX12_expand 122 = .ok (.getfield 159, 3) := by decide +kernel
theorem dX12_expand_125 : decode cX12_expand 125 = .ok (.aload_n 0, 1) := by decide +kernel
theorem dX12_expand_126 : decode cX12_expand 126 = .ok (.getfield 254, 3) := by decide +kernel
theorem dX12_expand_129 : decode cX12_expand 129 = .ok (.iaload, 1) := by decide +kernel
theorem dX12_expand_130 : decode cX12_expand 130 = .ok (.istore 7, 2) := by decide +kernel
theorem dX12_expand_132 : decode cX12_expand 132 = .ok (.aload_n 0, 1) := by decide +kernel
theorem dX12_expand_133 : decode cX12_expand 133 = .ok (.getfield 162, 3) := by decide +kernel
theorem dX12_expand_136 : decode cX12_expand 136 = .ok (.aload_n 0, 1) := by decide +kernel
theorem dX12_expand_137 : decode cX12_expand 137 = .ok (.getfield 254, 3) := by decide +kernel
theorem dX12_expand_140 : decode cX12_expand 140 = .ok (.iaload, 1) := by decide +kernel
theorem dX12_expand_141 : decode cX12_expand 141 = .ok (.istore 8, 2) := by decide +kernel
theorem dX12_expand_143 : decode cX12_expand 143 = .ok (.aload_n 0, 1) := by decide +kernel
theorem dX12_expand_144 : decode cX12_expand 144 = .ok (.getfield 165, 3) := by decide +kernel
theorem dX12_expand_147 : decode cX12_expand 147 = .ok (.aload_n 0, 1) := by decide +kernel
theorem dX12_expand_148 : decode cX12_expand 148 = .ok (.getfield 254, 3) := by decide +kernel
theorem dX12_expand_151 : decode cX12_expand 151 = .ok (.iaload, 1) := by decide +kernel
theorem dX12_expand_152 : decode cX12_expand 152 = .ok (.istore 9, 2) := by decide +kernel
theorem dX12_expand_154 : decode cX12_expand 154 = .ok (.iload 5, 2) := by decide +kernel
theorem dX12_expand_156 : decode cX12_expand 156 = .ok (.iconst 1, 1) := by decide +kernel
theorem dX12_expand_157 : decode cX12_expand 157 = .ok (.if_icmp .ne 14, 3) := by decide +kernel
theorem dX12_expand_160 : decode cX12_expand 160 = .ok (.aload_n 0, 1) := by decide +kernel
theorem dX12_expand_161 : decode cX12_expand 161 = .ok (.iload 9, 2) := by decide +kernel
theorem dX12_expand_163 : decode cX12_expand 163 = .ok (.iload 6, 2) := by decide +kernel
theorem dX12_expand_165 : decode cX12_expand 165 = .ok (.invokevirtual 294, 3) := by decide +kernel
theorem dX12_expand_168 : decode cX12_expand 168 = .ok (.goto 81, 3) := by decide +kernel
theorem dX12_expand_171 : decode cX12_expand 171 = .ok (.iload 5, 2) := by decide +kernel
theorem dX12_expand_173 : decode cX12_expand 173 = .ok (.iconst 2, 1) := by decide +kernel
theorem dX12_expand_174 : decode cX12_expand 174 = .ok (.if_icmp .ne 12, 3) := by decide +kernel
theorem dX12_expand_177 : decode cX12_expand 177 = .ok (.aload_n 0, 1) := by decide +kernel
theorem dX12_expand_178 : decode cX12_expand 178 = .ok (.iload 6, 2) := by decide +kernel
theorem dX12_expand_180 : decode cX12_expand 180 = .ok (.invokevirtual 361, 3) := by decide +kernel
theorem dX12_expand_183 : decode cX12_expand 183 = .ok (.goto 66, 3) := by decide +kernel
theorem dX12_expand_186 : decode cX12_expand 186 = .ok (.iload 7, 2) := by decide +kernel
theorem dX12_expand_188 : decode cX12_expand 188 = .ok (.iload 8, 2) := by decide +kernel
theorem dX12_expand_190 : decode cX12_expand 190 = .ok (.if_icmp .ge 59, 3) := by decide +kernel
theorem dX12_expand_193 : decode cX12_expand 193 = .ok (.aload_n 0, 1) := by decide +kernel
theorem dX12_expand_194 : decode cX12_expand 194 = .ok (.iconst 0, 1) := by decide +kernel
theorem dX12_expand_195 : decode cX12_expand 195 = .ok (.iload 6, 2) := by decide +kernel
theorem dX12_expand_197 : decode cX12_expand 197 = .ok (.aload_n 0, 1) := by decide +kernel
theorem dX12_expand_198 : decode cX12_expand 198 = .ok (.iload 6, 2) := by decide +kernel
theorem dX12_expand_200 : decode cX12_expand 200 = .ok (.iload 7, 2) := by decide +kernel
theorem dX12_expand_202 : decode cX12_expand 202 = .ok (.invokevirtual 257, 3) := by decide +kernel
theorem dX12_expand_205 : decode cX12_expand 205 = .ok (.sipush 1000, 3) := by decide +kernel
theorem dX12_expand_208 : decode cX12_expand 208 = .ok (.idiv, 1) := by decide +kernel
theorem dX12_expand_209 : decode cX12_expand 209 = .ok (.invokestatic 206, 3) := by decide +kernel
theorem dX12_expand_212 : decode cX12_expand 212 = .ok (.ifCond .eq 16, 3) := by decide +kernel
theorem dX12_expand_215 : decode cX12_expand 215 = .ok (.aload_n 0, 1) := by decide +kernel
theorem dX12_expand_216 : decode cX12_expand 216 = .ok (.iload 6, 2) := by decide +kernel
theorem dX12_expand_218 : decode cX12_expand 218 = .ok (.iload 7, 2) := by decide +kernel
theorem dX12_expand_220 : decode cX12_expand 220 = .ok (.invokevirtual 260, 3) := by decide +kernel
theorem dX12_expand_223 : decode cX12_expand 223 = .ok (.iconst 1, 1) := by decide +kernel
theorem dX12_expand_224 : decode cX12_expand 224 = .ok (.iadd, 1) := by decide +kernel
theorem dX12_expand_225 : decode cX12_expand 225 = .ok (.goto 7, 3) := by decide +kernel
theorem dX12_expand_228 : decode cX12_expand 228 = .ok (.iload 7, 2) := by decide +kernel
theorem dX12_expand_230 : decode cX12_expand 230 = .ok (.iconst 1, 1) := by decide +kernel
theorem dX12_expand_231 : decode cX12_expand 231 = .ok (.iadd, 1) := by decide +kernel
theorem dX12_expand_232 : decode cX12_expand 232 = .ok (.iload 8, 2) := by decide +kernel
theorem dX12_expand_234 : decode cX12_expand 234 = .ok (.iload 9, 2) := by decide +kernel
theorem dX12_expand_236 : decode cX12_expand 236 = .ok (.invokevirtual 290, 3) := by decide +kernel
theorem dX12_expand_239 : decode cX12_expand 239 = .ok (.aload_n 0, 1) := by decide +kernel
theorem dX12_expand_240 : decode cX12_expand 240 = .ok (.iload 6, 2) := by decide +kernel
theorem dX12_expand_242 : decode cX12_expand 242 = .ok (.iload 7, 2) := by decide +kernel
theorem dX12_expand_244 : decode cX12_expand 244 = .ok (.iload 9, 2) := by decide +kernel
theorem dX12_expand_246 : decode cX12_expand 246 = .ok (.invokevirtual 365, 3) := by decide +kernel
theorem dX12_expand_249 : decode cX12_expand 249 = .ok (.goto (-167), 3) := by decide +kernel
theorem dX12_expand_252 : decode cX12_expand 252 = .ok (.return_, 1) := by decide +kernel
theorem dX12_render_0 : decode cX12_render 0 = .ok (.aload_n 0, 1) := by decide +kernel
theorem dX12_render_1 : decode cX12_render 1 = .ok (.iconst (-1), 1) := by decide +kernel
theorem dX12_render_2 : decode cX12_render 2 = .ok (.putfield 232, 3) := by decide +kernel
theorem dX12_render_5 : decode cX12_render 5 = .ok (.aload_n 0, 1) := by decide +kernel
theorem dX12_render_6 : decode cX12_render 6 = .ok (.getfield 212, 3) := by decide +kernel
theorem dX12_render_9 : decode cX12_render 9 = .ok (.istore_n 2, 1) := by decide +kernel
theorem dX12_render_10 : decode cX12_render 10 = .ok (.aload_n 0, 1) := by decide +kernel
theorem dX12_render_11 : decode cX12_render 11 = .ok (.iload_n 1, 1) := by decide +kernel
theorem dX12_render_12 : decode cX12_render 12 = .ok (.aload_n 0, 1) := by decide +kernel
theorem dX12_render_13 : decode cX12_render 13 = .ok (.iload_n 1, 1) := by decide +kernel
theorem dX12_render_14 : decode cX12_render 14 = .ok (.invokevirtual 209, 3) := by decide +kernel
theorem dX12_render_17 : decode cX12_render 17 = .ok (.invokevirtual 369, 3) := by decide +kernel
theorem dX12_render_20 : decode cX12_render 20 = .ok (.aload_n 0, 1) := by decide +kernel
theorem dX12_render_21 : decode cX12_render 21 = .ok (.getfield 74, 3) := by decide +kernel
theorem dX12_render_24 : decode cX12_render 24 = .ok (.iload_n 1, 1) := by decide +kernel
theorem dX12_render_25 : decode cX12_render 25 = .ok (.iload_n 2, 1) := by decide +kernel
theorem dX12_render_26 : decode cX12_render 26 = .ok (.iastore, 1) := by decide +kernel
theorem dX12_render_27 : decode cX12_render 27 = .ok (.aload_n 0, 1) := by decide +kernel
theorem dX12_render_28 : decode cX12_render 28 = .ok (.getfield 70, 3) := by decide +kernel
theorem dX12_render_31 : decode cX12_render 31 = .ok (.iload_n 1, 1) := by decide +kernel
theorem dX12_render_32 : decode cX12_render 32 = .ok (.iconst 1, 1) := by decide +kernel
theorem dX12_render_33 : decode cX12_render 33 = .ok (.bastore, 1) := by decide +kernel
theorem dX12_render_34 : decode cX12_render 34 = .ok (.aload_n 0, 1) := by decide +kernel
theorem dX12_render_35 : decode cX12_render 35 = .ok (.getfield 80, 3) := by decide +kernel
theorem dX12_render_38 : decode cX12_render 38 = .ok (.iload_n 1, 1) := by decide +kernel
theorem dX12_render_39 : decode cX12_render 39 = .ok (.aload_n 0, 1) := by decide +kernel
theorem dX12_render_40 : decode cX12_render 40 = .ok (.getfield 125, 3) := by decide +kernel
theorem dX12_render_43 : decode cX12_render 43 = .ok (.iconst 0, 1) := by decide +kernel
theorem dX12_render_44 : decode cX12_render 44 = .ok (.iaload, 1) := by decide +kernel
theorem dX12_render_45 : decode cX12_render 45 = .ok (.iastore, 1) := by decide +kernel
theorem dX12_render_46 : decode cX12_render 46 = .ok (.iconst 0, 1) := by decide +kernel
theorem dX12_render_47 : decode cX12_render 47 = .ok (.istore_n 3, 1) := by decide +kernel
theorem dX12_render_48 : decode cX12_render 48 = .ok (.iload_n 3, 1) := by decide +kernel
theorem dX12_render_49 : decode cX12_render 49 = .ok (.aload_n 0, 1) := by decide +kernel
theorem dX12_render_50 : decode cX12_render 50 = .ok (.getfield 125, 3) := by decide +kernel
theorem dX12_render_53 : decode cX12_render 53 = .ok (.iconst 0, 1) := by decide +kernel
theorem dX12_render_54 : decode cX12_render 54 = .ok (.iaload, 1) := by decide +kernel
theorem dX12_render_55 : decode cX12_render 55 = .ok (.if_icmp .ge 27, 3) := by decide +kernel
theorem dX12_render_58 : decode cX12_render 58 = .ok (.aload_n 0, 1) := by decide +kernel
theorem dX12_render_59 : decode cX12_render 59 = .ok (.getfield 77, 3) := by decide +kernel
theorem dX12_render_62 : decode cX12_render 62 = .ok (.sipush 150, 3) := by decide +kernel
theorem dX12_render_65 : decode cX12_render 65 = .ok (.iload_n 1, 1) := by decide +kernel
theorem dX12_render_66 : decode cX12_render 66 = .ok (.imul, 1) := by decide +kernel
theorem dX12_render_67 : decode cX12_render 67 = .ok (.iload_n 3, 1) := by decide +kernel
theorem dX12_render_68 : decode cX12_render 68 = .ok (.iadd, 1) := by decide +kernel
theorem dX12_render_69 : decode cX12_render 69 = .ok (.aload_n 0, 1) := by decide +kernel
theorem dX12_render_70 : decode cX12_render 70 = .ok (.getfield 129, 3) := by decide +kernel
theorem dX12_render_73 : decode cX12_render 73 = .ok (.iload_n 3, 1) := by decide +kernel
theorem dX12_render_74 : decode cX12_render 74 = .ok (.iaload, 1) := by decide +kernel
theorem dX12_render_75 : decode cX12_render 75 = .ok (.iastore, 1) := by decide +kernel
theorem dX12_render_76 : decode cX12_render 76 = .ok (.iinc 3 1, 3) := by decide +kernel
theorem dX12_render_79 : decode cX12_render 79 = .ok (.goto (-31), 3) := by decide +kernel
theorem dX12_render_82 : decode cX12_render 82 = .ok (.aload_n 0, 1) := by decide +kernel
theorem dX12_render_83 : decode cX12_render 83 = .ok (.getfield 83, 3) := by decide +kernel
theorem dX12_render_86 : decode cX12_render 86 = .ok (.iload_n 1, 1) := by decide +kernel
theorem dX12_render_87 : decode cX12_render 87 = .ok (.aload_n 0, 1) := by decide +kernel
theorem dX12_render_88 : decode cX12_render 88 = .ok (.getfield 276, 3) := by decide +kernel
theorem dX12_render_91 : decode cX12_render 91 = .ok (.iastore, 1) := by decide +kernel
theorem dX12_render_92 : decode cX12_render 92 = .ok (.aload_n 0, 1) := by decide +kernel
theorem dX12_render_93 : decode cX12_render 93 = .ok (.getfield 89, 3) := by decide +kernel
theorem dX12_render_96 : decode cX12_render 96 = .ok (.iload_n 1, 1) := by decide +kernel
theorem dX12_render_97 : decode cX12_render 97 = .ok (.aload_n 0, 1) := by decide +kernel
theorem dX12_render_98 : decode cX12_render 98 = .ok (.getfield 239, 3) := by decide +kernel
theorem dX12_render_101 : decode cX12_render 101 = .ok (.iastore, 1) := by decide +kernel
theorem dX12_render_102 : decode cX12_render 102 = .ok (.aload_n 0, 1) := by decide +kernel
theorem dX12_render_103 : decode cX12_render 103 = .ok (.getfield 92, 3) := by decide +kernel
theorem dX12_render_106 : decode cX12_render 106 = .ok (.iload_n 1, 1) := by decide +kernel
theorem dX12_render_107 : decode cX12_render 107 = .ok (.aload_n 0, 1) := by decide +kernel
theorem dX12_render_108 : decode cX12_render 108 = .ok (.getfield 331, 3) := by decide +kernel
theorem dX12_render_111 : decode cX12_render 111 = .ok (.iastore, 1) := by decide +kernel
theorem dX12_render_112 : decode cX12_render 112 = .ok (.aload_n 0, 1) := by decide +kernel
theorem dX12_render_113 : decode cX12_render 113 = .ok (.getfield 95, 3) := by decide +kernel
theorem dX12_render_116 : decode cX12_render 116 = .ok (.iload_n 1, 1) := by decide +kernel
theorem dX12_render_117 : decode cX12_render 117 = .ok (.aload_n 0, 1) := by decide +kernel
theorem dX12_render_118 : decode cX12_render 118 = .ok (.getfield 343, 3) := by decide +kernel
theorem dX12_render_121 : decode cX12_render 121 = .ok (.iastore, 1) := by decide +kernel
theorem dX12_render_122 : decode cX12_render 122 = .ok (.aload_n 0, 1) := by decide +kernel
theorem dX12_render_123 : decode cX12_render 123 = .ok (.iload_n 1, 1) := by decide +kernel
theorem dX12_render_124 : decode cX12_render 124 = .ok (.aload_n 0, 1) := by decide +kernel
theorem dX12_render_125 : decode cX12_render 125 = .ok (.getfield 304, 3) := by decide +kernel
theorem dX12_render_128 : decode cX12_render 128 = .ok (.invokevirtual 225, 3) := by decide +kernel
theorem dX12_render_131 : decode cX12_render 131 = .ok (.return_, 1) := by decide +kernel
theorem dX12_isOld_0 : decode cX12_isOld 0 = .ok (.aload_n 0, 1) := by decide +kernel
theorem dX12_isOld_1 : decode cX12_isOld 1 = .ok (.getfield 70, 3) := by decide +kernel
theorem dX12_isOld_4 : decode cX12_isOld 4 = .ok (.iload_n 1, 1) := by decide +kernel
theorem dX12_isOld_5 : decode cX12_isOld 5 = .ok (.baload, 1) := by decide +kernel
theorem dX12_isOld_6 : decode cX12_isOld 6 = .ok (.ifCond .eq 18, 3) := by decide +kernel
theorem dX12_isOld_9 : decode cX12_isOld 9 = .ok (.aload_n 0, 1) := by decide +kernel
theorem dX12_isOld_10 : decode cX12_isOld 10 = .ok (.getfield 58, 3) := by decide +kernel
theorem dX12_isOld_13 : decode cX12_isOld 13 = .ok (.iload_n 1, 1) := by decide +kernel
theorem dX12_isOld_14 : decode cX12_isOld 14 = .ok (.iaload, 1) := by decide +kernel
theorem dX12_isOld_15 : decode cX12_isOld 15 = .ok (.aload_n 0, 1) := by decide +kernel
theorem dX12_isOld_16 : decode cX12_isOld 16 = .ok (.getfield 74, 3) := by decide +kernel
theorem dX12_isOld_19 : decode cX12_isOld 19 = .ok (.iload_n 1, 1) := by decide +kernel
theorem dX12_isOld_20 : decode cX12_isOld 20 = .ok (.iaload, 1) := by decide +kernel
theorem dX12_isOld_21 : decode cX12_isOld 21 = .ok (.if_icmp .le 7, 3) := by decide +kernel
theorem dX12_isOld_24 : decode cX12_isOld 24 = .ok (.iconst 1, 1) := by decide +kernel
theorem dX12_isOld_25 : decode cX12_isOld 25 = .ok (.goto 4, 3) := by decide +kernel
theorem dX12_isOld_28 : decode cX12_isOld 28 = .ok (.iconst 0, 1) := by decide +kernel
theorem dX12_isOld_29 : decode cX12_isOld 29 = .ok (.istore_n 2, 1) := by decide +kernel
theorem dX12_isOld_30 : decode cX12_isOld 30 = .ok (.iconst 0, 1) := by decide +kernel
theorem dX12_isOld_31 : decode cX12_isOld 31 = .ok (.istore_n 3, 1) := by decide +kernel
theorem dX12_isOld_32 : decode cX12_isOld 32 = .ok (.iload_n 3, 1) := by decide +kernel
theorem dX12_isOld_33 : decode cX12_isOld 33 = .ok (.bipush 24, 2) := by decide +kernel
theorem dX12_isOld_35 : decode cX12_isOld 35 = .ok (.if_icmp .ge 137, 3) := by decide +kernel
theorem dX12_isOld_38 : decode cX12_isOld 38 = .ok (.iload_n 2, 1) := by decide +kernel
theorem dX12_isOld_39 : decode cX12_isOld 39 = .ok (.ifCond .ne 133, 3) := by decide +kernel
theorem dX12_isOld_42 : decode cX12_isOld 42 = .ok (.aload_n 0, 1) := by decide +kernel
theorem dX12_isOld_43 : decode cX12_isOld 43 = .ok (.getfield 89, 3) := by decide +kernel
theorem dX12_isOld_46 : decode cX12_isOld 46 = .ok (.iload_n 1, 1) := by decide +kernel
theorem dX12_isOld_47 : decode cX12_isOld 47 = .ok (.iaload, 1) := by decide +kernel
theorem dX12_isOld_48 : decode cX12_isOld 48 = .ok (.iload_n 3, 1) := by decide +kernel
theorem dX12_isOld_49 : decode cX12_isOld 49 = .ok (.ishr, 1) := by decide +kernel
theorem dX12_isOld_50 : decode cX12_isOld 50 = .ok (.iconst 1, 1) := by decide +kernel
theorem dX12_isOld_51 : decode cX12_isOld 51 = .ok (.iand, 1) := by decide +kernel
theorem dX12_isOld_52 : decode cX12_isOld 52 = .ok (.iconst 1, 1) := by decide +kernel
theorem dX12_isOld_53 : decode cX12_isOld 53 = .ok (.if_icmp .ne 22, 3) := by decide +kernel
theorem dX12_isOld_56 : decode cX12_isOld 56 = .ok (.aload_n 0, 1) := by decide +kernel
theorem dX12_isOld_57 : decode cX12_isOld 57 = .ok (.getfield 58, 3) := by decide +kernel
theorem dX12_isOld_60 : decode cX12_isOld 60 = .ok (.iload_n 3, 1) := by decide +kernel
theorem dX12_isOld_61 : decode cX12_isOld 61 = .ok (.iaload, 1) := by decide +kernel
theorem dX12_isOld_62 : decode cX12_isOld 62 = .ok (.aload_n 0, 1) := by decide +kernel
theorem dX12_isOld_63 : decode cX12_isOld 63 = .ok (.getfield 74, 3) := by decide +kernel
theorem dX12_isOld_66 : decode cX12_isOld 66 = .ok (.iload_n 1, 1) := by decide +kernel
theorem dX12_isOld_67 : decode cX12_isOld 67 = .ok (.iaload, 1) := by decide +kernel
theorem dX12_isOld_68 : decode cX12_isOld 68 = .ok (.if_icmp .le 7, 3) := by decide +kernel
theorem dX12_isOld_71 : decode cX12_isOld 71 = .ok (.iconst 1, 1) := by decide +kernel
theorem dX12_isOld_72 : decode cX12_isOld 72 = .ok (.goto 4, 3) := by decide +kernel
theorem dX12_isOld_75 : decode cX12_isOld 75 = .ok (.iconst 0, 1) := by decide +kernel
theorem dX12_isOld_76 : decode cX12_isOld 76 = .ok (.istore_n 2, 1) := by decide +kernel
theorem dX12_isOld_77 : decode cX12_isOld 77 = .ok (.iload_n 2, 1) := by decide +kernel
theorem dX12_isOld_78 : decode cX12_isOld 78 = .ok (.ifCond .ne 38, 3) := by decide +kernel
theorem dX12_isOld_81 : decode cX12_isOld 81 = .ok (.iload_n 3, 1) := by decide +kernel
theorem dX12_isOld_82 : decode cX12_isOld 82 = .ok (.bipush 8, 2) := by decide +kernel
theorem dX12_isOld_84 : decode cX12_isOld 84 = .ok (.if_icmp .ge 36, 3) := by decide +kernel
theorem dX12_isOld_87 : decode cX12_isOld 87 = .ok (.aload_n 0, 1) := by decide +kernel
theorem dX12_isOld_88 : decode cX12_isOld 88 = .ok (.getfield 92, 3) := by decide +kernel
theorem dX12_isOld_91 : decode cX12_isOld 91 = .ok (.iload_n 1, 1) := by decide +kernel
theorem dX12_isOld_92 : decode cX12_isOld 92 = .ok (.iaload, 1) := by decide +kernel
theorem dX12_isOld_93 : decode cX12_isOld 93 = .ok (.iload_n 3, 1) := by decide +kernel
theorem dX12_isOld_94 : decode cX12_isOld 94 = .ok (.ishr, 1) := by decide +kernel
theorem dX12_isOld_95 : decode cX12_isOld 95 = .ok (.iconst 1, 1) := by decide +kernel
theorem dX12_isOld_96 : decode cX12_isOld 96 = .ok (.iand, 1) := by decide +kernel
theorem dX12_isOld_97 : decode cX12_isOld 97 = .ok (.iconst 1, 1) := by decide +kernel
theorem dX12_isOld_98 : decode cX12_isOld 98 = .ok (.if_icmp .ne 22, 3) := by decide +kernel
theorem dX12_isOld_101 : decode cX12_isOld 101 = .ok (.aload_n 0, 1) := by decide +kernel
theorem dX12_isOld_102 : decode cX12_isOld 102 = .ok (.getfield 61, 3) := by decide +kernel
theorem dX12_isOld_105 : decode cX12_isOld 105 = .ok (.iload_n 3, 1) := by decide +kernel
theorem dX12_isOld_106 : decode cX12_isOld 106 = .ok (.iaload, 1) := by decide +kernel
theorem dX12_isOld_107 : decode cX12_isOld 107 = .ok (.aload_n 0, 1) := by decide +kernel
theorem dX12_isOld_108 : decode cX12_isOld 108 = .ok (.getfield 74, 3) := by decide +kernel
theorem dX12_isOld_111 : decode cX12_isOld 111 = .ok (.iload_n 1, 1) := by decide +kernel
theorem dX12_isOld_112 : decode cX12_isOld 112 = .ok (.iaload, 1) := by decide +kernel
theorem dX12_isOld_113 : decode cX12_isOld 113 = .ok (.if_icmp .le 7, 3) := by decide +kernel
theorem dX12_isOld_116 : decode cX12_isOld 116 = .ok (.iconst 1, 1) := by decide +kernel
theorem dX12_isOld_117 : decode cX12_isOld 117 = .ok (.goto 4, 3) := by decide +kernel
theorem dX12_isOld_120 : decode cX12_isOld 120 = .ok (.iconst 0, 1) := by decide +kernel
theorem dX12_isOld_121 : decode cX12_isOld 121 = .ok (.istore_n 2, 1) := by decide +kernel
theorem dX12_isOld_122 : decode cX12_isOld 122 = .ok (.iload_n 2, 1) := by decide +kernel
theorem dX12_isOld_123 : decode cX12_isOld 123 = .ok (.ifCond .ne 37, 3) := by decide +kernel
theorem dX12_isOld_126 : decode cX12_isOld 126 = .ok (.iload_n 3, 1) := by decide +kernel
theorem dX12_isOld_127 : decode cX12_isOld 127 = .ok (.iconst 4, 1) := by decide +kernel
theorem dX12_isOld_128 : decode cX12_isOld 128 = .ok (.if_icmp .ge 36, 3) := by decide +kernel
theorem dX12_isOld_131 : decode cX12_isOld 131 = .ok (.aload_n 0, 1) := by decide +kernel
theorem dX12_isOld_132 : decode cX12_isOld 132 = .ok (.getfield 95, 3) := by decide +kernel
theorem dX12_isOld_135 : decode cX12_isOld 135 = .ok (.iload_n 1, 1) := by decide +kernel
theorem dX12_isOld_136 : decode cX12_isOld 136 = .ok (.iaload, 1) := by decide +kernel
theorem dX12_isOld_137 : decode cX12_isOld 137 = .ok (.iload_n 3, 1) := by decide +kernel
theorem dX12_isOld_138 : decode cX12_isOld 138 = .ok (.ishr, 1) := by decide +kernel
theorem dX12_isOld_139 : decode cX12_isOld 139 = .ok (.iconst 1, 1) := by decide +kernel
theorem dX12_isOld_140 : decode cX12_isOld 140 = .ok (.iand, 1) := by decide +kernel
theorem dX12_isOld_141 : decode cX12_isOld 141 = .ok (.iconst 1, 1) := by decide +kernel
theorem dX12_isOld_142 : decode cX12_isOld 142 = .ok (.if_icmp .ne 22, 3) := by decide +kernel
theorem dX12_isOld_145 : decode cX12_isOld 145 = .ok (.aload_n 0, 1) := by decide +kernel
theorem dX12_isOld_146 : decode cX12_isOld 146 = .ok (.getfield 64, 3) := by decide +kernel
theorem dX12_isOld_149 : decode cX12_isOld 149 = .ok (.iload_n 3, 1) := by decide +kernel
theorem dX12_isOld_150 : decode cX12_isOld 150 = .ok (.iaload, 1) := by decide +kernel
theorem dX12_isOld_151 : decode cX12_isOld 151 = .ok (.aload_n 0, 1) := by decide +kernel
theorem dX12_isOld_152 : decode cX12_isOld 152 = .ok (.getfield 74, 3) := by decide +kernel
theorem dX12_isOld_155 : decode cX12_isOld 155 = .ok (.iload_n 1, 1) := by decide +kernel
theorem dX12_isOld_156 : decode cX12_isOld 156 = .ok (.iaload, 1) := by decide +kernel
theorem dX12_isOld_157 : decode cX12_isOld 157 = .ok (.if_icmp .le 7, 3) := by decide +kernel
theorem dX12_isOld_160 : decode cX12_isOld 160 = .ok (.iconst 1, 1) := by decide +kernel
theorem dX12_isOld_161 : decode cX12_isOld 161 = .ok (.goto 4, 3) := by decide +kernel
theorem dX12_isOld_164 : decode cX12_isOld 164 = .ok (.iconst 0, 1) := by decide +kernel
theorem dX12_isOld_165 : decode cX12_isOld 165 = .ok (.istore_n 2, 1) := by decide +kernel
theorem dX12_isOld_166 : decode cX12_isOld 166 = .ok (.iinc 3 1, 3) := by decide +kernel
theorem dX12_isOld_169 : decode cX12_isOld 169 = .ok (.goto (-137), 3) := by decide +kernel
theorem dX12_isOld_172 : decode cX12_isOld 172 = .ok (.iload_n 2, 1) := by decide +kernel
theorem dX12_isOld_173 : decode cX12_isOld 173 = .ok (.ireturn, 1) := by decide +kernel
theorem dX12_nextStale_0 : decode cX12_nextStale 0 = .ok (.iconst (-1), 1) := by decide +kernel
theorem dX12_nextStale_1 : decode cX12_nextStale 1 = .ok (.istore_n 1, 1) := by decide +kernel
theorem dX12_nextStale_2 : decode cX12_nextStale 2 = .ok (.iconst 0, 1) := by decide +kernel
theorem dX12_nextStale_3 : decode cX12_nextStale 3 = .ok (.istore_n 2, 1) := by decide +kernel
theorem dX12_nextStale_4 : decode cX12_nextStale 4 = .ok (.iload_n 2, 1) := by decide +kernel
theorem dX12_nextStale_5 : decode cX12_nextStale 5 = .ok (.bipush 24, 2) := by decide +kernel
theorem dX12_nextStale_7 : decode cX12_nextStale 7 = .ok (.if_icmp .ge 63, 3) := by decide +kernel
theorem dX12_nextStale_10 : decode cX12_nextStale 10 = .ok (.aload_n 0, 1) := by decide +kernel
theorem dX12_nextStale_11 : decode cX12_nextStale 11 = .ok (.getfield 19, 3) := by decide +kernel
theorem dX12_nextStale_14 : decode cX12_nextStale 14 = .ok (.iload_n 2, 1) := by decide +kernel
theorem dX12_nextStale_15 : decode cX12_nextStale 15 = .ok (.iaload, 1) := by decide +kernel
theorem dX12_nextStale_16 : decode cX12_nextStale 16 = .ok (.iconst (-1), 1) := by decide +kernel
theorem dX12_nextStale_17 : decode cX12_nextStale 17 = .ok (.if_icmp .eq 15, 3) := by decide +kernel
theorem dX12_nextStale_20 : decode cX12_nextStale 20 = .ok (.aload_n 0, 1) := by decide +kernel
theorem dX12_nextStale_21 : decode cX12_nextStale 21 = .ok (.iload_n 2, 1) := by decide +kernel
theorem dX12_nextStale_22 : decode cX12_nextStale 22 = .ok (.invokevirtual 372, 3) := by decide +kernel
theorem dX12_nextStale_25 : decode cX12_nextStale 25 = .ok (.ifCond .eq 7, 3) := by decide +kernel
theorem dX12_nextStale_28 : decode cX12_nextStale 28 = .ok (.iconst 1, 1) := by decide +kernel
theorem dX12_nextStale_29 : decode cX12_nextStale 29 = .ok (.goto 4, 3) := by decide +kernel
theorem dX12_nextStale_32 : decode cX12_nextStale 32 = .ok (.iconst 0, 1) := by decide +kernel
theorem dX12_nextStale_33 : decode cX12_nextStale 33 = .ok (.istore_n 3, 1) := by decide +kernel
theorem dX12_nextStale_34 : decode cX12_nextStale 34 = .ok (.iload_n 3, 1) := by decide +kernel
theorem dX12_nextStale_35 : decode cX12_nextStale 35 = .ok (.ifCond .eq 27, 3) := by decide +kernel
theorem dX12_nextStale_38 : decode cX12_nextStale 38 = .ok (.iload_n 1, 1) := by decide +kernel
theorem dX12_nextStale_39 : decode cX12_nextStale 39 = .ok (.iconst (-1), 1) := by decide +kernel
theorem dX12_nextStale_40 : decode cX12_nextStale 40 = .ok (.if_icmp .eq 18, 3) := by decide +kernel
theorem dX12_nextStale_43 : decode cX12_nextStale 43 = .ok (.aload_n 0, 1) := by decide +kernel
theorem dX12_nextStale_44 : decode cX12_nextStale 44 = .ok (.getfield 16, 3) := by decide +kernel
theorem dX12_nextStale_47 : decode cX12_nextStale 47 = .ok (.iload_n 2, 1) := by decide +kernel
theorem dX12_nextStale_48 : decode cX12_nextStale 48 = .ok (.iaload, 1) := by decide +kernel
theorem dX12_nextStale_49 : decode cX12_nextStale 49 = .ok (.aload_n 0, 1) := by decide +kernel
theorem dX12_nextStale_50 : decode cX12_nextStale 50 = .ok (.getfield 16, 3) := by decide +kernel
theorem dX12_nextStale_53 : decode cX12_nextStale 53 = .ok (.iload_n 1, 1) := by decide +kernel
theorem dX12_nextStale_54 : decode cX12_nextStale 54 = .ok (.iaload, 1) := by decide +kernel
theorem dX12_nextStale_55 : decode cX12_nextStale 55 = .ok (.if_icmp .le 7, 3) := by decide +kernel
theorem dX12_nextStale_58 : decode cX12_nextStale 58 = .ok (.iload_n 2, 1) := by decide +kernel
theorem dX12_nextStale_59 : decode cX12_nextStale 59 = .ok (.goto 4, 3) := by decide +kernel
theorem dX12_nextStale_62 : decode cX12_nextStale 62 = .ok (.iload_n 1, 1) := by decide +kernel
theorem dX12_nextStale_63 : decode cX12_nextStale 63 = .ok (.istore_n 1, 1) := by decide +kernel
theorem dX12_nextStale_64 : decode cX12_nextStale 64 = .ok (.iinc 2 1, 3) := by decide +kernel
theorem dX12_nextStale_67 : decode cX12_nextStale 67 = .ok (.goto (-63), 3) := by decide +kernel
theorem dX12_nextStale_70 : decode cX12_nextStale 70 = .ok (.iload_n 1, 1) := by decide +kernel
theorem dX12_nextStale_71 : decode cX12_nextStale 71 = .ok (.ireturn, 1) := by decide +kernel
theorem dX12_work_0 : decode cX12_work 0 = .ok (.aload_n 0, 1) := by decide +kernel
theorem dX12_work_1 : decode cX12_work 1 = .ok (.iload_n 1, 1) := by decide +kernel
theorem dX12_work_2 : decode cX12_work 2 = .ok (.iconst 1, 1) := by decide +kernel
theorem dX12_work_3 : decode cX12_work 3 = .ok (.iconst 4, 1) := by decide +kernel
theorem dX12_work_4 : decode cX12_work 4 = .ok (.invokestatic 184, 3) := by decide +kernel
theorem dX12_work_7 : decode cX12_work 7 = .ok (.ifCond .eq 7, 3) := by decide +kernel
theorem dX12_work_10 : decode cX12_work 10 = .ok (.iconst 0, 1) := by decide +kernel
theorem dX12_work_11 : decode cX12_work 11 = .ok (.goto 4, 3) := by decide +kernel
theorem dX12_work_14 : decode cX12_work 14 = .ok (.iconst 1, 1) := by decide +kernel
theorem dX12_work_15 : decode cX12_work 15 = .ok (.putfield 180, 3) := by decide +kernel
theorem dX12_work_18 : decode cX12_work 18 = .ok (.iconst 0, 1) := by decide +kernel
theorem dX12_work_19 : decode cX12_work 19 = .ok (.istore_n 2, 1) := by decide +kernel
theorem dX12_work_20 : decode cX12_work 20 = .ok (.aload_n 0, 1) := by decide +kernel
theorem dX12_work_21 : decode cX12_work 21 = .ok (.invokevirtual 375, 3) := by decide +kernel
theorem dX12_work_24 : decode cX12_work 24 = .ok (.istore_n 3, 1) := by decide +kernel
theorem dX12_work_25 : decode cX12_work 25 = .ok (.iload_n 3, 1) := by decide +kernel
theorem dX12_work_26 : decode cX12_work 26 = .ok (.iconst (-1), 1) := by decide +kernel
theorem dX12_work_27 : decode cX12_work 27 = .ok (.if_icmp .eq 31, 3) := by decide +kernel
theorem dX12_work_30 : decode cX12_work 30 = .ok (.iload_n 2, 1) := by decide +kernel
theorem dX12_work_31 : decode cX12_work 31 = .ok (.iload_n 1, 1) := by decide +kernel
theorem dX12_work_32 : decode cX12_work 32 = .ok (.if_icmp .ge 26, 3) := by decide +kernel
theorem dX12_work_35 : decode cX12_work 35 = .ok (.aload_n 0, 1) := by decide +kernel
theorem dX12_work_36 : decode cX12_work 36 = .ok (.getfield 180, 3) := by decide +kernel
theorem dX12_work_39 : decode cX12_work 39 = .ok (.ifCond .ne 19, 3) := by decide +kernel
theorem dX12_work_42 : decode cX12_work 42 = .ok (.aload_n 0, 1) := by decide +kernel
theorem dX12_work_43 : decode cX12_work 43 = .ok (.iload_n 3, 1) := by decide +kernel
theorem dX12_work_44 : decode cX12_work 44 = .ok (.invokevirtual 378, 3) := by decide +kernel
theorem dX12_work_47 : decode cX12_work 47 = .ok (.iinc 2 1, 3) := by decide +kernel
theorem dX12_work_50 : decode cX12_work 50 = .ok (.aload_n 0, 1) := by decide +kernel
theorem dX12_work_51 : decode cX12_work 51 = .ok (.invokevirtual 375, 3) := by decide +kernel
theorem dX12_work_54 : decode cX12_work 54 = .ok (.istore_n 3, 1) := by decide +kernel
theorem dX12_work_55 : decode cX12_work 55 = .ok (.goto (-30), 3) := by decide +kernel
theorem dX12_work_58 : decode cX12_work 58 = .ok (.iload_n 2, 1) := by decide +kernel
theorem dX12_work_59 : decode cX12_work 59 = .ok (.ireturn, 1) := by decide +kernel
theorem dX12_read_0 : decode cX12_read 0 = .ok (.aload_n 0, 1) := by decide +kernel
theorem dX12_read_1 : decode cX12_read 1 = .ok (.aload_n 0, 1) := by decide +kernel
theorem dX12_read_2 : decode cX12_read 2 = .ok (.iload_n 1, 1) := by decide +kernel
theorem dX12_read_3 : decode cX12_read 3 = .ok (.invokevirtual 381, 3) := by decide +kernel
theorem dX12_read_6 : decode cX12_read 6 = .ok (.ifCond .eq 7, 3) := by decide +kernel
theorem dX12_read_9 : decode cX12_read 9 = .ok (.iconst 0, 1) := by decide +kernel
theorem dX12_read_10 : decode cX12_read 10 = .ok (.goto 4, 3) := by decide +kernel
theorem dX12_read_13 : decode cX12_read 13 = .ok (.iconst 1, 1) := by decide +kernel
theorem dX12_read_14 : decode cX12_read 14 = .ok (.putfield 180, 3) := by decide +kernel
theorem dX12_read_17 : decode cX12_read 17 = .ok (.aload_n 0, 1) := by decide +kernel
theorem dX12_read_18 : decode cX12_read 18 = .ok (.getfield 180, 3) := by decide +kernel
theorem dX12_read_21 : decode cX12_read 21 = .ok (.ifCond .le 5, 3) := by decide +kernel
theorem dX12_read_24 : decode cX12_read 24 = .ok (.iconst 0, 1) := by decide +kernel
theorem dX12_read_25 : decode cX12_read 25 = .ok (.ireturn, 1) := by decide +kernel
theorem dX12_read_26 : decode cX12_read 26 = .ok (.aload_n 0, 1) := by decide +kernel
theorem dX12_read_27 : decode cX12_read 27 = .ok (.getfield 70, 3) := by decide +kernel
theorem dX12_read_30 : decode cX12_read 30 = .ok (.iload_n 1, 1) := by decide +kernel
theorem dX12_read_31 : decode cX12_read 31 = .ok (.baload, 1) := by decide +kernel
theorem dX12_read_32 : decode cX12_read 32 = .ok (.ifCond .eq 15, 3) := by decide +kernel
theorem dX12_read_35 : decode cX12_read 35 = .ok (.iload_n 2, 1) := by decide +kernel
theorem dX12_read_36 : decode cX12_read 36 = .ok (.ifCond .ne 16, 3) := by decide +kernel
theorem dX12_read_39 : decode cX12_read 39 = .ok (.aload_n 0, 1) := by decide +kernel
theorem dX12_read_40 : decode cX12_read 40 = .ok (.iload_n 1, 1) := by decide +kernel
theorem dX12_read_41 : decode cX12_read 41 = .ok (.invokevirtual 372, 3) := by decide +kernel
theorem dX12_read_44 : decode cX12_read 44 = .ok (.ifCond .eq 8, 3) := by decide +kernel
theorem dX12_read_47 : decode cX12_read 47 = .ok (.aload_n 0, 1) := by decide +kernel
theorem dX12_read_48 : decode cX12_read 48 = .ok (.iload_n 1, 1) := by decide +kernel
theorem dX12_read_49 : decode cX12_read 49 = .ok (.invokevirtual 378, 3) := by decide +kernel
theorem dX12_read_52 : decode cX12_read 52 = .ok (.aload_n 0, 1) := by decide +kernel
theorem dX12_read_53 : decode cX12_read 53 = .ok (.getfield 80, 3) := by decide +kernel
theorem dX12_read_56 : decode cX12_read 56 = .ok (.iload_n 1, 1) := by decide +kernel
theorem dX12_read_57 : decode cX12_read 57 = .ok (.iaload, 1) := by decide +kernel
theorem dX12_read_58 : decode cX12_read 58 = .ok (.ireturn, 1) := by decide +kernel
theorem dX12_isValue_0 : decode cX12_isValue 0 = .ok (.iload_n 0, 1) := by decide +kernel
theorem dX12_isValue_1 : decode cX12_isValue 1 = .ok (.ifCond .ne 9, 3) := by decide +kernel
theorem dX12_isValue_4 : decode cX12_isValue 4 = .ok (.sipush 999, 3) := by decide +kernel
theorem dX12_isValue_7 : decode cX12_isValue 7 = .ok (.goto 62, 3) := by decide +kernel
theorem dX12_isValue_10 : decode cX12_isValue 10 = .ok (.iload_n 0, 1) := by decide +kernel
theorem dX12_isValue_11 : decode cX12_isValue 11 = .ok (.iconst 1, 1) := by decide +kernel
theorem dX12_isValue_12 : decode cX12_isValue 12 = .ok (.if_icmp .eq 14, 3) := by decide +kernel
theorem dX12_isValue_15 : decode cX12_isValue 15 = .ok (.iload_n 0, 1) := by decide +kernel
theorem dX12_isValue_16 : decode cX12_isValue 16 = .ok (.iconst 2, 1) := by decide +kernel
theorem dX12_isValue_17 : decode cX12_isValue 17 = .ok (.if_icmp .eq 9, 3) := by decide +kernel
theorem dX12_isValue_20 : decode cX12_isValue 20 = .ok (.iload_n 0, 1) := by decide +kernel
theorem dX12_isValue_21 : decode cX12_isValue 21 = .ok (.bipush 12, 2) := by decide +kernel
theorem dX12_isValue_23 : decode cX12_isValue 23 = .ok (.if_icmp .ne 8, 3) := by decide +kernel
theorem dX12_isValue_26 : decode cX12_isValue 26 = .ok (.bipush 23, 2) := by decide +kernel
theorem dX12_isValue_28 : decode cX12_isValue 28 = .ok (.goto 41, 3) := by decide +kernel
theorem dX12_isValue_31 : decode cX12_isValue 31 = .ok (.iload_n 0, 1) := by decide +kernel
theorem dX12_isValue_32 : decode cX12_isValue 32 = .ok (.iconst 3, 1) := by decide +kernel
theorem dX12_isValue_33 : decode cX12_isValue 33 = .ok (.if_icmp .eq 9, 3) := by decide +kernel
theorem dX12_isValue_36 : decode cX12_isValue 36 = .ok (.iload_n 0, 1) := by decide +kernel
