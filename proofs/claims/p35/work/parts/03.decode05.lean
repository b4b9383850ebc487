theorem dL_code_68 : decode cL_code 68 = .ok (.bipush 6, 2) := by decide +kernel
theorem dL_code_70 : decode cL_code 70 = .ok (.if_icmp .ne 7, 3) := by decide +kernel
theorem dL_code_73 : decode cL_code 73 = .ok (.iconst 5, 1) := by decide +kernel
theorem dL_code_74 : decode cL_code 74 = .ok (.goto 4, 3) := by decide +kernel
theorem dL_code_77 : decode cL_code 77 = .ok (.iconst 3, 1) := by decide +kernel
theorem dL_code_78 : decode cL_code 78 = .ok (.iadd, 1) := by decide +kernel
theorem dL_code_79 : decode cL_code 79 = .ok (.goto 35, 3) := by decide +kernel
theorem dL_code_82 : decode cL_code 82 = .ok (.iload_n 1, 1) := by decide +kernel
theorem dL_code_83 : decode cL_code 83 = .ok (.iconst 1, 1) := by decide +kernel
theorem dL_code_84 : decode cL_code 84 = .ok (.if_icmp .ne 9, 3) := by decide +kernel
theorem dL_code_87 : decode cL_code 87 = .ok (.sipush 5000, 3) := by decide +kernel
theorem dL_code_90 : decode cL_code 90 = .ok (.goto 24, 3) := by decide +kernel
theorem dL_code_93 : decode cL_code 93 = .ok (.iload_n 1, 1) := by decide +kernel
theorem dL_code_94 : decode cL_code 94 = .ok (.iconst 2, 1) := by decide +kernel
theorem dL_code_95 : decode cL_code 95 = .ok (.if_icmp .ne 7, 3) := by decide +kernel
theorem dL_code_98 : decode cL_code 98 = .ok (.iload_n 3, 1) := by decide +kernel
theorem dL_code_99 : decode cL_code 99 = .ok (.goto 15, 3) := by decide +kernel
theorem dL_code_102 : decode cL_code 102 = .ok (.iload_n 1, 1) := by decide +kernel
theorem dL_code_103 : decode cL_code 103 = .ok (.iconst 3, 1) := by decide +kernel
theorem dL_code_104 : decode cL_code 104 = .ok (.if_icmp .ne 9, 3) := by decide +kernel
theorem dL_code_107 : decode cL_code 107 = .ok (.sipush 7000, 3) := by decide +kernel
theorem dL_code_110 : decode cL_code 110 = .ok (.goto 4, 3) := by decide +kernel
theorem dL_code_113 : decode cL_code 113 = .ok (.iconst (-1), 1) := by decide +kernel
theorem dL_code_114 : decode cL_code 114 = .ok (.ireturn, 1) := by decide +kernel
theorem dL_code_115 : decode cL_code 115 = .ok (.iload_n 2, 1) := by decide +kernel
theorem dL_code_116 : decode cL_code 116 = .ok (.bipush 8, 2) := by decide +kernel
theorem dL_code_118 : decode cL_code 118 = .ok (.if_icmp .eq 9, 3) := by decide +kernel
theorem dL_code_121 : decode cL_code 121 = .ok (.iload_n 2, 1) := by decide +kernel
theorem dL_code_122 : decode cL_code 122 = .ok (.bipush 9, 2) := by decide +kernel
theorem dL_code_124 : decode cL_code 124 = .ok (.if_icmp .ne 37, 3) := by decide +kernel
theorem dL_code_127 : decode cL_code 127 = .ok (.iload_n 1, 1) := by decide +kernel
theorem dL_code_128 : decode cL_code 128 = .ok (.ifCond .ne 11, 3) := by decide +kernel
theorem dL_code_131 : decode cL_code 131 = .ok (.sipush 1000, 3) := by decide +kernel
theorem dL_code_134 : decode cL_code 134 = .ok (.iload_n 2, 1) := by decide +kernel
theorem dL_code_135 : decode cL_code 135 = .ok (.imul, 1) := by decide +kernel
theorem dL_code_136 : decode cL_code 136 = .ok (.goto 24, 3) := by decide +kernel
theorem dL_code_139 : decode cL_code 139 = .ok (.iload_n 1, 1) := by decide +kernel
theorem dL_code_140 : decode cL_code 140 = .ok (.iconst 1, 1) := by decide +kernel
theorem dL_code_141 : decode cL_code 141 = .ok (.if_icmp .ne 7, 3) := by decide +kernel
theorem dL_code_144 : decode cL_code 144 = .ok (.iload_n 3, 1) := by decide +kernel
theorem dL_code_145 : decode cL_code 145 = .ok (.goto 15, 3) := by decide +kernel
theorem dL_code_148 : decode cL_code 148 = .ok (.iload_n 1, 1) := by decide +kernel
theorem dL_code_149 : decode cL_code 149 = .ok (.iconst 2, 1) := by decide +kernel
theorem dL_code_150 : decode cL_code 150 = .ok (.if_icmp .ne 9, 3) := by decide +kernel
theorem dL_code_153 : decode cL_code 153 = .ok (.sipush 7000, 3) := by decide +kernel
theorem dL_code_156 : decode cL_code 156 = .ok (.goto 4, 3) := by decide +kernel
theorem dL_code_159 : decode cL_code 159 = .ok (.iconst (-1), 1) := by decide +kernel
theorem dL_code_160 : decode cL_code 160 = .ok (.ireturn, 1) := by decide +kernel
theorem dL_code_161 : decode cL_code 161 = .ok (.iload_n 1, 1) := by decide +kernel
theorem dL_code_162 : decode cL_code 162 = .ok (.ifCond .le 7, 3) := by decide +kernel
theorem dL_code_165 : decode cL_code 165 = .ok (.iconst (-1), 1) := by decide +kernel
theorem dL_code_166 : decode cL_code 166 = .ok (.goto 53, 3) := by decide +kernel
theorem dL_code_169 : decode cL_code 169 = .ok (.iload_n 2, 1) := by decide +kernel
theorem dL_code_170 : decode cL_code 170 = .ok (.ifCond .ne 7, 3) := by decide +kernel
theorem dL_code_173 : decode cL_code 173 = .ok (.iload_n 3, 1) := by decide +kernel
theorem dL_code_174 : decode cL_code 174 = .ok (.goto 45, 3) := by decide +kernel
theorem dL_code_177 : decode cL_code 177 = .ok (.iload_n 2, 1) := by decide +kernel
theorem dL_code_178 : decode cL_code 178 = .ok (.iconst 1, 1) := by decide +kernel
theorem dL_code_179 : decode cL_code 179 = .ok (.if_icmp .ne 11, 3) := by decide +kernel
theorem dL_code_182 : decode cL_code 182 = .ok (.sipush 1000, 3) := by decide +kernel
theorem dL_code_185 : decode cL_code 185 = .ok (.iload_n 3, 1) := by decide +kernel
theorem dL_code_186 : decode cL_code 186 = .ok (.iadd, 1) := by decide +kernel
theorem dL_code_187 : decode cL_code 187 = .ok (.goto 32, 3) := by decide +kernel
theorem dL_code_190 : decode cL_code 190 = .ok (.iload_n 2, 1) := by decide +kernel
theorem dL_code_191 : decode cL_code 191 = .ok (.iconst 3, 1) := by decide +kernel
theorem dL_code_192 : decode cL_code 192 = .ok (.if_icmp .ne 11, 3) := by decide +kernel
theorem dL_code_195 : decode cL_code 195 = .ok (.sipush 11000, 3) := by decide +kernel
theorem dL_code_198 : decode cL_code 198 = .ok (.iload_n 3, 1) := by decide +kernel
theorem dL_code_199 : decode cL_code 199 = .ok (.iadd, 1) := by decide +kernel
theorem dL_code_200 : decode cL_code 200 = .ok (.goto 19, 3) := by decide +kernel
theorem dL_code_203 : decode cL_code 203 = .ok (.iload_n 2, 1) := by decide +kernel
theorem dL_code_204 : decode cL_code 204 = .ok (.iconst 4, 1) := by decide +kernel
theorem dL_code_205 : decode cL_code 205 = .ok (.if_icmp .ne 9, 3) := by decide +kernel
theorem dL_code_208 : decode cL_code 208 = .ok (.sipush 13000, 3) := by decide +kernel
theorem dL_code_211 : decode cL_code 211 = .ok (.goto 8, 3) := by decide +kernel
theorem dL_code_214 : decode cL_code 214 = .ok (.sipush 12000, 3) := by decide +kernel
theorem dL_code_217 : decode cL_code 217 = .ok (.iload_n 3, 1) := by decide +kernel
theorem dL_code_218 : decode cL_code 218 = .ok (.iadd, 1) := by decide +kernel
theorem dL_code_219 : decode cL_code 219 = .ok (.ireturn, 1) := by decide +kernel
theorem dL_drafts_0 : decode cL_drafts 0 = .ok (.iconst 0, 1) := by decide +kernel
theorem dL_drafts_1 : decode cL_drafts 1 = .ok (.istore_n 3, 1) := by decide +kernel
theorem dL_drafts_2 : decode cL_drafts 2 = .ok (.aload_n 0, 1) := by decide +kernel
theorem dL_drafts_3 : decode cL_drafts 3 = .ok (.invokevirtual 109, 3) := by decide +kernel
theorem dL_drafts_6 : decode cL_drafts 6 = .ok (.ifCond .lt 7, 3) := by decide +kernel
theorem dL_drafts_9 : decode cL_drafts 9 = .ok (.iconst 1, 1) := by decide +kernel
theorem dL_drafts_10 : decode cL_drafts 10 = .ok (.goto 4, 3) := by decide +kernel
theorem dL_drafts_13 : decode cL_drafts 13 = .ok (.iconst 0, 1) := by decide +kernel
theorem dL_drafts_14 : decode cL_drafts 14 = .ok (.istore 4, 2) := by decide +kernel
theorem dL_drafts_16 : decode cL_drafts 16 = .ok (.iconst 0, 1) := by decide +kernel
theorem dL_drafts_17 : decode cL_drafts 17 = .ok (.istore 5, 2) := by decide +kernel
theorem dL_drafts_19 : decode cL_drafts 19 = .ok (.iload 5, 2) := by decide +kernel
theorem dL_drafts_21 : decode cL_drafts 21 = .ok (.lload_n 1, 1) := by decide +kernel
theorem dL_drafts_22 : decode cL_drafts 22 = .ok (.invokestatic 7, 3) := by decide +kernel
theorem dL_drafts_25 : decode cL_drafts 25 = .ok (.if_icmp .ge 85, 3) := by decide +kernel
theorem dL_drafts_28 : decode cL_drafts 28 = .ok (.iconst 0, 1) := by decide +kernel
theorem dL_drafts_29 : decode cL_drafts 29 = .ok (.istore 6, 2) := by decide +kernel
theorem dL_drafts_31 : decode cL_drafts 31 = .ok (.lload_n 1, 1) := by decide +kernel
theorem dL_drafts_32 : decode cL_drafts 32 = .ok (.iload 5, 2) := by decide +kernel
theorem dL_drafts_34 : decode cL_drafts 34 = .ok (.invokestatic 19, 3) := by decide +kernel
theorem dL_drafts_37 : decode cL_drafts 37 = .ok (.iload 6, 2) := by decide +kernel
theorem dL_drafts_39 : decode cL_drafts 39 = .ok (.invokestatic 113, 3) := by decide +kernel
theorem dL_drafts_42 : decode cL_drafts 42 = .ok (.ifCond .lt 62, 3) := by decide +kernel
theorem dL_drafts_45 : decode cL_drafts 45 = .ok (.iinc 3 1, 3) := by decide +kernel
theorem dL_drafts_48 : decode cL_drafts 48 = .ok (.iload 4, 2) := by decide +kernel
theorem dL_drafts_50 : decode cL_drafts 50 = .ok (.ifCond .eq 45, 3) := by decide +kernel
theorem dL_drafts_53 : decode cL_drafts 53 = .ok (.aload_n 0, 1) := by decide +kernel
theorem dL_drafts_54 : decode cL_drafts 54 = .ok (.lload_n 1, 1) := by decide +kernel
theorem dL_drafts_55 : decode cL_drafts 55 = .ok (.iload 5, 2) := by decide +kernel
theorem dL_drafts_57 : decode cL_drafts 57 = .ok (.invokestatic 19, 3) := by decide +kernel
theorem dL_drafts_60 : decode cL_drafts 60 = .ok (.iload 6, 2) := by decide +kernel
theorem dL_drafts_62 : decode cL_drafts 62 = .ok (.invokestatic 113, 3) := by decide +kernel
theorem dL_drafts_65 : decode cL_drafts 65 = .ok (.sipush 1000, 3) := by decide +kernel
theorem dL_drafts_68 : decode cL_drafts 68 = .ok (.idiv, 1) := by decide +kernel
theorem dL_drafts_69 : decode cL_drafts 69 = .ok (.lload_n 1, 1) := by decide +kernel
theorem dL_drafts_70 : decode cL_drafts 70 = .ok (.iload 5, 2) := by decide +kernel
theorem dL_drafts_72 : decode cL_drafts 72 = .ok (.invokestatic 19, 3) := by decide +kernel
theorem dL_drafts_75 : decode cL_drafts 75 = .ok (.iload 6, 2) := by decide +kernel
theorem dL_drafts_77 : decode cL_drafts 77 = .ok (.invokestatic 113, 3) := by decide +kernel
theorem dL_drafts_80 : decode cL_drafts 80 = .ok (.sipush 1000, 3) := by decide +kernel
theorem dL_drafts_83 : decode cL_drafts 83 = .ok (.irem, 1) := by decide +kernel
theorem dL_drafts_84 : decode cL_drafts 84 = .ok (.invokevirtual 116, 3) := by decide +kernel
theorem dL_drafts_87 : decode cL_drafts 87 = .ok (.iload_n 3, 1) := by decide +kernel
theorem dL_drafts_88 : decode cL_drafts 88 = .ok (.if_icmp .ne 7, 3) := by decide +kernel
theorem dL_drafts_91 : decode cL_drafts 91 = .ok (.iconst 1, 1) := by decide +kernel
theorem dL_drafts_92 : decode cL_drafts 92 = .ok (.goto 4, 3) := by decide +kernel
theorem dL_drafts_95 : decode cL_drafts 95 = .ok (.iconst 0, 1) := by decide +kernel
theorem dL_drafts_96 : decode cL_drafts 96 = .ok (.istore 4, 2) := by decide +kernel
theorem dL_drafts_98 : decode cL_drafts 98 = .ok (.iinc 6 1, 3) := by decide +kernel
theorem dL_drafts_101 : decode cL_drafts 101 = .ok (.goto (-70), 3) := by decide +kernel
theorem dL_drafts_104 : decode cL_drafts 104 = .ok (.iinc 5 1, 3) := by decide +kernel
theorem dL_drafts_107 : decode cL_drafts 107 = .ok (.goto (-88), 3) := by decide +kernel
theorem dL_drafts_110 : decode cL_drafts 110 = .ok (.iload 4, 2) := by decide +kernel
theorem dL_drafts_112 : decode cL_drafts 112 = .ok (.ireturn, 1) := by decide +kernel
theorem dL_isText_0 : decode cL_isText 0 = .ok (.lload_n 0, 1) := by decide +kernel
theorem dL_isText_1 : decode cL_isText 1 = .ok (.invokestatic 7, 3) := by decide +kernel
theorem dL_isText_4 : decode cL_isText 4 = .ok (.ifCond .le 16, 3) := by decide +kernel
theorem dL_isText_7 : decode cL_isText 7 = .ok (.lload_n 0, 1) := by decide +kernel
theorem dL_isText_8 : decode cL_isText 8 = .ok (.invokestatic 7, 3) := by decide +kernel
theorem dL_isText_11 : decode cL_isText 11 = .ok (.bipush 6, 2) := by decide +kernel
theorem dL_isText_13 : decode cL_isText 13 = .ok (.if_icmp .ge 7, 3) := by decide +kernel
theorem dL_isText_16 : decode cL_isText 16 = .ok (.iconst 1, 1) := by decide +kernel
theorem dL_isText_17 : decode cL_isText 17 = .ok (.goto 4, 3) := by decide +kernel
theorem dL_isText_20 : decode cL_isText 20 = .ok (.iconst 0, 1) := by decide +kernel
theorem dL_isText_21 : decode cL_isText 21 = .ok (.istore_n 2, 1) := by decide +kernel
theorem dL_isText_22 : decode cL_isText 22 = .ok (.iconst 0, 1) := by decide +kernel
theorem dL_isText_23 : decode cL_isText 23 = .ok (.istore_n 3, 1) := by decide +kernel
theorem dL_isText_24 : decode cL_isText 24 = .ok (.iload_n 3, 1) := by decide +kernel
theorem dL_isText_25 : decode cL_isText 25 = .ok (.lload_n 0, 1) := by decide +kernel
theorem dL_isText_26 : decode cL_isText 26 = .ok (.invokestatic 7, 3) := by decide +kernel
theorem dL_isText_29 : decode cL_isText 29 = .ok (.if_icmp .ge 40, 3) := by decide +kernel
theorem dL_isText_32 : decode cL_isText 32 = .ok (.lload_n 0, 1) := by decide +kernel
theorem dL_isText_33 : decode cL_isText 33 = .ok (.invokestatic 7, 3) := by decide +kernel
theorem dL_isText_36 : decode cL_isText 36 = .ok (.iconst 1, 1) := by decide +kernel
theorem dL_isText_37 : decode cL_isText 37 = .ok (.if_icmp .le 32, 3) := by decide +kernel
theorem dL_isText_40 : decode cL_isText 40 = .ok (.iload_n 2, 1) := by decide +kernel
theorem dL_isText_41 : decode cL_isText 41 = .ok (.ifCond .eq 20, 3) := by decide +kernel
theorem dL_isText_44 : decode cL_isText 44 = .ok (.lload_n 0, 1) := by decide +kernel
theorem dL_isText_45 : decode cL_isText 45 = .ok (.iload_n 3, 1) := by decide +kernel
theorem dL_isText_46 : decode cL_isText 46 = .ok (.invokestatic 19, 3) := by decide +kernel
theorem dL_isText_49 : decode cL_isText 49 = .ok (.bipush 16, 2) := by decide +kernel
theorem dL_isText_51 : decode cL_isText 51 = .ok (.irem, 1) := by decide +kernel
theorem dL_isText_52 : decode cL_isText 52 = .ok (.bipush 10, 2) := by decide +kernel
theorem dL_isText_54 : decode cL_isText 54 = .ok (.if_icmp .eq 7, 3) := by decide +kernel
theorem dL_isText_57 : decode cL_isText 57 = .ok (.iconst 1, 1) := by decide +kernel
theorem dL_isText_58 : decode cL_isText 58 = .ok (.goto 4, 3) := by decide +kernel
theorem dL_isText_61 : decode cL_isText 61 = .ok (.iconst 0, 1) := by decide +kernel
theorem dL_isText_62 : decode cL_isText 62 = .ok (.istore_n 2, 1) := by decide +kernel
theorem dL_isText_63 : decode cL_isText 63 = .ok (.iinc 3 1, 3) := by decide +kernel
theorem dL_isText_66 : decode cL_isText 66 = .ok (.goto (-42), 3) := by decide +kernel
theorem dL_isText_69 : decode cL_isText 69 = .ok (.iload_n 2, 1) := by decide +kernel
theorem dL_isText_70 : decode cL_isText 70 = .ok (.ireturn, 1) := by decide +kernel
theorem dL_sections_0 : decode cL_sections 0 = .ok (.iconst 1, 1) := by decide +kernel
theorem dL_sections_1 : decode cL_sections 1 = .ok (.istore_n 2, 1) := by decide +kernel
theorem dL_sections_2 : decode cL_sections 2 = .ok (.iconst 0, 1) := by decide +kernel
theorem dL_sections_3 : decode cL_sections 3 = .ok (.istore_n 3, 1) := by decide +kernel
theorem dL_sections_4 : decode cL_sections 4 = .ok (.iload_n 3, 1) := by decide +kernel
theorem dL_sections_5 : decode cL_sections 5 = .ok (.lload_n 0, 1) := by decide +kernel
theorem dL_sections_6 : decode cL_sections 6 = .ok (.invokestatic 7, 3) := by decide +kernel
theorem dL_sections_9 : decode cL_sections 9 = .ok (.if_icmp .ge 29, 3) := by decide +kernel
theorem dL_sections_12 : decode cL_sections 12 = .ok (.iload_n 2, 1) := by decide +kernel
theorem dL_sections_13 : decode cL_sections 13 = .ok (.lload_n 0, 1) := by decide +kernel
theorem dL_sections_14 : decode cL_sections 14 = .ok (.iload_n 3, 1) := by decide +kernel
theorem dL_sections_15 : decode cL_sections 15 = .ok (.invokestatic 19, 3) := by decide +kernel
theorem dL_sections_18 : decode cL_sections 18 = .ok (.bipush 16, 2) := by decide +kernel
theorem dL_sections_20 : decode cL_sections 20 = .ok (.irem, 1) := by decide +kernel
theorem dL_sections_21 : decode cL_sections 21 = .ok (.iconst 4, 1) := by decide +kernel
theorem dL_sections_22 : decode cL_sections 22 = .ok (.if_icmp .ne 7, 3) := by decide +kernel
theorem dL_sections_25 : decode cL_sections 25 = .ok (.iconst 1, 1) := by decide +kernel
theorem dL_sections_26 : decode cL_sections 26 = .ok (.goto 4, 3) := by decide +kernel
theorem dL_sections_29 : decode cL_sections 29 = .ok (.iconst 0, 1) := by decide +kernel
theorem dL_sections_30 : decode cL_sections 30 = .ok (.iadd, 1) := by decide +kernel
theorem dL_sections_31 : decode cL_sections 31 = .ok (.istore_n 2, 1) := by decide +kernel
theorem dL_sections_32 : decode cL_sections 32 = .ok (.iinc 3 1, 3) := by decide +kernel
theorem dL_sections_35 : decode cL_sections 35 = .ok (.goto (-31), 3) := by decide +kernel
theorem dL_sections_38 : decode cL_sections 38 = .ok (.iload_n 2, 1) := by decide +kernel
theorem dL_sections_39 : decode cL_sections 39 = .ok (.ireturn, 1) := by decide +kernel
theorem dL_section_0 : decode cL_section 0 = .ok (.lconst 1, 1) := by decide +kernel
theorem dL_section_1 : decode cL_section 1 = .ok (.lstore_n 3, 1) := by decide +kernel
theorem dL_section_2 : decode cL_section 2 = .ok (.iconst 0, 1) := by decide +kernel
theorem dL_section_3 : decode cL_section 3 = .ok (.istore 5, 2) := by decide +kernel
theorem dL_section_5 : decode cL_section 5 = .ok (.iconst 0, 1) := by decide +kernel
theorem dL_section_6 : decode cL_section 6 = .ok (.istore 6, 2) := by decide +kernel
theorem dL_section_8 : decode cL_section 8 = .ok (.iload 6, 2) := by decide +kernel
theorem dL_section_10 : decode cL_section 10 = .ok (.lload_n 0, 1) := by decide +kernel
theorem dL_section_11 : decode cL_section 11 = .ok (.invokestatic 7, 3) := by decide +kernel
theorem dL_section_14 : decode cL_section 14 = .ok (.if_icmp .ge 55, 3) := by decide +kernel
theorem dL_section_17 : decode cL_section 17 = .ok (.iload 5, 2) := by decide +kernel
theorem dL_section_19 : decode cL_section 19 = .ok (.lload_n 0, 1) := by decide +kernel
theorem dL_section_20 : decode cL_section 20 = .ok (.iload 6, 2) := by decide +kernel
theorem dL_section_22 : decode cL_section 22 = .ok (.invokestatic 19, 3) := by decide +kernel
theorem dL_section_25 : decode cL_section 25 = .ok (.bipush 16, 2) := by decide +kernel
theorem dL_section_27 : decode cL_section 27 = .ok (.irem, 1) := by decide +kernel
theorem dL_section_28 : decode cL_section 28 = .ok (.iconst 4, 1) := by decide +kernel
theorem dL_section_29 : decode cL_section 29 = .ok (.if_icmp .ne 7, 3) := by decide +kernel
theorem dL_section_32 : decode cL_section 32 = .ok (.iconst 1, 1) := by decide +kernel
theorem dL_section_33 : decode cL_section 33 = .ok (.goto 4, 3) := by decide +kernel
theorem dL_section_36 : decode cL_section 36 = .ok (.iconst 0, 1) := by decide +kernel
theorem dL_section_37 : decode cL_section 37 = .ok (.iadd, 1) := by decide +kernel
theorem dL_section_38 : decode cL_section 38 = .ok (.istore 5, 2) := by decide +kernel
theorem dL_section_40 : decode cL_section 40 = .ok (.iload 5, 2) := by decide +kernel
theorem dL_section_42 : decode cL_section 42 = .ok (.iload_n 2, 1) := by decide +kernel
theorem dL_section_43 : decode cL_section 43 = .ok (.if_icmp .ne 18, 3) := by decide +kernel
theorem dL_section_46 : decode cL_section 46 = .ok (.lload_n 3, 1) := by decide +kernel
theorem dL_section_47 : decode cL_section 47 = .ok (.bipush 10, 2) := by decide +kernel
theorem dL_section_49 : decode cL_section 49 = .ok (.lshl, 1) := by decide +kernel
theorem dL_section_50 : decode cL_section 50 = .ok (.lload_n 0, 1) := by decide +kernel
theorem dL_section_51 : decode cL_section 51 = .ok (.iload 6, 2) := by decide +kernel
theorem dL_section_53 : decode cL_section 53 = .ok (.invokestatic 19, 3) := by decide +kernel
theorem dL_section_56 : decode cL_section 56 = .ok (.i2l, 1) := by decide +kernel
theorem dL_section_57 : decode cL_section 57 = .ok (.lor, 1) := by decide +kernel
theorem dL_section_58 : decode cL_section 58 = .ok (.goto 4, 3) := by decide +kernel
theorem dL_section_61 : decode cL_section 61 = .ok (.lload_n 3, 1) := by decide +kernel
theorem dL_section_62 : decode cL_section 62 = .ok (.lstore_n 3, 1) := by decide +kernel
theorem dL_section_63 : decode cL_section 63 = .ok (.iinc 6 1, 3) := by decide +kernel
theorem dL_section_66 : decode cL_section 66 = .ok (.goto (-58), 3) := by decide +kernel
theorem dL_section_69 : decode cL_section 69 = .ok (.lload_n 3, 1) := by decide +kernel
theorem dL_section_70 : decode cL_section 70 = .ok (.lreturn, 1) := by decide +kernel
theorem dL_behind_0 : decode cL_behind 0 = .ok (.lload_n 0, 1) := by decide +kernel
theorem dL_behind_1 : decode cL_behind 1 = .ok (.lstore 4, 2) := by decide +kernel
theorem dL_behind_3 : decode cL_behind 3 = .ok (.iconst 0, 1) := by decide +kernel
theorem dL_behind_4 : decode cL_behind 4 = .ok (.istore 6, 2) := by decide +kernel
theorem dL_behind_6 : decode cL_behind 6 = .ok (.iload 6, 2) := by decide +kernel
theorem dL_behind_8 : decode cL_behind 8 = .ok (.lload_n 2, 1) := by decide +kernel
theorem dL_behind_9 : decode cL_behind 9 = .ok (.invokestatic 7, 3) := by decide +kernel
theorem dL_behind_12 : decode cL_behind 12 = .ok (.if_icmp .ge 34, 3) := by decide +kernel
theorem dL_behind_15 : decode cL_behind 15 = .ok (.lload 4, 2) := by decide +kernel
theorem dL_behind_17 : decode cL_behind 17 = .ok (.invokestatic 7, 3) := by decide +kernel
theorem dL_behind_20 : decode cL_behind 20 = .ok (.bipush 6, 2) := by decide +kernel
theorem dL_behind_22 : decode cL_behind 22 = .ok (.if_icmp .ge 24, 3) := by decide +kernel
theorem dL_behind_25 : decode cL_behind 25 = .ok (.lload 4, 2) := by decide +kernel
theorem dL_behind_27 : decode cL_behind 27 = .ok (.bipush 10, 2) := by decide +kernel
theorem dL_behind_29 : decode cL_behind 29 = .ok (.lshl, 1) := by decide +kernel
theorem dL_behind_30 : decode cL_behind 30 = .ok (.lload_n 2, 1) := by decide +kernel
theorem dL_behind_31 : decode cL_behind 31 = .ok (.iload 6, 2) := by decide +kernel
theorem dL_behind_33 : decode cL_behind 33 = .ok (.invokestatic 19, 3) := by decide +kernel
theorem dL_behind_36 : decode cL_behind 36 = .ok (.i2l, 1) := by decide +kernel
theorem dL_behind_37 : decode cL_behind 37 = .ok (.lor, 1) := by decide +kernel
theorem dL_behind_38 : decode cL_behind 38 = .ok (.lstore 4, 2) := by decide +kernel
theorem dL_behind_40 : decode cL_behind 40 = .ok (.iinc 6 1, 3) := by decide +kernel
theorem dL_behind_43 : decode cL_behind 43 = .ok (.goto (-37), 3) := by decide +kernel
theorem dL_behind_46 : decode cL_behind 46 = .ok (.lload 4, 2) := by decide +kernel
theorem dL_behind_48 : decode cL_behind 48 = .ok (.lreturn, 1) := by decide +kernel
theorem dL_with_0 : decode cL_with 0 = .ok (.lconst 1, 1) := by decide +kernel
theorem dL_with_1 : decode cL_with 1 = .ok (.lstore 5, 2) := by decide +kernel
theorem dL_with_3 : decode cL_with 3 = .ok (.iconst 0, 1) := by decide +kernel
theorem dL_with_4 : decode cL_with 4 = .ok (.istore 7, 2) := by decide +kernel
theorem dL_with_6 : decode cL_with 6 = .ok (.iload 7, 2) := by decide +kernel
theorem dL_with_8 : decode cL_with 8 = .ok (.lload_n 0, 1) := by decide +kernel
theorem dL_with_9 : decode cL_with 9 = .ok (.invokestatic 119, 3) := by decide +kernel
theorem dL_with_12 : decode cL_with 12 = .ok (.if_icmp .ge 32, 3) := by decide +kernel
theorem dL_with_15 : decode cL_with 15 = .ok (.lload 5, 2) := by decide +kernel
theorem dL_with_17 : decode cL_with 17 = .ok (.iload 7, 2) := by decide +kernel
theorem dL_with_19 : decode cL_with 19 = .ok (.iload_n 2, 1) := by decide +kernel
theorem dL_with_20 : decode cL_with 20 = .ok (.if_icmp .ne 7, 3) := by decide +kernel
theorem dL_with_23 : decode cL_with 23 = .ok (.lload_n 3, 1) := by decide +kernel
theorem dL_with_24 : decode cL_with 24 = .ok (.goto 9, 3) := by decide +kernel
theorem dL_with_27 : decode cL_with 27 = .ok (.lload_n 0, 1) := by decide +kernel
theorem dL_with_28 : decode cL_with 28 = .ok (.iload 7, 2) := by decide +kernel
theorem dL_with_30 : decode cL_with 30 = .ok (.invokestatic 122, 3) := by decide +kernel
theorem dL_with_33 : decode cL_with 33 = .ok (.invokestatic 126, 3) := by decide +kernel
theorem dL_with_36 : decode cL_with 36 = .ok (.lstore 5, 2) := by decide +kernel
theorem dL_with_38 : decode cL_with 38 = .ok (.iinc 7 1, 3) := by decide +kernel
theorem dL_with_41 : decode cL_with 41 = .ok (.goto (-35), 3) := by decide +kernel
theorem dL_with_44 : decode cL_with 44 = .ok (.lload 5, 2) := by decide +kernel
theorem dL_with_46 : decode cL_with 46 = .ok (.lreturn, 1) := by decide +kernel
theorem dL_merged_0 : decode cL_merged 0 = .ok (.lconst 1, 1) := by decide +kernel
theorem dL_merged_1 : decode cL_merged 1 = .ok (.lstore 6, 2) := by decide +kernel
theorem dL_merged_3 : decode cL_merged 3 = .ok (.lload_n 0, 1) := by decide +kernel
theorem dL_merged_4 : decode cL_merged 4 = .ok (.invokestatic 119, 3) := by decide +kernel
theorem dL_merged_7 : decode cL_merged 7 = .ok (.lload_n 2, 1) := by decide +kernel
theorem dL_merged_8 : decode cL_merged 8 = .ok (.invokestatic 119, 3) := by decide +kernel
theorem dL_merged_11 : decode cL_merged 11 = .ok (.if_icmp .ne 15, 3) := by decide +kernel
theorem dL_merged_14 : decode cL_merged 14 = .ok (.lload_n 0, 1) := by decide +kernel
theorem dL_merged_15 : decode cL_merged 15 = .ok (.invokestatic 119, 3) := by decide +kernel
theorem dL_merged_18 : decode cL_merged 18 = .ok (.lload 4, 2) := by decide +kernel
theorem dL_merged_20 : decode cL_merged 20 = .ok (.invokestatic 119, 3) := by decide +kernel
theorem dL_merged_23 : decode cL_merged 23 = .ok (.if_icmp .eq 5, 3) := by decide +kernel
theorem dL_merged_26 : decode cL_merged 26 = .ok (.lconst 0, 1) := by decide +kernel
theorem dL_merged_27 : decode cL_merged 27 = .ok (.lreturn, 1) := by decide +kernel
theorem dL_merged_28 : decode cL_merged 28 = .ok (.iconst 0, 1) := by decide +kernel
theorem dL_merged_29 : decode cL_merged 29 = .ok (.istore 8, 2) := by decide +kernel
theorem dL_merged_31 : decode cL_merged 31 = .ok (.iload 8, 2) := by decide +kernel
theorem dL_merged_33 : decode cL_merged 33 = .ok (.lload_n 2, 1) := by decide +kernel
theorem dL_merged_34 : decode cL_merged 34 = .ok (.invokestatic 119, 3) := by decide +kernel
theorem dL_merged_37 : decode cL_merged 37 = .ok (.if_icmp .ge 82, 3) := by decide +kernel
theorem dL_merged_40 : decode cL_merged 40 = .ok (.lload_n 0, 1) := by decide +kernel
theorem dL_merged_41 : decode cL_merged 41 = .ok (.iload 8, 2) := by decide +kernel
theorem dL_merged_43 : decode cL_merged 43 = .ok (.invokestatic 122, 3) := by decide +kernel
theorem dL_merged_46 : decode cL_merged 46 = .ok (.lstore 9, 2) := by decide +kernel
theorem dL_merged_48 : decode cL_merged 48 = .ok (.lload_n 2, 1) := by decide +kernel
theorem dL_merged_49 : decode cL_merged 49 = .ok (.iload 8, 2) := by decide +kernel
theorem dL_merged_51 : decode cL_merged 51 = .ok (.invokestatic 122, 3) := by decide +kernel
theorem dL_merged_54 : decode cL_merged 54 = .ok (.lstore 11, 2) := by decide +kernel
theorem dL_merged_56 : decode cL_merged 56 = .ok (.lload 4, 2) := by decide +kernel
theorem dL_merged_58 : decode cL_merged 58 = .ok (.iload 8, 2) := by decide +kernel
theorem dL_merged_60 : decode cL_merged 60 = .ok (.invokestatic 122, 3) := by decide +kernel
theorem dL_merged_63 : decode cL_merged 63 = .ok (.lstore 13, 2) := by decide +kernel
theorem dL_merged_65 : decode cL_merged 65 = .ok (.lload 9, 2) := by decide +kernel
theorem dL_merged_67 : decode cL_merged 67 = .ok (.lload 11, 2) := by decide +kernel
theorem dL_merged_69 : decode cL_merged 69 = .ok (.lcmp, 1) := by decide +kernel
theorem dL_merged_70 : decode cL_merged 70 = .ok (.ifCond .eq 21, 3) := by decide +kernel
theorem dL_merged_73 : decode cL_merged 73 = .ok (.lload 13, 2) := by decide +kernel
theorem dL_merged_75 : decode cL_merged 75 = .ok (.lload 11, 2) := by decide +kernel
theorem dL_merged_77 : decode cL_merged 77 = .ok (.lcmp, 1) := by decide +kernel
theorem dL_merged_78 : decode cL_merged 78 = .ok (.ifCond .eq 13, 3) := by decide +kernel
theorem dL_merged_81 : decode cL_merged 81 = .ok (.lload 13, 2) := by decide +kernel
theorem dL_merged_83 : decode cL_merged 83 = .ok (.lload 9, 2) := by decide +kernel
theorem dL_merged_85 : decode cL_merged 85 = .ok (.lcmp, 1) := by decide +kernel
theorem dL_merged_86 : decode cL_merged 86 = .ok (.ifCond .eq 5, 3) := by decide +kernel
theorem dL_merged_89 : decode cL_merged 89 = .ok (.lconst 0, 1) := by decide +kernel
theorem dL_merged_90 : decode cL_merged 90 = .ok (.lreturn, 1) := by decide +kernel
theorem dL_merged_91 : decode cL_merged 91 = .ok (.lload 6, 2) := by decide +kernel
theorem dL_merged_93 : decode cL_merged 93 = .ok (.lload 9, 2) := by decide +kernel
theorem dL_merged_95 : decode cL_merged 95 = .ok (.lload 11, 2) := by decide +kernel
theorem dL_merged_97 : decode cL_merged 97 = .ok (.lcmp, 1) := by decide +kernel
theorem dL_merged_98 : decode cL_merged 98 = .ok (.ifCond .ne 8, 3) := by decide +kernel
theorem dL_merged_101 : decode cL_merged 101 = .ok (.lload 13, 2) := by decide +kernel
theorem dL_merged_103 : decode cL_merged 103 = .ok (.goto 5, 3) := by decide +kernel
theorem dL_merged_106 : decode cL_merged 106 = .ok (.lload 9, 2) := by decide +kernel
theorem dL_merged_108 : decode cL_merged 108 = .ok (.invokestatic 126, 3) := by decide +kernel
theorem dL_merged_111 : decode cL_merged 111 = .ok (.lstore 6, 2) := by decide +kernel
theorem dL_merged_113 : decode cL_merged 113 = .ok (.iinc 8 1, 3) := by decide +kernel
theorem dL_merged_116 : decode cL_merged 116 = .ok (.goto (-85), 3) := by decide +kernel
theorem dL_merged_119 : decode cL_merged 119 = .ok (.lload 6, 2) := by decide +kernel
theorem dL_merged_121 : decode cL_merged 121 = .ok (.lreturn, 1) := by decide +kernel
theorem dL_undone_0 : decode cL_undone 0 = .ok (.lconst 1, 1) := by decide +kernel
theorem dL_undone_1 : decode cL_undone 1 = .ok (.lstore 6, 2) := by decide +kernel
theorem dL_undone_3 : decode cL_undone 3 = .ok (.lload_n 0, 1) := by decide +kernel
theorem dL_undone_4 : decode cL_undone 4 = .ok (.invokestatic 119, 3) := by decide +kernel
theorem dL_undone_7 : decode cL_undone 7 = .ok (.lload_n 2, 1) := by decide +kernel
theorem dL_undone_8 : decode cL_undone 8 = .ok (.invokestatic 119, 3) := by decide +kernel
theorem dL_undone_11 : decode cL_undone 11 = .ok (.if_icmp .ne 15, 3) := by decide +kernel
theorem dL_undone_14 : decode cL_undone 14 = .ok (.lload_n 0, 1) := by decide +kernel
theorem dL_undone_15 : decode cL_undone 15 = .ok (.invokestatic 119, 3) := by decide +kernel
theorem dL_undone_18 : decode cL_undone 18 = .ok (.lload 4, 2) := by decide +kernel
theorem dL_undone_20 : decode cL_undone 20 = .ok (.invokestatic 119, 3) := by decide +kernel
theorem dL_undone_23 : decode cL_undone 23 = .ok (.if_icmp .eq 5, 3) := by decide +kernel
theorem dL_undone_26 : decode cL_undone 26 = .ok (.lconst 0, 1) := by decide +kernel
theorem dL_undone_27 : decode cL_undone 27 = .ok (.lreturn, 1) := by decide +kernel
theorem dL_undone_28 : decode cL_undone 28 = .ok (.iconst 0, 1) := by decide +kernel
theorem dL_undone_29 : decode cL_undone 29 = .ok (.istore 8, 2) := by decide +kernel
theorem dL_undone_31 : decode cL_undone 31 = .ok (.iload 8, 2) := by decide +kernel
theorem dL_undone_33 : decode cL_undone 33 = .ok (.lload_n 2, 1) := by decide +kernel
theorem dL_undone_34 : decode cL_undone 34 = .ok (.invokestatic 119, 3) := by decide +kernel
theorem dL_undone_37 : decode cL_undone 37 = .ok (.if_icmp .ge 79, 3) := by decide +kernel
theorem dL_undone_40 : decode cL_undone 40 = .ok (.lload_n 0, 1) := by decide +kernel
theorem dL_undone_41 : decode cL_undone 41 = .ok (.iload 8, 2) := by decide +kernel
theorem dL_undone_43 : decode cL_undone 43 = .ok (.invokestatic 122, 3) := by decide +kernel
theorem dL_undone_46 : decode cL_undone 46 = .ok (.lload_n 2, 1) := by decide +kernel
theorem dL_undone_47 : decode cL_undone 47 = .ok (.iload 8, 2) := by decide +kernel
theorem dL_undone_49 : decode cL_undone 49 = .ok (.invokestatic 122, 3) := by decide +kernel
theorem dL_undone_52 : decode cL_undone 52 = .ok (.lcmp, 1) := by decide +kernel
theorem dL_undone_53 : decode cL_undone 53 = .ok (.ifCond .eq 7, 3) := by decide +kernel
theorem dL_undone_56 : decode cL_undone 56 = .ok (.iconst 1, 1) := by decide +kernel
theorem dL_undone_57 : decode cL_undone 57 = .ok (.goto 4, 3) := by decide +kernel
theorem dL_undone_60 : decode cL_undone 60 = .ok (.iconst 0, 1) := by decide +kernel
theorem dL_undone_61 : decode cL_undone 61 = .ok (.istore 9, 2) := by decide +kernel
theorem dL_undone_63 : decode cL_undone 63 = .ok (.iload 9, 2) := by decide +kernel
theorem dL_undone_65 : decode cL_undone 65 = .ok (.ifCond .eq 22, 3) := by decide +kernel
theorem dL_undone_68 : decode cL_undone 68 = .ok (.lload 4, 2) := by decide +kernel
theorem dL_undone_70 : decode cL_undone 70 = .ok (.iload 8, 2) := by decide +kernel
theorem dL_undone_72 : decode cL_undone 72 = .ok (.invokestatic 122, 3) := by decide +kernel
theorem dL_undone_75 : decode cL_undone 75 = .ok (.lload_n 2, 1) := by decide +kernel
theorem dL_undone_76 : decode cL_undone 76 = .ok (.iload 8, 2) := by decide +kernel
theorem dL_undone_78 : decode cL_undone 78 = .ok (.invokestatic 122, 3) := by decide +kernel
theorem dL_undone_81 : decode cL_undone 81 = .ok (.lcmp, 1) := by decide +kernel
theorem dL_undone_82 : decode cL_undone 82 = .ok (.ifCond .eq 5, 3) := by decide +kernel
theorem dL_undone_85 : decode cL_undone 85 = .ok (.lconst 0, 1) := by decide +kernel
theorem dL_undone_86 : decode cL_undone 86 = .ok (.lreturn, 1) := by decide +kernel
theorem dL_undone_87 : decode cL_undone 87 = .ok (.lload 6, 2) := by decide +kernel
theorem dL_undone_89 : decode cL_undone 89 = .ok (.iload 9, 2) := by decide +kernel
theorem dL_undone_91 : decode cL_undone 91 = .ok (.ifCond .eq 7, 3) := by decide +kernel
theorem dL_undone_94 : decode cL_undone 94 = .ok (.lload_n 0, 1) := by decide +kernel
theorem dL_undone_95 : decode cL_undone 95 = .ok (.goto 5, 3) := by decide +kernel
theorem dL_undone_98 : decode cL_undone 98 = .ok (.lload 4, 2) := by decide +kernel
theorem dL_undone_100 : decode cL_undone 100 = .ok (.iload 8, 2) := by decide +kernel
theorem dL_undone_102 : decode cL_undone 102 = .ok (.invokestatic 122, 3) := by decide +kernel
theorem dL_undone_105 : decode cL_undone 105 = .ok (.invokestatic 126, 3) := by decide +kernel
theorem dL_undone_108 : decode cL_undone 108 = .ok (.lstore 6, 2) := by decide +kernel
theorem dL_undone_110 : decode cL_undone 110 = .ok (.iinc 8 1, 3) := by decide +kernel
theorem dL_undone_113 : decode cL_undone 113 = .ok (.goto (-82), 3) := by decide +kernel
theorem dL_undone_116 : decode cL_undone 116 = .ok (.lload 6, 2) := by decide +kernel
theorem dL_undone_118 : decode cL_undone 118 = .ok (.lreturn, 1) := by decide +kernel
theorem dL_drawn_0 : decode cL_drawn 0 = .ok (.iconst 1, 1) := by decide +kernel
theorem dL_drawn_1 : decode cL_drawn 1 = .ok (.iload_n 0, 1) := by decide +kernel
theorem dL_drawn_2 : decode cL_drawn 2 = .ok (.iconst 5, 1) := by decide +kernel
theorem dL_drawn_3 : decode cL_drawn 3 = .ok (.irem, 1) := by decide +kernel
theorem dL_drawn_4 : decode cL_drawn 4 = .ok (.iadd, 1) := by decide +kernel
theorem dL_drawn_5 : decode cL_drawn 5 = .ok (.istore_n 1, 1) := by decide +kernel
theorem dL_drawn_6 : decode cL_drawn 6 = .ok (.lconst 1, 1) := by decide +kernel
theorem dL_drawn_7 : decode cL_drawn 7 = .ok (.lstore_n 2, 1) := by decide +kernel
theorem dL_drawn_8 : decode cL_drawn 8 = .ok (.iload_n 0, 1) := by decide +kernel
theorem dL_drawn_9 : decode cL_drawn 9 = .ok (.bipush 11, 2) := by decide +kernel
theorem dL_drawn_11 : decode cL_drawn 11 = .ok (.irem, 1) := by decide +kernel
theorem dL_drawn_12 : decode cL_drawn 12 = .ok (.ifCond .ne 22, 3) := by decide +kernel
theorem dL_drawn_15 : decode cL_drawn 15 = .ok (.ldc2_w 130, 3) := by decide +kernel
theorem dL_drawn_18 : decode cL_drawn 18 = .ok (.bipush 10, 2) := by decide +kernel
theorem dL_drawn_20 : decode cL_drawn 20 = .ok (.bipush 16, 2) := by decide +kernel
theorem dL_drawn_22 : decode cL_drawn 22 = .ok (.iload_n 0, 1) := by decide +kernel
theorem dL_drawn_23 : decode cL_drawn 23 = .ok (.bipush 11, 2) := by decide +kernel
theorem dL_drawn_25 : decode cL_drawn 25 = .ok (.idiv, 1) := by decide +kernel
theorem dL_drawn_26 : decode cL_drawn 26 = .ok (.bipush 8, 2) := by decide +kernel
theorem dL_drawn_28 : decode cL_drawn 28 = .ok (.irem, 1) := by decide +kernel
theorem dL_drawn_29 : decode cL_drawn 29 = .ok (.imul, 1) := by decide +kernel
theorem dL_drawn_30 : decode cL_drawn 30 = .ok (.iadd, 1) := by decide +kernel
theorem dL_drawn_31 : decode cL_drawn 31 = .ok (.i2l, 1) := by decide +kernel
theorem dL_drawn_32 : decode cL_drawn 32 = .ok (.lor, 1) := by decide +kernel
theorem dL_drawn_33 : decode cL_drawn 33 = .ok (.lreturn, 1) := by decide +kernel
theorem dL_drawn_34 : decode cL_drawn 34 = .ok (.iconst 0, 1) := by decide +kernel
theorem dL_drawn_35 : decode cL_drawn 35 = .ok (.istore 4, 2) := by decide +kernel
theorem dL_drawn_37 : decode cL_drawn 37 = .ok (.iload 4, 2) := by decide +kernel
theorem dL_drawn_39 : decode cL_drawn 39 = .ok (.iload_n 1, 1) := by decide +kernel
theorem dL_drawn_40 : decode cL_drawn 40 = .ok (.if_icmp .ge 101, 3) := by decide +kernel
theorem dL_drawn_43 : decode cL_drawn 43 = .ok (.iload_n 0, 1) := by decide +kernel
theorem dL_drawn_44 : decode cL_drawn 44 = .ok (.bipush 7, 2) := by decide +kernel
theorem dL_drawn_46 : decode cL_drawn 46 = .ok (.bipush 13, 2) := by decide +kernel
theorem dL_drawn_48 : decode cL_drawn 48 = .ok (.iload 4, 2) := by decide +kernel
theorem dL_drawn_50 : decode cL_drawn 50 = .ok (.imul, 1) := by decide +kernel
theorem dL_drawn_51 : decode cL_drawn 51 = .ok (.iadd, 1) := by decide +kernel
theorem dL_drawn_52 : decode cL_drawn 52 = .ok (.idiv, 1) := by decide +kernel
theorem dL_drawn_53 : decode cL_drawn 53 = .ok (.istore 5, 2) := by decide +kernel
theorem dL_drawn_55 : decode cL_drawn 55 = .ok (.iload 5, 2) := by decide +kernel
theorem dL_drawn_57 : decode cL_drawn 57 = .ok (.bipush 13, 2) := by decide +kernel
theorem dL_drawn_59 : decode cL_drawn 59 = .ok (.irem, 1) := by decide +kernel
theorem dL_drawn_60 : decode cL_drawn 60 = .ok (.bipush 10, 2) := by decide +kernel
theorem dL_drawn_62 : decode cL_drawn 62 = .ok (.if_icmp .ge 11, 3) := by decide +kernel
theorem dL_drawn_65 : decode cL_drawn 65 = .ok (.iload 5, 2) := by decide +kernel
theorem dL_drawn_67 : decode cL_drawn 67 = .ok (.bipush 13, 2) := by decide +kernel
theorem dL_drawn_69 : decode cL_drawn 69 = .ok (.irem, 1) := by decide +kernel
theorem dL_drawn_70 : decode cL_drawn 70 = .ok (.goto 15, 3) := by decide +kernel
theorem dL_drawn_73 : decode cL_drawn 73 = .ok (.iload 5, 2) := by decide +kernel
theorem dL_drawn_75 : decode cL_drawn 75 = .ok (.iconst 2, 1) := by decide +kernel
theorem dL_drawn_76 : decode cL_drawn 76 = .ok (.irem, 1) := by decide +kernel
theorem dL_drawn_77 : decode cL_drawn 77 = .ok (.ifCond .ne 7, 3) := by decide +kernel
theorem dL_drawn_80 : decode cL_drawn 80 = .ok (.iconst 2, 1) := by decide +kernel
theorem dL_drawn_81 : decode cL_drawn 81 = .ok (.goto 4, 3) := by decide +kernel
theorem dL_drawn_84 : decode cL_drawn 84 = .ok (.iconst 0, 1) := by decide +kernel
theorem dL_drawn_85 : decode cL_drawn 85 = .ok (.istore 6, 2) := by decide +kernel
theorem dL_drawn_87 : decode cL_drawn 87 = .ok (.lload_n 2, 1) := by decide +kernel
theorem dL_drawn_88 : decode cL_drawn 88 = .ok (.bipush 10, 2) := by decide +kernel
theorem dL_drawn_90 : decode cL_drawn 90 = .ok (.lshl, 1) := by decide +kernel
theorem dL_drawn_91 : decode cL_drawn 91 = .ok (.iload 6, 2) := by decide +kernel
theorem dL_drawn_93 : decode cL_drawn 93 = .ok (.bipush 16, 2) := by decide +kernel
theorem dL_drawn_95 : decode cL_drawn 95 = .ok (.iload 6, 2) := by decide +kernel
theorem dL_drawn_97 : decode cL_drawn 97 = .ok (.iconst 4, 1) := by decide +kernel
theorem dL_drawn_98 : decode cL_drawn 98 = .ok (.if_icmp .ne 7, 3) := by decide +kernel
theorem dL_drawn_101 : decode cL_drawn 101 = .ok (.iconst 0, 1) := by decide +kernel
theorem dL_drawn_102 : decode cL_drawn 102 = .ok (.goto 28, 3) := by decide +kernel
theorem dL_drawn_105 : decode cL_drawn 105 = .ok (.iload 5, 2) := by decide +kernel
theorem dL_drawn_107 : decode cL_drawn 107 = .ok (.bipush 13, 2) := by decide +kernel
theorem dL_drawn_109 : decode cL_drawn 109 = .ok (.idiv, 1) := by decide +kernel
theorem dL_drawn_110 : decode cL_drawn 110 = .ok (.iload 6, 2) := by decide +kernel
theorem dL_drawn_112 : decode cL_drawn 112 = .ok (.ifCond .eq 10, 3) := by decide +kernel
theorem dL_drawn_115 : decode cL_drawn 115 = .ok (.iload 6, 2) := by decide +kernel
theorem dL_drawn_117 : decode cL_drawn 117 = .ok (.bipush 7, 2) := by decide +kernel
theorem dL_drawn_119 : decode cL_drawn 119 = .ok (.if_icmp .le 8, 3) := by decide +kernel
theorem dL_drawn_122 : decode cL_drawn 122 = .ok (.bipush 60, 2) := by decide +kernel
theorem dL_drawn_124 : decode cL_drawn 124 = .ok (.goto 5, 3) := by decide +kernel
theorem dL_drawn_127 : decode cL_drawn 127 = .ok (.bipush 8, 2) := by decide +kernel
theorem dL_drawn_129 : decode cL_drawn 129 = .ok (.irem, 1) := by decide +kernel
theorem dL_drawn_130 : decode cL_drawn 130 = .ok (.imul, 1) := by decide +kernel
theorem dL_drawn_131 : decode cL_drawn 131 = .ok (.iadd, 1) := by decide +kernel
theorem dL_drawn_132 : decode cL_drawn 132 = .ok (.i2l, 1) := by decide +kernel
theorem dL_drawn_133 : decode cL_drawn 133 = .ok (.lor, 1) := by decide +kernel
theorem dL_drawn_134 : decode cL_drawn 134 = .ok (.lstore_n 2, 1) := by decide +kernel
theorem dL_drawn_135 : decode cL_drawn 135 = .ok (.iinc 4 1, 3) := by decide +kernel
theorem dL_drawn_138 : decode cL_drawn 138 = .ok (.goto (-101), 3) := by decide +kernel
theorem dL_drawn_141 : decode cL_drawn 141 = .ok (.lload_n 2, 1) := by decide +kernel
theorem dL_drawn_142 : decode cL_drawn 142 = .ok (.lreturn, 1) := by decide +kernel
theorem dL_versionOf_0 : decode cL_versionOf 0 = .ok (.iload 4, 2) := by decide +kernel
theorem dL_versionOf_2 : decode cL_versionOf 2 = .ok (.istore 5, 2) := by decide +kernel
theorem dL_versionOf_4 : decode cL_versionOf 4 = .ok (.iconst 1, 1) := by decide +kernel
theorem dL_versionOf_5 : decode cL_versionOf 5 = .ok (.istore 6, 2) := by decide +kernel
theorem dL_versionOf_7 : decode cL_versionOf 7 = .ok (.iload 6, 2) := by decide +kernel
theorem dL_versionOf_9 : decode cL_versionOf 9 = .ok (.aload_n 0, 1) := by decide +kernel
theorem dL_versionOf_10 : decode cL_versionOf 10 = .ok (.iconst 2, 1) := by decide +kernel
theorem dL_versionOf_11 : decode cL_versionOf 11 = .ok (.iaload, 1) := by decide +kernel
theorem dL_versionOf_12 : decode cL_versionOf 12 = .ok (.if_icmp .gt 70, 3) := by decide +kernel
theorem dL_versionOf_15 : decode cL_versionOf 15 = .ok (.iconst 0, 1) := by decide +kernel
theorem dL_versionOf_16 : decode cL_versionOf 16 = .ok (.istore 7, 2) := by decide +kernel
theorem dL_versionOf_18 : decode cL_versionOf 18 = .ok (.iload 7, 2) := by decide +kernel
theorem dL_versionOf_20 : decode cL_versionOf 20 = .ok (.aload_n 0, 1) := by decide +kernel
theorem dL_versionOf_21 : decode cL_versionOf 21 = .ok (.iconst 0, 1) := by decide +kernel
theorem dL_versionOf_22 : decode cL_versionOf 22 = .ok (.iaload, 1) := by decide +kernel
theorem dL_versionOf_23 : decode cL_versionOf 23 = .ok (.if_icmp .ge 53, 3) := by decide +kernel
theorem dL_versionOf_26 : decode cL_versionOf 26 = .ok (.aload_n 1, 1) := by decide +kernel
theorem dL_versionOf_27 : decode cL_versionOf 27 = .ok (.iload_n 3, 1) := by decide +kernel
theorem dL_versionOf_28 : decode cL_versionOf 28 = .ok (.iaload, 1) := by decide +kernel
theorem dL_versionOf_29 : decode cL_versionOf 29 = .ok (.ifCond .le 41, 3) := by decide +kernel
theorem dL_versionOf_32 : decode cL_versionOf 32 = .ok (.aload_n 2, 1) := by decide +kernel
theorem dL_versionOf_33 : decode cL_versionOf 33 = .ok (.iconst 2, 1) := by decide +kernel
theorem dL_versionOf_34 : decode cL_versionOf 34 = .ok (.iload 7, 2) := by decide +kernel
theorem dL_versionOf_36 : decode cL_versionOf 36 = .ok (.imul, 1) := by decide +kernel
theorem dL_versionOf_37 : decode cL_versionOf 37 = .ok (.iaload, 1) := by decide +kernel
theorem dL_versionOf_38 : decode cL_versionOf 38 = .ok (.aload_n 1, 1) := by decide +kernel
theorem dL_versionOf_39 : decode cL_versionOf 39 = .ok (.iload_n 3, 1) := by decide +kernel
theorem dL_versionOf_40 : decode cL_versionOf 40 = .ok (.iaload, 1) := by decide +kernel
theorem dL_versionOf_41 : decode cL_versionOf 41 = .ok (.iconst 1, 1) := by decide +kernel
theorem dL_versionOf_42 : decode cL_versionOf 42 = .ok (.isub, 1) := by decide +kernel
theorem dL_versionOf_43 : decode cL_versionOf 43 = .ok (.if_icmp .ne 27, 3) := by decide +kernel
theorem dL_versionOf_46 : decode cL_versionOf 46 = .ok (.aload_n 2, 1) := by decide +kernel
theorem dL_versionOf_47 : decode cL_versionOf 47 = .ok (.iconst 2, 1) := by decide +kernel
theorem dL_versionOf_48 : decode cL_versionOf 48 = .ok (.iload 7, 2) := by decide +kernel
theorem dL_versionOf_50 : decode cL_versionOf 50 = .ok (.imul, 1) := by decide +kernel
theorem dL_versionOf_51 : decode cL_versionOf 51 = .ok (.iconst 1, 1) := by decide +kernel
theorem dL_versionOf_52 : decode cL_versionOf 52 = .ok (.iadd, 1) := by decide +kernel
theorem dL_versionOf_53 : decode cL_versionOf 53 = .ok (.iaload, 1) := by decide +kernel
theorem dL_versionOf_54 : decode cL_versionOf 54 = .ok (.iload 6, 2) := by decide +kernel
theorem dL_versionOf_56 : decode cL_versionOf 56 = .ok (.if_icmp .ne 14, 3) := by decide +kernel
theorem dL_versionOf_59 : decode cL_versionOf 59 = .ok (.iload 5, 2) := by decide +kernel
theorem dL_versionOf_61 : decode cL_versionOf 61 = .ok (.ifCond .ne 6, 3) := by decide +kernel
theorem dL_versionOf_64 : decode cL_versionOf 64 = .ok (.iload 7, 2) := by decide +kernel
theorem dL_versionOf_66 : decode cL_versionOf 66 = .ok (.ireturn, 1) := by decide +kernel
theorem dL_versionOf_67 : decode cL_versionOf 67 = .ok (.iinc 5 (-1), 3) := by decide +kernel
theorem dL_versionOf_70 : decode cL_versionOf 70 = .ok (.iinc 7 1, 3) := by decide +kernel
theorem dL_versionOf_73 : decode cL_versionOf 73 = .ok (.goto (-55), 3) := by decide +kernel
theorem dL_versionOf_76 : decode cL_versionOf 76 = .ok (.iinc 6 1, 3) := by decide +kernel
theorem dL_versionOf_79 : decode cL_versionOf 79 = .ok (.goto (-72), 3) := by decide +kernel
theorem dL_versionOf_82 : decode cL_versionOf 82 = .ok (.iconst (-1), 1) := by decide +kernel
theorem dL_versionOf_83 : decode cL_versionOf 83 = .ok (.ireturn, 1) := by decide +kernel
theorem dL_digest_0 : decode cL_digest 0 = .ok (.lconst 1, 1) := by decide +kernel
theorem dL_digest_1 : decode cL_digest 1 = .ok (.lstore_n 3, 1) := by decide +kernel
theorem dL_digest_2 : decode cL_digest 2 = .ok (.aload_n 0, 1) := by decide +kernel
theorem dL_digest_3 : decode cL_digest 3 = .ok (.iload_n 1, 1) := by decide +kernel
theorem dL_digest_4 : decode cL_digest 4 = .ok (.iload_n 2, 1) := by decide +kernel
theorem dL_digest_5 : decode cL_digest 5 = .ok (.iconst 0, 1) := by decide +kernel
theorem dL_digest_6 : decode cL_digest 6 = .ok (.iconst 0, 1) := by decide +kernel
theorem dL_digest_7 : decode cL_digest 7 = .ok (.invokestatic 132, 3) := by decide +kernel
theorem dL_digest_10 : decode cL_digest 10 = .ok (.istore 5, 2) := by decide +kernel
theorem dL_digest_12 : decode cL_digest 12 = .ok (.iconst 1, 1) := by decide +kernel
theorem dL_digest_13 : decode cL_digest 13 = .ok (.istore 6, 2) := by decide +kernel
theorem dL_digest_15 : decode cL_digest 15 = .ok (.iload 5, 2) := by decide +kernel
theorem dL_digest_17 : decode cL_digest 17 = .ok (.ifCond .lt 34, 3) := by decide +kernel
theorem dL_digest_20 : decode cL_digest 20 = .ok (.lload_n 3, 1) := by decide +kernel
theorem dL_digest_21 : decode cL_digest 21 = .ok (.ldc2_w 23, 3) := by decide +kernel
theorem dL_digest_24 : decode cL_digest 24 = .ok (.lmul, 1) := by decide +kernel
theorem dL_digest_25 : decode cL_digest 25 = .ok (.iload 5, 2) := by decide +kernel
theorem dL_digest_27 : decode cL_digest 27 = .ok (.i2l, 1) := by decide +kernel
theorem dL_digest_28 : decode cL_digest 28 = .ok (.ladd, 1) := by decide +kernel
theorem dL_digest_29 : decode cL_digest 29 = .ok (.ldc2_w 25, 3) := by decide +kernel
theorem dL_digest_32 : decode cL_digest 32 = .ok (.ladd, 1) := by decide +kernel
theorem dL_digest_33 : decode cL_digest 33 = .ok (.lstore_n 3, 1) := by decide +kernel
theorem dL_digest_34 : decode cL_digest 34 = .ok (.aload_n 0, 1) := by decide +kernel
theorem dL_digest_35 : decode cL_digest 35 = .ok (.iload_n 1, 1) := by decide +kernel
theorem dL_digest_36 : decode cL_digest 36 = .ok (.iload_n 2, 1) := by decide +kernel
theorem dL_digest_37 : decode cL_digest 37 = .ok (.iload 6, 2) := by decide +kernel
theorem dL_digest_39 : decode cL_digest 39 = .ok (.iconst 0, 1) := by decide +kernel
theorem dL_digest_40 : decode cL_digest 40 = .ok (.invokestatic 132, 3) := by decide +kernel
theorem dL_digest_43 : decode cL_digest 43 = .ok (.istore 5, 2) := by decide +kernel
theorem dL_digest_45 : decode cL_digest 45 = .ok (.iinc 6 1, 3) := by decide +kernel
theorem dL_digest_48 : decode cL_digest 48 = .ok (.goto (-33), 3) := by decide +kernel
theorem dL_digest_51 : decode cL_digest 51 = .ok (.lload_n 3, 1) := by decide +kernel
theorem dL_digest_52 : decode cL_digest 52 = .ok (.lreturn, 1) := by decide +kernel
theorem dL_isAnew_0 : decode cL_isAnew 0 = .ok (.aload_n 1, 1) := by decide +kernel
theorem dL_isAnew_1 : decode cL_isAnew 1 = .ok (.aload_n 2, 1) := by decide +kernel
theorem dL_isAnew_2 : decode cL_isAnew 2 = .ok (.aload_n 3, 1) := by decide +kernel
theorem dL_isAnew_3 : decode cL_isAnew 3 = .ok (.aload 4, 2) := by decide +kernel
theorem dL_isAnew_5 : decode cL_isAnew 5 = .ok (.aload 5, 2) := by decide +kernel
theorem dL_isAnew_7 : decode cL_isAnew 7 = .ok (.aload 6, 2) := by decide +kernel
theorem dL_isAnew_9 : decode cL_isAnew 9 = .ok (.iload 7, 2) := by decide +kernel
theorem dL_isAnew_11 : decode cL_isAnew 11 = .ok (.invokestatic 47, 3) := by decide +kernel
theorem dL_isAnew_14 : decode cL_isAnew 14 = .ok (.lstore 9, 2) := by decide +kernel
theorem dL_isAnew_16 : decode cL_isAnew 16 = .ok (.aload 6, 2) := by decide +kernel
theorem dL_isAnew_18 : decode cL_isAnew 18 = .ok (.iconst 4, 1) := by decide +kernel
theorem dL_isAnew_19 : decode cL_isAnew 19 = .ok (.iaload, 1) := by decide +kernel
theorem dL_isAnew_20 : decode cL_isAnew 20 = .ok (.istore 11, 2) := by decide +kernel
theorem dL_isAnew_22 : decode cL_isAnew 22 = .ok (.aload 6, 2) := by decide +kernel
theorem dL_isAnew_24 : decode cL_isAnew 24 = .ok (.bipush 6, 2) := by decide +kernel
theorem dL_isAnew_26 : decode cL_isAnew 26 = .ok (.iload 11, 2) := by decide +kernel
theorem dL_isAnew_28 : decode cL_isAnew 28 = .ok (.ifCond .ne 7, 3) := by decide +kernel
theorem dL_isAnew_31 : decode cL_isAnew 31 = .ok (.iconst 0, 1) := by decide +kernel
theorem dL_isAnew_32 : decode cL_isAnew 32 = .ok (.goto 8, 3) := by decide +kernel
theorem dL_isAnew_35 : decode cL_isAnew 35 = .ok (.iload 8, 2) := by decide +kernel
theorem dL_isAnew_37 : decode cL_isAnew 37 = .ok (.iload 11, 2) := by decide +kernel
theorem dL_isAnew_39 : decode cL_isAnew 39 = .ok (.irem, 1) := by decide +kernel
theorem dL_isAnew_40 : decode cL_isAnew 40 = .ok (.iastore, 1) := by decide +kernel
theorem dL_isAnew_41 : decode cL_isAnew 41 = .ok (.aload_n 0, 1) := by decide +kernel
theorem dL_isAnew_42 : decode cL_isAnew 42 = .ok (.bipush 10, 2) := by decide +kernel
theorem dL_isAnew_44 : decode cL_isAnew 44 = .ok (.iload 7, 2) := by decide +kernel
theorem dL_isAnew_46 : decode cL_isAnew 46 = .ok (.iload 11, 2) := by decide +kernel
theorem dL_isAnew_48 : decode cL_isAnew 48 = .ok (.iconst 0, 1) := by decide +kernel
theorem dL_isAnew_49 : decode cL_isAnew 49 = .ok (.invokestatic 132, 3) := by decide +kernel
theorem dL_isAnew_52 : decode cL_isAnew 52 = .ok (.iconst (-1), 1) := by decide +kernel
theorem dL_isAnew_53 : decode cL_isAnew 53 = .ok (.if_icmp .ne 27, 3) := by decide +kernel
theorem dL_isAnew_56 : decode cL_isAnew 56 = .ok (.lload 9, 2) := by decide +kernel
theorem dL_isAnew_58 : decode cL_isAnew 58 = .ok (.aload_n 1, 1) := by decide +kernel
theorem dL_isAnew_59 : decode cL_isAnew 59 = .ok (.aload_n 2, 1) := by decide +kernel
theorem dL_isAnew_60 : decode cL_isAnew 60 = .ok (.aload_n 3, 1) := by decide +kernel
theorem dL_isAnew_61 : decode cL_isAnew 61 = .ok (.aload 4, 2) := by decide +kernel
theorem dL_isAnew_63 : decode cL_isAnew 63 = .ok (.aload 5, 2) := by decide +kernel
theorem dL_isAnew_65 : decode cL_isAnew 65 = .ok (.aload 6, 2) := by decide +kernel
theorem dL_isAnew_67 : decode cL_isAnew 67 = .ok (.iload 7, 2) := by decide +kernel
theorem dL_isAnew_69 : decode cL_isAnew 69 = .ok (.invokestatic 47, 3) := by decide +kernel
theorem dL_isAnew_72 : decode cL_isAnew 72 = .ok (.lcmp, 1) := by decide +kernel
theorem dL_isAnew_73 : decode cL_isAnew 73 = .ok (.ifCond .ne 7, 3) := by decide +kernel
theorem dL_isAnew_76 : decode cL_isAnew 76 = .ok (.iconst 1, 1) := by decide +kernel
theorem dL_isAnew_77 : decode cL_isAnew 77 = .ok (.goto 4, 3) := by decide +kernel
theorem dL_isAnew_80 : decode cL_isAnew 80 = .ok (.iconst 0, 1) := by decide +kernel
theorem dL_isAnew_81 : decode cL_isAnew 81 = .ok (.istore 12, 2) := by decide +kernel
theorem dL_isAnew_83 : decode cL_isAnew 83 = .ok (.iload 12, 2) := by decide +kernel
theorem dL_isAnew_85 : decode cL_isAnew 85 = .ok (.ifCond .eq 29, 3) := by decide +kernel
theorem dL_isAnew_88 : decode cL_isAnew 88 = .ok (.aload_n 0, 1) := by decide +kernel
theorem dL_isAnew_89 : decode cL_isAnew 89 = .ok (.bipush 10, 2) := by decide +kernel
theorem dL_isAnew_91 : decode cL_isAnew 91 = .ok (.iload 7, 2) := by decide +kernel
theorem dL_isAnew_93 : decode cL_isAnew 93 = .ok (.aload 6, 2) := by decide +kernel
theorem dL_isAnew_95 : decode cL_isAnew 95 = .ok (.bipush 6, 2) := by decide +kernel
theorem dL_isAnew_97 : decode cL_isAnew 97 = .ok (.iaload, 1) := by decide +kernel
theorem dL_isAnew_98 : decode cL_isAnew 98 = .ok (.iconst 0, 1) := by decide +kernel
theorem dL_isAnew_99 : decode cL_isAnew 99 = .ok (.invokestatic 132, 3) := by decide +kernel
theorem dL_isAnew_102 : decode cL_isAnew 102 = .ok (.aload 6, 2) := by decide +kernel
theorem dL_isAnew_104 : decode cL_isAnew 104 = .ok (.bipush 7, 2) := by decide +kernel
theorem dL_isAnew_106 : decode cL_isAnew 106 = .ok (.iaload, 1) := by decide +kernel
theorem dL_isAnew_107 : decode cL_isAnew 107 = .ok (.if_icmp .ne 7, 3) := by decide +kernel
theorem dL_isAnew_110 : decode cL_isAnew 110 = .ok (.iconst 1, 1) := by decide +kernel
theorem dL_isAnew_111 : decode cL_isAnew 111 = .ok (.goto 4, 3) := by decide +kernel
theorem dL_isAnew_114 : decode cL_isAnew 114 = .ok (.iconst 0, 1) := by decide +kernel
theorem dL_isAnew_115 : decode cL_isAnew 115 = .ok (.ireturn, 1) := by decide +kernel
theorem dL_isWiki_0 : decode cL_isWiki 0 = .ok (.bipush 8, 2) := by decide +kernel
theorem dL_isWiki_2 : decode cL_isWiki 2 = .ok (.newarray .int, 2) := by decide +kernel
theorem dL_isWiki_4 : decode cL_isWiki 4 = .ok (.astore 11, 2) := by decide +kernel
theorem dL_isWiki_6 : decode cL_isWiki 6 = .ok (.aload_n 0, 1) := by decide +kernel
theorem dL_isWiki_7 : decode cL_isWiki 7 = .ok (.invokevirtual 136, 3) := by decide +kernel
theorem dL_isWiki_10 : decode cL_isWiki 10 = .ok (.aload_n 1, 1) := by decide +kernel
theorem dL_isWiki_11 : decode cL_isWiki 11 = .ok (.iconst 2, 1) := by decide +kernel
theorem dL_isWiki_12 : decode cL_isWiki 12 = .ok (.iaload, 1) := by decide +kernel
theorem dL_isWiki_13 : decode cL_isWiki 13 = .ok (.if_icmp .ne 7, 3) := by decide +kernel
theorem dL_isWiki_16 : decode cL_isWiki 16 = .ok (.iconst 1, 1) := by decide +kernel
theorem dL_isWiki_17 : decode cL_isWiki 17 = .ok (.goto 4, 3) := by decide +kernel
theorem dL_isWiki_20 : decode cL_isWiki 20 = .ok (.iconst 0, 1) := by decide +kernel
theorem dL_isWiki_21 : decode cL_isWiki 21 = .ok (.istore 12, 2) := by decide +kernel
theorem dL_isWiki_23 : decode cL_isWiki 23 = .ok (.iconst 0, 1) := by decide +kernel
theorem dL_isWiki_24 : decode cL_isWiki 24 = .ok (.istore 13, 2) := by decide +kernel
theorem dL_isWiki_26 : decode cL_isWiki 26 = .ok (.iconst 0, 1) := by decide +kernel
theorem dL_isWiki_27 : decode cL_isWiki 27 = .ok (.istore 14, 2) := by decide +kernel
theorem dL_isWiki_29 : decode cL_isWiki 29 = .ok (.iconst 0, 1) := by decide +kernel
theorem dL_isWiki_30 : decode cL_isWiki 30 = .ok (.istore 15, 2) := by decide +kernel
theorem dL_isWiki_32 : decode cL_isWiki 32 = .ok (.iload 15, 2) := by decide +kernel
theorem dL_isWiki_34 : decode cL_isWiki 34 = .ok (.bipush 8, 2) := by decide +kernel
theorem dL_isWiki_36 : decode cL_isWiki 36 = .ok (.if_icmp .ge 614, 3) := by decide +kernel
theorem dL_isWiki_39 : decode cL_isWiki 39 = .ok (.iload 12, 2) := by decide +kernel
theorem dL_isWiki_41 : decode cL_isWiki 41 = .ok (.ifCond .eq 609, 3) := by decide +kernel
theorem dL_isWiki_44 : decode cL_isWiki 44 = .ok (.aload_n 1, 1) := by decide +kernel
theorem dL_isWiki_45 : decode cL_isWiki 45 = .ok (.aload_n 2, 1) := by decide +kernel
theorem dL_isWiki_46 : decode cL_isWiki 46 = .ok (.aload_n 3, 1) := by decide +kernel
theorem dL_isWiki_47 : decode cL_isWiki 47 = .ok (.iload 15, 2) := by decide +kernel
theorem dL_isWiki_49 : decode cL_isWiki 49 = .ok (.invokestatic 15, 3) := by decide +kernel
theorem dL_isWiki_52 : decode cL_isWiki 52 = .ok (.istore 16, 2) := by decide +kernel
theorem dL_isWiki_54 : decode cL_isWiki 54 = .ok (.iconst 0, 1) := by decide +kernel
theorem dL_isWiki_55 : decode cL_isWiki 55 = .ok (.istore 17, 2) := by decide +kernel
theorem dL_isWiki_57 : decode cL_isWiki 57 = .ok (.aload_n 1, 1) := by decide +kernel
theorem dL_isWiki_58 : decode cL_isWiki 58 = .ok (.aload_n 2, 1) := by decide +kernel
theorem dL_isWiki_59 : decode cL_isWiki 59 = .ok (.aload_n 3, 1) := by decide +kernel
theorem dL_isWiki_60 : decode cL_isWiki 60 = .ok (.iload 15, 2) := by decide +kernel
theorem dL_isWiki_62 : decode cL_isWiki 62 = .ok (.iload 17, 2) := by decide +kernel
theorem dL_isWiki_64 : decode cL_isWiki 64 = .ok (.invokestatic 139, 3) := by decide +kernel
theorem dL_isWiki_67 : decode cL_isWiki 67 = .ok (.ifCond .lt 9, 3) := by decide +kernel
theorem dL_isWiki_70 : decode cL_isWiki 70 = .ok (.iinc 17 1, 3) := by decide +kernel
theorem dL_isWiki_73 : decode cL_isWiki 73 = .ok (.goto (-16), 3) := by decide +kernel
theorem dL_isWiki_76 : decode cL_isWiki 76 = .ok (.aload_n 2, 1) := by decide +kernel
theorem dL_isWiki_77 : decode cL_isWiki 77 = .ok (.aload 5, 2) := by decide +kernel
theorem dL_isWiki_79 : decode cL_isWiki 79 = .ok (.aload 6, 2) := by decide +kernel
theorem dL_isWiki_81 : decode cL_isWiki 81 = .ok (.aload 8, 2) := by decide +kernel
theorem dL_isWiki_83 : decode cL_isWiki 83 = .ok (.iload 15, 2) := by decide +kernel
theorem dL_isWiki_85 : decode cL_isWiki 85 = .ok (.invokestatic 55, 3) := by decide +kernel
theorem dL_isWiki_88 : decode cL_isWiki 88 = .ok (.istore 18, 2) := by decide +kernel
theorem dL_isWiki_90 : decode cL_isWiki 90 = .ok (.aload 6, 2) := by decide +kernel
theorem dL_isWiki_92 : decode cL_isWiki 92 = .ok (.bipush 7, 2) := by decide +kernel
theorem dL_isWiki_94 : decode cL_isWiki 94 = .ok (.iload 15, 2) := by decide +kernel
theorem dL_isWiki_96 : decode cL_isWiki 96 = .ok (.imul, 1) := by decide +kernel
theorem dL_isWiki_97 : decode cL_isWiki 97 = .ok (.iaload, 1) := by decide +kernel
theorem dL_isWiki_98 : decode cL_isWiki 98 = .ok (.ifCond .le 7, 3) := by decide +kernel
theorem dL_isWiki_101 : decode cL_isWiki 101 = .ok (.iconst 1, 1) := by decide +kernel
theorem dL_isWiki_102 : decode cL_isWiki 102 = .ok (.goto 4, 3) := by decide +kernel
theorem dL_isWiki_105 : decode cL_isWiki 105 = .ok (.iconst 0, 1) := by decide +kernel
theorem dL_isWiki_106 : decode cL_isWiki 106 = .ok (.istore 19, 2) := by decide +kernel
theorem dL_isWiki_108 : decode cL_isWiki 108 = .ok (.iload 13, 2) := by decide +kernel
theorem dL_isWiki_110 : decode cL_isWiki 110 = .ok (.iload 18, 2) := by decide +kernel
theorem dL_isWiki_112 : decode cL_isWiki 112 = .ok (.ifCond .eq 7, 3) := by decide +kernel
theorem dL_isWiki_115 : decode cL_isWiki 115 = .ok (.iconst 1, 1) := by decide +kernel
theorem dL_isWiki_116 : decode cL_isWiki 116 = .ok (.goto 4, 3) := by decide +kernel
theorem dL_isWiki_119 : decode cL_isWiki 119 = .ok (.iconst 0, 1) := by decide +kernel
theorem dL_isWiki_120 : decode cL_isWiki 120 = .ok (.iadd, 1) := by decide +kernel
theorem dL_isWiki_121 : decode cL_isWiki 121 = .ok (.istore 13, 2) := by decide +kernel
theorem dL_isWiki_123 : decode cL_isWiki 123 = .ok (.aload_n 0, 1) := by decide +kernel
theorem dL_isWiki_124 : decode cL_isWiki 124 = .ok (.iload 15, 2) := by decide +kernel
theorem dL_isWiki_126 : decode cL_isWiki 126 = .ok (.invokevirtual 143, 3) := by decide +kernel
theorem dL_isWiki_129 : decode cL_isWiki 129 = .ok (.iload 17, 2) := by decide +kernel
theorem dL_isWiki_131 : decode cL_isWiki 131 = .ok (.if_icmp .ne 134, 3) := by decide +kernel
theorem dL_isWiki_134 : decode cL_isWiki 134 = .ok (.iload 17, 2) := by decide +kernel
theorem dL_isWiki_136 : decode cL_isWiki 136 = .ok (.ifCond .eq 30, 3) := by decide +kernel
theorem dL_isWiki_139 : decode cL_isWiki 139 = .ok (.aload_n 0, 1) := by decide +kernel
theorem dL_isWiki_140 : decode cL_isWiki 140 = .ok (.iload 15, 2) := by decide +kernel
theorem dL_isWiki_142 : decode cL_isWiki 142 = .ok (.iload 10, 2) := by decide +kernel
theorem dL_isWiki_144 : decode cL_isWiki 144 = .ok (.iload 17, 2) := by decide +kernel
theorem dL_isWiki_146 : decode cL_isWiki 146 = .ok (.irem, 1) := by decide +kernel
theorem dL_isWiki_147 : decode cL_isWiki 147 = .ok (.invokevirtual 100, 3) := by decide +kernel
theorem dL_isWiki_150 : decode cL_isWiki 150 = .ok (.aload_n 1, 1) := by decide +kernel
theorem dL_isWiki_151 : decode cL_isWiki 151 = .ok (.aload_n 2, 1) := by decide +kernel
theorem dL_isWiki_152 : decode cL_isWiki 152 = .ok (.aload_n 3, 1) := by decide +kernel
theorem dL_isWiki_153 : decode cL_isWiki 153 = .ok (.iload 15, 2) := by decide +kernel
theorem dL_isWiki_155 : decode cL_isWiki 155 = .ok (.iload 10, 2) := by decide +kernel
theorem dL_isWiki_157 : decode cL_isWiki 157 = .ok (.iload 17, 2) := by decide +kernel
theorem dL_isWiki_159 : decode cL_isWiki 159 = .ok (.irem, 1) := by decide +kernel
theorem dL_isWiki_160 : decode cL_isWiki 160 = .ok (.invokestatic 139, 3) := by decide +kernel
theorem dL_isWiki_163 : decode cL_isWiki 163 = .ok (.if_icmp .ne 102, 3) := by decide +kernel
theorem dL_isWiki_166 : decode cL_isWiki 166 = .ok (.aload_n 0, 1) := by decide +kernel
theorem dL_isWiki_167 : decode cL_isWiki 167 = .ok (.bipush 12, 2) := by decide +kernel
theorem dL_isWiki_169 : decode cL_isWiki 169 = .ok (.iload 15, 2) := by decide +kernel
theorem dL_isWiki_171 : decode cL_isWiki 171 = .ok (.iload 17, 2) := by decide +kernel
theorem dL_isWiki_173 : decode cL_isWiki 173 = .ok (.iconst 0, 1) := by decide +kernel
theorem dL_isWiki_174 : decode cL_isWiki 174 = .ok (.invokestatic 132, 3) := by decide +kernel
theorem dL_isWiki_177 : decode cL_isWiki 177 = .ok (.bipush (-11), 2) := by decide +kernel
theorem dL_isWiki_179 : decode cL_isWiki 179 = .ok (.if_icmp .ne 86, 3) := by decide +kernel
theorem dL_isWiki_182 : decode cL_isWiki 182 = .ok (.aload_n 0, 1) := by decide +kernel
theorem dL_isWiki_183 : decode cL_isWiki 183 = .ok (.iload 15, 2) := by decide +kernel
theorem dL_isWiki_185 : decode cL_isWiki 185 = .ok (.invokevirtual 146, 3) := by decide +kernel
theorem dL_isWiki_188 : decode cL_isWiki 188 = .ok (.aload_n 1, 1) := by decide +kernel
theorem dL_isWiki_189 : decode cL_isWiki 189 = .ok (.aload_n 2, 1) := by decide +kernel
theorem dL_isWiki_190 : decode cL_isWiki 190 = .ok (.aload_n 3, 1) := by decide +kernel
theorem dL_isWiki_191 : decode cL_isWiki 191 = .ok (.aload 4, 2) := by decide +kernel
theorem dL_isWiki_193 : decode cL_isWiki 193 = .ok (.aload 11, 2) := by decide +kernel
theorem dL_isWiki_195 : decode cL_isWiki 195 = .ok (.iload 15, 2) := by decide +kernel
theorem dL_isWiki_197 : decode cL_isWiki 197 = .ok (.invokestatic 43, 3) := by decide +kernel
theorem dL_isWiki_200 : decode cL_isWiki 200 = .ok (.if_icmp .ne 65, 3) := by decide +kernel
theorem dL_isWiki_203 : decode cL_isWiki 203 = .ok (.aload_n 0, 1) := by decide +kernel
theorem dL_isWiki_204 : decode cL_isWiki 204 = .ok (.iload 15, 2) := by decide +kernel
theorem dL_isWiki_206 : decode cL_isWiki 206 = .ok (.iconst 0, 1) := by decide +kernel
theorem dL_isWiki_207 : decode cL_isWiki 207 = .ok (.invokevirtual 149, 3) := by decide +kernel
theorem dL_isWiki_210 : decode cL_isWiki 210 = .ok (.iload 19, 2) := by decide +kernel
theorem dL_isWiki_212 : decode cL_isWiki 212 = .ok (.ifCond .eq 16, 3) := by decide +kernel
theorem dL_isWiki_215 : decode cL_isWiki 215 = .ok (.aload 6, 2) := by decide +kernel
theorem dL_isWiki_217 : decode cL_isWiki 217 = .ok (.bipush 7, 2) := by decide +kernel
theorem dL_isWiki_219 : decode cL_isWiki 219 = .ok (.iload 15, 2) := by decide +kernel
theorem dL_isWiki_221 : decode cL_isWiki 221 = .ok (.imul, 1) := by decide +kernel
theorem dL_isWiki_222 : decode cL_isWiki 222 = .ok (.iconst 2, 1) := by decide +kernel
theorem dL_isWiki_223 : decode cL_isWiki 223 = .ok (.iadd, 1) := by decide +kernel
theorem dL_isWiki_224 : decode cL_isWiki 224 = .ok (.iaload, 1) := by decide +kernel
theorem dL_isWiki_225 : decode cL_isWiki 225 = .ok (.goto 4, 3) := by decide +kernel
theorem dL_isWiki_228 : decode cL_isWiki 228 = .ok (.iconst 0, 1) := by decide +kernel
theorem dL_isWiki_229 : decode cL_isWiki 229 = .ok (.if_icmp .ne 36, 3) := by decide +kernel
theorem dL_isWiki_232 : decode cL_isWiki 232 = .ok (.aload_n 0, 1) := by decide +kernel
theorem dL_isWiki_233 : decode cL_isWiki 233 = .ok (.iload 15, 2) := by decide +kernel
theorem dL_isWiki_235 : decode cL_isWiki 235 = .ok (.iconst 2, 1) := by decide +kernel
theorem dL_isWiki_236 : decode cL_isWiki 236 = .ok (.invokevirtual 149, 3) := by decide +kernel
theorem dL_isWiki_239 : decode cL_isWiki 239 = .ok (.iload 19, 2) := by decide +kernel
theorem dL_isWiki_241 : decode cL_isWiki 241 = .ok (.ifCond .eq 16, 3) := by decide +kernel
theorem dL_isWiki_244 : decode cL_isWiki 244 = .ok (.aload 6, 2) := by decide +kernel
theorem dL_isWiki_246 : decode cL_isWiki 246 = .ok (.bipush 7, 2) := by decide +kernel
theorem dL_isWiki_248 : decode cL_isWiki 248 = .ok (.iload 15, 2) := by decide +kernel
theorem dL_isWiki_250 : decode cL_isWiki 250 = .ok (.imul, 1) := by decide +kernel
theorem dL_isWiki_251 : decode cL_isWiki 251 = .ok (.iconst 3, 1) := by decide +kernel
theorem dL_isWiki_252 : decode cL_isWiki 252 = .ok (.iadd, 1) := by decide +kernel
theorem dL_isWiki_253 : decode cL_isWiki 253 = .ok (.iaload, 1) := by decide +kernel
theorem dL_isWiki_254 : decode cL_isWiki 254 = .ok (.goto 4, 3) := by decide +kernel
theorem dL_isWiki_257 : decode cL_isWiki 257 = .ok (.iconst 0, 1) := by decide +kernel
theorem dL_isWiki_258 : decode cL_isWiki 258 = .ok (.if_icmp .ne 7, 3) := by decide +kernel
theorem dL_isWiki_261 : decode cL_isWiki 261 = .ok (.iconst 1, 1) := by decide +kernel
theorem dL_isWiki_262 : decode cL_isWiki 262 = .ok (.goto 4, 3) := by decide +kernel
theorem dL_isWiki_265 : decode cL_isWiki 265 = .ok (.iconst 0, 1) := by decide +kernel
theorem dL_isWiki_266 : decode cL_isWiki 266 = .ok (.istore 12, 2) := by decide +kernel
theorem dL_isWiki_268 : decode cL_isWiki 268 = .ok (.iload 12, 2) := by decide +kernel
theorem dL_isWiki_270 : decode cL_isWiki 270 = .ok (.ifCond .eq 163, 3) := by decide +kernel
theorem dL_isWiki_273 : decode cL_isWiki 273 = .ok (.iload 16, 2) := by decide +kernel
theorem dL_isWiki_275 : decode cL_isWiki 275 = .ok (.ifCond .lt 158, 3) := by decide +kernel
theorem dL_isWiki_278 : decode cL_isWiki 278 = .ok (.aload_n 0, 1) := by decide +kernel
theorem dL_isWiki_279 : decode cL_isWiki 279 = .ok (.iload 15, 2) := by decide +kernel
theorem dL_isWiki_281 : decode cL_isWiki 281 = .ok (.invokevirtual 152, 3) := by decide +kernel
theorem dL_isWiki_284 : decode cL_isWiki 284 = .ok (.iload 18, 2) := by decide +kernel
theorem dL_isWiki_286 : decode cL_isWiki 286 = .ok (.if_icmp .ne 109, 3) := by decide +kernel
theorem dL_isWiki_289 : decode cL_isWiki 289 = .ok (.aload_n 0, 1) := by decide +kernel
theorem dL_isWiki_290 : decode cL_isWiki 290 = .ok (.bipush 9, 2) := by decide +kernel
theorem dL_isWiki_292 : decode cL_isWiki 292 = .ok (.iload 15, 2) := by decide +kernel
theorem dL_isWiki_294 : decode cL_isWiki 294 = .ok (.iload 19, 2) := by decide +kernel
theorem dL_isWiki_296 : decode cL_isWiki 296 = .ok (.ifCond .eq 16, 3) := by decide +kernel
theorem dL_isWiki_299 : decode cL_isWiki 299 = .ok (.aload 6, 2) := by decide +kernel
theorem dL_isWiki_301 : decode cL_isWiki 301 = .ok (.bipush 7, 2) := by decide +kernel
theorem dL_isWiki_303 : decode cL_isWiki 303 = .ok (.iload 15, 2) := by decide +kernel
theorem dL_isWiki_305 : decode cL_isWiki 305 = .ok (.imul, 1) := by decide +kernel
theorem dL_isWiki_306 : decode cL_isWiki 306 = .ok (.iconst 1, 1) := by decide +kernel
theorem dL_isWiki_307 : decode cL_isWiki 307 = .ok (.iadd, 1) := by decide +kernel
theorem dL_isWiki_308 : decode cL_isWiki 308 = .ok (.iaload, 1) := by decide +kernel
theorem dL_isWiki_309 : decode cL_isWiki 309 = .ok (.goto 4, 3) := by decide +kernel
theorem dL_isWiki_312 : decode cL_isWiki 312 = .ok (.iconst 0, 1) := by decide +kernel
theorem dL_isWiki_313 : decode cL_isWiki 313 = .ok (.iconst 0, 1) := by decide +kernel
theorem dL_isWiki_314 : decode cL_isWiki 314 = .ok (.invokestatic 132, 3) := by decide +kernel
theorem dL_isWiki_317 : decode cL_isWiki 317 = .ok (.iconst (-1), 1) := by decide +kernel
theorem dL_isWiki_318 : decode cL_isWiki 318 = .ok (.if_icmp .ne 77, 3) := by decide +kernel
theorem dL_isWiki_321 : decode cL_isWiki 321 = .ok (.iload 15, 2) := by decide +kernel
theorem dL_isWiki_323 : decode cL_isWiki 323 = .ok (.iconst 2, 1) := by decide +kernel
theorem dL_isWiki_324 : decode cL_isWiki 324 = .ok (.irem, 1) := by decide +kernel
theorem dL_isWiki_325 : decode cL_isWiki 325 = .ok (.iload 10, 2) := by decide +kernel
theorem dL_isWiki_327 : decode cL_isWiki 327 = .ok (.iconst 2, 1) := by decide +kernel
theorem dL_isWiki_328 : decode cL_isWiki 328 = .ok (.irem, 1) := by decide +kernel
theorem dL_isWiki_329 : decode cL_isWiki 329 = .ok (.if_icmp .ne 29, 3) := by decide +kernel
theorem dL_isWiki_332 : decode cL_isWiki 332 = .ok (.aload_n 0, 1) := by decide +kernel
theorem dL_isWiki_333 : decode cL_isWiki 333 = .ok (.bipush 9, 2) := by decide +kernel
theorem dL_isWiki_335 : decode cL_isWiki 335 = .ok (.iload 15, 2) := by decide +kernel
theorem dL_isWiki_337 : decode cL_isWiki 337 = .ok (.invokestatic 155, 3) := by decide +kernel
theorem dL_isWiki_340 : decode cL_isWiki 340 = .ok (.iload 19, 2) := by decide +kernel
theorem dL_isWiki_342 : decode cL_isWiki 342 = .ok (.ifCond .eq 11, 3) := by decide +kernel
theorem dL_isWiki_345 : decode cL_isWiki 345 = .ok (.aload 7, 2) := by decide +kernel
theorem dL_isWiki_347 : decode cL_isWiki 347 = .ok (.iload 15, 2) := by decide +kernel
theorem dL_isWiki_349 : decode cL_isWiki 349 = .ok (.laload, 1) := by decide +kernel
theorem dL_isWiki_350 : decode cL_isWiki 350 = .ok (.goto 4, 3) := by decide +kernel
theorem dL_isWiki_353 : decode cL_isWiki 353 = .ok (.lconst 1, 1) := by decide +kernel
theorem dL_isWiki_354 : decode cL_isWiki 354 = .ok (.lcmp, 1) := by decide +kernel
theorem dL_isWiki_355 : decode cL_isWiki 355 = .ok (.ifCond .ne 40, 3) := by decide +kernel
theorem dL_isWiki_358 : decode cL_isWiki 358 = .ok (.iload 15, 2) := by decide +kernel
theorem dL_isWiki_360 : decode cL_isWiki 360 = .ok (.iload 10, 2) := by decide +kernel
theorem dL_isWiki_362 : decode cL_isWiki 362 = .ok (.bipush 8, 2) := by decide +kernel
theorem dL_isWiki_364 : decode cL_isWiki 364 = .ok (.irem, 1) := by decide +kernel
theorem dL_isWiki_365 : decode cL_isWiki 365 = .ok (.if_icmp .ne 26, 3) := by decide +kernel
theorem dL_isWiki_368 : decode cL_isWiki 368 = .ok (.aload_n 0, 1) := by decide +kernel
theorem dL_isWiki_369 : decode cL_isWiki 369 = .ok (.aload_n 1, 1) := by decide +kernel
theorem dL_isWiki_370 : decode cL_isWiki 370 = .ok (.aload_n 2, 1) := by decide +kernel
theorem dL_isWiki_371 : decode cL_isWiki 371 = .ok (.aload_n 3, 1) := by decide +kernel
theorem dL_isWiki_372 : decode cL_isWiki 372 = .ok (.aload 4, 2) := by decide +kernel
theorem dL_isWiki_374 : decode cL_isWiki 374 = .ok (.aload 6, 2) := by decide +kernel
theorem dL_isWiki_376 : decode cL_isWiki 376 = .ok (.aload 11, 2) := by decide +kernel
theorem dL_isWiki_378 : decode cL_isWiki 378 = .ok (.iload 15, 2) := by decide +kernel
theorem dL_isWiki_380 : decode cL_isWiki 380 = .ok (.iload 10, 2) := by decide +kernel
theorem dL_isWiki_382 : decode cL_isWiki 382 = .ok (.bipush 8, 2) := by decide +kernel
theorem dL_isWiki_384 : decode cL_isWiki 384 = .ok (.idiv, 1) := by decide +kernel
theorem dL_isWiki_385 : decode cL_isWiki 385 = .ok (.invokestatic 159, 3) := by decide +kernel
theorem dL_isWiki_388 : decode cL_isWiki 388 = .ok (.ifCond .eq 7, 3) := by decide +kernel
theorem dL_isWiki_391 : decode cL_isWiki 391 = .ok (.iconst 1, 1) := by decide +kernel
theorem dL_isWiki_392 : decode cL_isWiki 392 = .ok (.goto 4, 3) := by decide +kernel
theorem dL_isWiki_395 : decode cL_isWiki 395 = .ok (.iconst 0, 1) := by decide +kernel
theorem dL_isWiki_396 : decode cL_isWiki 396 = .ok (.istore 12, 2) := by decide +kernel
theorem dL_isWiki_398 : decode cL_isWiki 398 = .ok (.iload 12, 2) := by decide +kernel
theorem dL_isWiki_400 : decode cL_isWiki 400 = .ok (.ifCond .eq 30, 3) := by decide +kernel
theorem dL_isWiki_403 : decode cL_isWiki 403 = .ok (.aload_n 0, 1) := by decide +kernel
theorem dL_isWiki_404 : decode cL_isWiki 404 = .ok (.iload 15, 2) := by decide +kernel
theorem dL_isWiki_406 : decode cL_isWiki 406 = .ok (.iconst 0, 1) := by decide +kernel
theorem dL_isWiki_407 : decode cL_isWiki 407 = .ok (.invokevirtual 97, 3) := by decide +kernel
theorem dL_isWiki_410 : decode cL_isWiki 410 = .ok (.aload 4, 2) := by decide +kernel
theorem dL_isWiki_412 : decode cL_isWiki 412 = .ok (.iload 16, 2) := by decide +kernel
theorem dL_isWiki_414 : decode cL_isWiki 414 = .ok (.laload, 1) := by decide +kernel
theorem dL_isWiki_415 : decode cL_isWiki 415 = .ok (.iconst 0, 1) := by decide +kernel
theorem dL_isWiki_416 : decode cL_isWiki 416 = .ok (.invokestatic 19, 3) := by decide +kernel
theorem dL_isWiki_419 : decode cL_isWiki 419 = .ok (.iconst 0, 1) := by decide +kernel
theorem dL_isWiki_420 : decode cL_isWiki 420 = .ok (.invokestatic 113, 3) := by decide +kernel
theorem dL_isWiki_423 : decode cL_isWiki 423 = .ok (.if_icmp .ne 7, 3) := by decide +kernel
theorem dL_isWiki_426 : decode cL_isWiki 426 = .ok (.iconst 1, 1) := by decide +kernel
theorem dL_isWiki_427 : decode cL_isWiki 427 = .ok (.goto 4, 3) := by decide +kernel
theorem dL_isWiki_430 : decode cL_isWiki 430 = .ok (.iconst 0, 1) := by decide +kernel
theorem dL_isWiki_431 : decode cL_isWiki 431 = .ok (.istore 12, 2) := by decide +kernel
theorem dL_isWiki_433 : decode cL_isWiki 433 = .ok (.iconst 0, 1) := by decide +kernel
theorem dL_isWiki_434 : decode cL_isWiki 434 = .ok (.istore 20, 2) := by decide +kernel
theorem dL_isWiki_436 : decode cL_isWiki 436 = .ok (.iload 20, 2) := by decide +kernel
theorem dL_isWiki_438 : decode cL_isWiki 438 = .ok (.bipush 8, 2) := by decide +kernel
theorem dL_isWiki_440 : decode cL_isWiki 440 = .ok (.if_icmp .ge 52, 3) := by decide +kernel
theorem dL_isWiki_443 : decode cL_isWiki 443 = .ok (.iload 14, 2) := by decide +kernel
theorem dL_isWiki_445 : decode cL_isWiki 445 = .ok (.iload 16, 2) := by decide +kernel
theorem dL_isWiki_447 : decode cL_isWiki 447 = .ok (.ifCond .ge 35, 3) := by decide +kernel
theorem dL_isWiki_450 : decode cL_isWiki 450 = .ok (.aload 6, 2) := by decide +kernel
theorem dL_isWiki_452 : decode cL_isWiki 452 = .ok (.bipush 7, 2) := by decide +kernel
theorem dL_isWiki_454 : decode cL_isWiki 454 = .ok (.iload 20, 2) := by decide +kernel
theorem dL_isWiki_456 : decode cL_isWiki 456 = .ok (.imul, 1) := by decide +kernel
theorem dL_isWiki_457 : decode cL_isWiki 457 = .ok (.iaload, 1) := by decide +kernel
theorem dL_isWiki_458 : decode cL_isWiki 458 = .ok (.ifCond .le 24, 3) := by decide +kernel
theorem dL_isWiki_461 : decode cL_isWiki 461 = .ok (.aload 6, 2) := by decide +kernel
theorem dL_isWiki_463 : decode cL_isWiki 463 = .ok (.bipush 7, 2) := by decide +kernel
theorem dL_isWiki_465 : decode cL_isWiki 465 = .ok (.iload 20, 2) := by decide +kernel
theorem dL_isWiki_467 : decode cL_isWiki 467 = .ok (.imul, 1) := by decide +kernel
theorem dL_isWiki_468 : decode cL_isWiki 468 = .ok (.iconst 2, 1) := by decide +kernel
theorem dL_isWiki_469 : decode cL_isWiki 469 = .ok (.iadd, 1) := by decide +kernel
theorem dL_isWiki_470 : decode cL_isWiki 470 = .ok (.iaload, 1) := by decide +kernel
theorem dL_isWiki_471 : decode cL_isWiki 471 = .ok (.iload 15, 2) := by decide +kernel
theorem dL_isWiki_473 : decode cL_isWiki 473 = .ok (.ishr, 1) := by decide +kernel
theorem dL_isWiki_474 : decode cL_isWiki 474 = .ok (.iconst 1, 1) := by decide +kernel
theorem dL_isWiki_475 : decode cL_isWiki 475 = .ok (.iand, 1) := by decide +kernel
theorem dL_isWiki_476 : decode cL_isWiki 476 = .ok (.iload 15, 2) := by decide +kernel
theorem dL_isWiki_478 : decode cL_isWiki 478 = .ok (.ishl, 1) := by decide +kernel
theorem dL_isWiki_479 : decode cL_isWiki 479 = .ok (.goto 4, 3) := by decide +kernel
theorem dL_isWiki_482 : decode cL_isWiki 482 = .ok (.iconst 0, 1) := by decide +kernel
theorem dL_isWiki_483 : decode cL_isWiki 483 = .ok (.ior, 1) := by decide +kernel
theorem dL_isWiki_484 : decode cL_isWiki 484 = .ok (.istore 14, 2) := by decide +kernel
theorem dL_isWiki_486 : decode cL_isWiki 486 = .ok (.iinc 20 1, 3) := by decide +kernel
theorem dL_isWiki_489 : decode cL_isWiki 489 = .ok (.goto (-53), 3) := by decide +kernel
theorem dL_isWiki_492 : decode cL_isWiki 492 = .ok (.iconst 0, 1) := by decide +kernel
theorem dL_isWiki_493 : decode cL_isWiki 493 = .ok (.istore 20, 2) := by decide +kernel
theorem dL_isWiki_495 : decode cL_isWiki 495 = .ok (.iload 20, 2) := by decide +kernel
theorem dL_isWiki_497 : decode cL_isWiki 497 = .ok (.iconst 2, 1) := by decide +kernel
theorem dL_isWiki_498 : decode cL_isWiki 498 = .ok (.if_icmp .ge 146, 3) := by decide +kernel
theorem dL_isWiki_501 : decode cL_isWiki 501 = .ok (.iload 12, 2) := by decide +kernel
theorem dL_isWiki_503 : decode cL_isWiki 503 = .ok (.ifCond .eq 141, 3) := by decide +kernel
theorem dL_isWiki_506 : decode cL_isWiki 506 = .ok (.aload 9, 2) := by decide +kernel
theorem dL_isWiki_508 : decode cL_isWiki 508 = .ok (.iload 15, 2) := by decide +kernel
theorem dL_isWiki_510 : decode cL_isWiki 510 = .ok (.bipush 8, 2) := by decide +kernel
theorem dL_isWiki_512 : decode cL_isWiki 512 = .ok (.iload 20, 2) := by decide +kernel
theorem dL_isWiki_514 : decode cL_isWiki 514 = .ok (.imul, 1) := by decide +kernel
theorem dL_isWiki_515 : decode cL_isWiki 515 = .ok (.iadd, 1) := by decide +kernel
theorem dL_isWiki_516 : decode cL_isWiki 516 = .ok (.iaload, 1) := by decide +kernel
theorem dL_isWiki_517 : decode cL_isWiki 517 = .ok (.istore 21, 2) := by decide +kernel
theorem dL_isWiki_519 : decode cL_isWiki 519 = .ok (.aload 9, 2) := by decide +kernel
theorem dL_isWiki_521 : decode cL_isWiki 521 = .ok (.iload 15, 2) := by decide +kernel
theorem dL_isWiki_523 : decode cL_isWiki 523 = .ok (.iaload, 1) := by decide +kernel
theorem dL_isWiki_524 : decode cL_isWiki 524 = .ok (.istore 22, 2) := by decide +kernel
theorem dL_isWiki_526 : decode cL_isWiki 526 = .ok (.iload 21, 2) := by decide +kernel
theorem dL_isWiki_528 : decode cL_isWiki 528 = .ok (.ifCond .le 19, 3) := by decide +kernel
theorem dL_isWiki_531 : decode cL_isWiki 531 = .ok (.aload_n 2, 1) := by decide +kernel
theorem dL_isWiki_532 : decode cL_isWiki 532 = .ok (.iload 21, 2) := by decide +kernel
theorem dL_isWiki_534 : decode cL_isWiki 534 = .ok (.iconst 1, 1) := by decide +kernel
theorem dL_isWiki_535 : decode cL_isWiki 535 = .ok (.isub, 1) := by decide +kernel
theorem dL_isWiki_536 : decode cL_isWiki 536 = .ok (.iaload, 1) := by decide +kernel
theorem dL_isWiki_537 : decode cL_isWiki 537 = .ok (.ifCond .le 10, 3) := by decide +kernel
theorem dL_isWiki_540 : decode cL_isWiki 540 = .ok (.iload 21, 2) := by decide +kernel
theorem dL_isWiki_542 : decode cL_isWiki 542 = .ok (.iconst 1, 1) := by decide +kernel
theorem dL_isWiki_543 : decode cL_isWiki 543 = .ok (.isub, 1) := by decide +kernel
theorem dL_isWiki_544 : decode cL_isWiki 544 = .ok (.goto 26, 3) := by decide +kernel
theorem dL_isWiki_547 : decode cL_isWiki 547 = .ok (.iload 22, 2) := by decide +kernel
theorem dL_isWiki_549 : decode cL_isWiki 549 = .ok (.ifCond .le 19, 3) := by decide +kernel
theorem dL_isWiki_552 : decode cL_isWiki 552 = .ok (.aload_n 2, 1) := by decide +kernel
theorem dL_isWiki_553 : decode cL_isWiki 553 = .ok (.iload 22, 2) := by decide +kernel
theorem dL_isWiki_555 : decode cL_isWiki 555 = .ok (.iconst 1, 1) := by decide +kernel
theorem dL_isWiki_556 : decode cL_isWiki 556 = .ok (.isub, 1) := by decide +kernel
theorem dL_isWiki_557 : decode cL_isWiki 557 = .ok (.iaload, 1) := by decide +kernel
theorem dL_isWiki_558 : decode cL_isWiki 558 = .ok (.ifCond .le 10, 3) := by decide +kernel
theorem dL_isWiki_561 : decode cL_isWiki 561 = .ok (.iload 22, 2) := by decide +kernel
theorem dL_isWiki_563 : decode cL_isWiki 563 = .ok (.iconst 1, 1) := by decide +kernel
theorem dL_isWiki_564 : decode cL_isWiki 564 = .ok (.isub, 1) := by decide +kernel
theorem dL_isWiki_565 : decode cL_isWiki 565 = .ok (.goto 5, 3) := by decide +kernel
theorem dL_isWiki_568 : decode cL_isWiki 568 = .ok (.iload 15, 2) := by decide +kernel
theorem dL_isWiki_570 : decode cL_isWiki 570 = .ok (.istore 23, 2) := by decide +kernel
theorem dL_isWiki_572 : decode cL_isWiki 572 = .ok (.aload_n 0, 1) := by decide +kernel
theorem dL_isWiki_573 : decode cL_isWiki 573 = .ok (.iload 15, 2) := by decide +kernel
theorem dL_isWiki_575 : decode cL_isWiki 575 = .ok (.iload 20, 2) := by decide +kernel
theorem dL_isWiki_577 : decode cL_isWiki 577 = .ok (.iconst 1, 1) := by decide +kernel
theorem dL_isWiki_578 : decode cL_isWiki 578 = .ok (.iadd, 1) := by decide +kernel
theorem dL_isWiki_579 : decode cL_isWiki 579 = .ok (.invokevirtual 163, 3) := by decide +kernel
theorem dL_isWiki_582 : decode cL_isWiki 582 = .ok (.iload 23, 2) := by decide +kernel
theorem dL_isWiki_584 : decode cL_isWiki 584 = .ok (.if_icmp .ne 51, 3) := by decide +kernel
theorem dL_isWiki_587 : decode cL_isWiki 587 = .ok (.aload_n 0, 1) := by decide +kernel
theorem dL_isWiki_588 : decode cL_isWiki 588 = .ok (.iload 15, 2) := by decide +kernel
theorem dL_isWiki_590 : decode cL_isWiki 590 = .ok (.iload 20, 2) := by decide +kernel
theorem dL_isWiki_592 : decode cL_isWiki 592 = .ok (.iconst 1, 1) := by decide +kernel
theorem dL_isWiki_593 : decode cL_isWiki 593 = .ok (.iadd, 1) := by decide +kernel
theorem dL_isWiki_594 : decode cL_isWiki 594 = .ok (.invokevirtual 166, 3) := by decide +kernel
theorem dL_isWiki_597 : decode cL_isWiki 597 = .ok (.iload 21, 2) := by decide +kernel
theorem dL_isWiki_599 : decode cL_isWiki 599 = .ok (.ifCond .le 28, 3) := by decide +kernel
theorem dL_isWiki_602 : decode cL_isWiki 602 = .ok (.aload 9, 2) := by decide +kernel
theorem dL_isWiki_604 : decode cL_isWiki 604 = .ok (.bipush 16, 2) := by decide +kernel
theorem dL_isWiki_606 : decode cL_isWiki 606 = .ok (.iload 15, 2) := by decide +kernel
theorem dL_isWiki_608 : decode cL_isWiki 608 = .ok (.iadd, 1) := by decide +kernel
theorem dL_isWiki_609 : decode cL_isWiki 609 = .ok (.bipush 8, 2) := by decide +kernel
theorem dL_isWiki_611 : decode cL_isWiki 611 = .ok (.iload 20, 2) := by decide +kernel
theorem dL_isWiki_613 : decode cL_isWiki 613 = .ok (.imul, 1) := by decide +kernel
theorem dL_isWiki_614 : decode cL_isWiki 614 = .ok (.iadd, 1) := by decide +kernel
theorem dL_isWiki_615 : decode cL_isWiki 615 = .ok (.iaload, 1) := by decide +kernel
theorem dL_isWiki_616 : decode cL_isWiki 616 = .ok (.iload 16, 2) := by decide +kernel
theorem dL_isWiki_618 : decode cL_isWiki 618 = .ok (.iconst 1, 1) := by decide +kernel
theorem dL_isWiki_619 : decode cL_isWiki 619 = .ok (.iadd, 1) := by decide +kernel
theorem dL_isWiki_620 : decode cL_isWiki 620 = .ok (.if_icmp .eq 7, 3) := by decide +kernel
theorem dL_isWiki_623 : decode cL_isWiki 623 = .ok (.iconst 1, 1) := by decide +kernel
theorem dL_isWiki_624 : decode cL_isWiki 624 = .ok (.goto 4, 3) := by decide +kernel
theorem dL_isWiki_627 : decode cL_isWiki 627 = .ok (.iconst 0, 1) := by decide +kernel
theorem dL_isWiki_628 : decode cL_isWiki 628 = .ok (.if_icmp .ne 7, 3) := by decide +kernel
theorem dL_isWiki_631 : decode cL_isWiki 631 = .ok (.iconst 1, 1) := by decide +kernel
theorem dL_isWiki_632 : decode cL_isWiki 632 = .ok (.goto 4, 3) := by decide +kernel
theorem dL_isWiki_635 : decode cL_isWiki 635 = .ok (.iconst 0, 1) := by decide +kernel
theorem dL_isWiki_636 : decode cL_isWiki 636 = .ok (.istore 12, 2) := by decide +kernel
theorem dL_isWiki_638 : decode cL_isWiki 638 = .ok (.iinc 20 1, 3) := by decide +kernel
theorem dL_isWiki_641 : decode cL_isWiki 641 = .ok (.goto (-146), 3) := by decide +kernel
theorem dL_isWiki_644 : decode cL_isWiki 644 = .ok (.iinc 15 1, 3) := by decide +kernel
theorem dL_isWiki_647 : decode cL_isWiki 647 = .ok (.goto (-615), 3) := by decide +kernel
theorem dL_isWiki_650 : decode cL_isWiki 650 = .ok (.iconst 0, 1) := by decide +kernel
theorem dL_isWiki_651 : decode cL_isWiki 651 = .ok (.istore 15, 2) := by decide +kernel
theorem dL_isWiki_653 : decode cL_isWiki 653 = .ok (.iload 15, 2) := by decide +kernel
theorem dL_isWiki_655 : decode cL_isWiki 655 = .ok (.bipush 8, 2) := by decide +kernel
theorem dL_isWiki_657 : decode cL_isWiki 657 = .ok (.if_icmp .ge 37, 3) := by decide +kernel
theorem dL_isWiki_660 : decode cL_isWiki 660 = .ok (.iload 12, 2) := by decide +kernel
theorem dL_isWiki_662 : decode cL_isWiki 662 = .ok (.ifCond .eq 32, 3) := by decide +kernel
theorem dL_isWiki_665 : decode cL_isWiki 665 = .ok (.aload_n 0, 1) := by decide +kernel
theorem dL_isWiki_666 : decode cL_isWiki 666 = .ok (.iload 15, 2) := by decide +kernel
theorem dL_isWiki_668 : decode cL_isWiki 668 = .ok (.invokevirtual 170, 3) := by decide +kernel
theorem dL_isWiki_671 : decode cL_isWiki 671 = .ok (.aload 6, 2) := by decide +kernel
theorem dL_isWiki_673 : decode cL_isWiki 673 = .ok (.iload 15, 2) := by decide +kernel
theorem dL_isWiki_675 : decode cL_isWiki 675 = .ok (.invokestatic 31, 3) := by decide +kernel
theorem dL_isWiki_678 : decode cL_isWiki 678 = .ok (.if_icmp .ne 7, 3) := by decide +kernel
