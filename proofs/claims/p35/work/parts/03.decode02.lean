theorem dX8_isText_30 : decode cX8_isText 30 = .ok (.iconst 0, 1) := by decide +kernel
theorem dX8_isText_31 : decode cX8_isText 31 = .ok (.istore_n 3, 1) := by decide +kernel
theorem dX8_isText_32 : decode cX8_isText 32 = .ok (.iload_n 3, 1) := by decide +kernel
theorem dX8_isText_33 : decode cX8_isText 33 = .ok (.aload_n 0, 1) := by decide +kernel
theorem dX8_isText_34 : decode cX8_isText 34 = .ok (.getfield 9, 3) := by decide +kernel
theorem dX8_isText_37 : decode cX8_isText 37 = .ok (.if_icmp .ge 95, 3) := by decide +kernel
theorem dX8_isText_40 : decode cX8_isText 40 = .ok (.aload_n 0, 1) := by decide +kernel
theorem dX8_isText_41 : decode cX8_isText 41 = .ok (.iload_n 3, 1) := by decide +kernel
theorem dX8_isText_42 : decode cX8_isText 42 = .ok (.invokevirtual 22, 3) := by decide +kernel
theorem dX8_isText_45 : decode cX8_isText 45 = .ok (.istore 4, 2) := by decide +kernel
theorem dX8_isText_47 : decode cX8_isText 47 = .ok (.iload_n 3, 1) := by decide +kernel
theorem dX8_isText_48 : decode cX8_isText 48 = .ok (.ifCond .le 20, 3) := by decide +kernel
theorem dX8_isText_51 : decode cX8_isText 51 = .ok (.aload_n 0, 1) := by decide +kernel
theorem dX8_isText_52 : decode cX8_isText 52 = .ok (.iload_n 3, 1) := by decide +kernel
theorem dX8_isText_53 : decode cX8_isText 53 = .ok (.iconst 1, 1) := by decide +kernel
theorem dX8_isText_54 : decode cX8_isText 54 = .ok (.isub, 1) := by decide +kernel
theorem dX8_isText_55 : decode cX8_isText 55 = .ok (.invokevirtual 22, 3) := by decide +kernel
theorem dX8_isText_58 : decode cX8_isText 58 = .ok (.invokestatic 40, 3) := by decide +kernel
theorem dX8_isText_61 : decode cX8_isText 61 = .ok (.ifCond .eq 7, 3) := by decide +kernel
theorem dX8_isText_64 : decode cX8_isText 64 = .ok (.iconst 1, 1) := by decide +kernel
theorem dX8_isText_65 : decode cX8_isText 65 = .ok (.goto 4, 3) := by decide +kernel
theorem dX8_isText_68 : decode cX8_isText 68 = .ok (.iconst 0, 1) := by decide +kernel
theorem dX8_isText_69 : decode cX8_isText 69 = .ok (.istore 5, 2) := by decide +kernel
theorem dX8_isText_71 : decode cX8_isText 71 = .ok (.aload_n 0, 1) := by decide +kernel
theorem dX8_isText_72 : decode cX8_isText 72 = .ok (.iload 4, 2) := by decide +kernel
theorem dX8_isText_74 : decode cX8_isText 74 = .ok (.aload_n 1, 1) := by decide +kernel
theorem dX8_isText_75 : decode cX8_isText 75 = .ok (.iload_n 2, 1) := by decide +kernel
theorem dX8_isText_76 : decode cX8_isText 76 = .ok (.iaload, 1) := by decide +kernel
theorem dX8_isText_77 : decode cX8_isText 77 = .ok (.iload 5, 2) := by decide +kernel
theorem dX8_isText_79 : decode cX8_isText 79 = .ok (.invokevirtual 44, 3) := by decide +kernel
theorem dX8_isText_82 : decode cX8_isText 82 = .ok (.ifCond .ne 5, 3) := by decide +kernel
theorem dX8_isText_85 : decode cX8_isText 85 = .ok (.iconst 0, 1) := by decide +kernel
theorem dX8_isText_86 : decode cX8_isText 86 = .ok (.ireturn, 1) := by decide +kernel
theorem dX8_isText_87 : decode cX8_isText 87 = .ok (.iload 4, 2) := by decide +kernel
theorem dX8_isText_89 : decode cX8_isText 89 = .ok (.invokestatic 40, 3) := by decide +kernel
theorem dX8_isText_92 : decode cX8_isText 92 = .ok (.ifCond .eq 20, 3) := by decide +kernel
theorem dX8_isText_95 : decode cX8_isText 95 = .ok (.iload_n 2, 1) := by decide +kernel
theorem dX8_isText_96 : decode cX8_isText 96 = .ok (.bipush 30, 2) := by decide +kernel
theorem dX8_isText_98 : decode cX8_isText 98 = .ok (.if_icmp .ge 14, 3) := by decide +kernel
theorem dX8_isText_101 : decode cX8_isText 101 = .ok (.iinc 2 1, 3) := by decide +kernel
theorem dX8_isText_104 : decode cX8_isText 104 = .ok (.aload_n 1, 1) := by decide +kernel
theorem dX8_isText_105 : decode cX8_isText 105 = .ok (.iload_n 2, 1) := by decide +kernel
theorem dX8_isText_106 : decode cX8_isText 106 = .ok (.iload 4, 2) := by decide +kernel
theorem dX8_isText_108 : decode cX8_isText 108 = .ok (.iastore, 1) := by decide +kernel
theorem dX8_isText_109 : decode cX8_isText 109 = .ok (.goto 17, 3) := by decide +kernel
theorem dX8_isText_112 : decode cX8_isText 112 = .ok (.iload 4, 2) := by decide +kernel
theorem dX8_isText_114 : decode cX8_isText 114 = .ok (.bipush 7, 2) := by decide +kernel
theorem dX8_isText_116 : decode cX8_isText 116 = .ok (.if_icmp .ne 10, 3) := by decide +kernel
theorem dX8_isText_119 : decode cX8_isText 119 = .ok (.iload_n 2, 1) := by decide +kernel
theorem dX8_isText_120 : decode cX8_isText 120 = .ok (.ifCond .le 6, 3) := by decide +kernel
theorem dX8_isText_123 : decode cX8_isText 123 = .ok (.iinc 2 (-1), 3) := by decide +kernel
theorem dX8_isText_126 : decode cX8_isText 126 = .ok (.iinc 3 1, 3) := by decide +kernel
theorem dX8_isText_129 : decode cX8_isText 129 = .ok (.goto (-97), 3) := by decide +kernel
theorem dX8_isText_132 : decode cX8_isText 132 = .ok (.iload_n 2, 1) := by decide +kernel
theorem dX8_isText_133 : decode cX8_isText 133 = .ok (.ifCond .ne 7, 3) := by decide +kernel
theorem dX8_isText_136 : decode cX8_isText 136 = .ok (.iconst 1, 1) := by decide +kernel
theorem dX8_isText_137 : decode cX8_isText 137 = .ok (.goto 4, 3) := by decide +kernel
theorem dX8_isText_140 : decode cX8_isText 140 = .ok (.iconst 0, 1) := by decide +kernel
theorem dX8_isText_141 : decode cX8_isText 141 = .ok (.ireturn, 1) := by decide +kernel
theorem dX8_fits_0 : decode cX8_fits 0 = .ok (.iload_n 2, 1) := by decide +kernel
theorem dX8_fits_1 : decode cX8_fits 1 = .ok (.bipush 10, 2) := by decide +kernel
theorem dX8_fits_3 : decode cX8_fits 3 = .ok (.if_icmp .ne 19, 3) := by decide +kernel
theorem dX8_fits_6 : decode cX8_fits 6 = .ok (.iload_n 1, 1) := by decide +kernel
theorem dX8_fits_7 : decode cX8_fits 7 = .ok (.ifCond .eq 9, 3) := by decide +kernel
theorem dX8_fits_10 : decode cX8_fits 10 = .ok (.iload_n 1, 1) := by decide +kernel
theorem dX8_fits_11 : decode cX8_fits 11 = .ok (.bipush 7, 2) := by decide +kernel
theorem dX8_fits_13 : decode cX8_fits 13 = .ok (.if_icmp .ne 7, 3) := by decide +kernel
theorem dX8_fits_16 : decode cX8_fits 16 = .ok (.iconst 1, 1) := by decide +kernel
theorem dX8_fits_17 : decode cX8_fits 17 = .ok (.goto 4, 3) := by decide +kernel
theorem dX8_fits_20 : decode cX8_fits 20 = .ok (.iconst 0, 1) := by decide +kernel
theorem dX8_fits_21 : decode cX8_fits 21 = .ok (.ireturn, 1) := by decide +kernel
theorem dX8_fits_22 : decode cX8_fits 22 = .ok (.iload_n 2, 1) := by decide +kernel
theorem dX8_fits_23 : decode cX8_fits 23 = .ok (.iconst 2, 1) := by decide +kernel
theorem dX8_fits_24 : decode cX8_fits 24 = .ok (.if_icmp .eq 8, 3) := by decide +kernel
theorem dX8_fits_27 : decode cX8_fits 27 = .ok (.iload_n 2, 1) := by decide +kernel
theorem dX8_fits_28 : decode cX8_fits 28 = .ok (.iconst 4, 1) := by decide +kernel
theorem dX8_fits_29 : decode cX8_fits 29 = .ok (.if_icmp .ne 7, 3) := by decide +kernel
theorem dX8_fits_32 : decode cX8_fits 32 = .ok (.iconst 1, 1) := by decide +kernel
theorem dX8_fits_33 : decode cX8_fits 33 = .ok (.goto 4, 3) := by decide +kernel
theorem dX8_fits_36 : decode cX8_fits 36 = .ok (.iconst 0, 1) := by decide +kernel
theorem dX8_fits_37 : decode cX8_fits 37 = .ok (.istore 4, 2) := by decide +kernel
theorem dX8_fits_39 : decode cX8_fits 39 = .ok (.iload_n 1, 1) := by decide +kernel
theorem dX8_fits_40 : decode cX8_fits 40 = .ok (.tableswitch 102 5 13 #[52, 55, 66, 102, 102, 102, 102, 88, 77], 52) := by decide +kernel
theorem dX8_fits_92 : decode cX8_fits 92 = .ok (.iload 4, 2) := by decide +kernel
theorem dX8_fits_94 : decode cX8_fits 94 = .ok (.ireturn, 1) := by decide +kernel
theorem dX8_fits_95 : decode cX8_fits 95 = .ok (.iload_n 2, 1) := by decide +kernel
theorem dX8_fits_96 : decode cX8_fits 96 = .ok (.iconst 2, 1) := by decide +kernel
theorem dX8_fits_97 : decode cX8_fits 97 = .ok (.if_icmp .ne 7, 3) := by decide +kernel
theorem dX8_fits_100 : decode cX8_fits 100 = .ok (.iconst 1, 1) := by decide +kernel
theorem dX8_fits_101 : decode cX8_fits 101 = .ok (.goto 4, 3) := by decide +kernel
theorem dX8_fits_104 : decode cX8_fits 104 = .ok (.iconst 0, 1) := by decide +kernel
theorem dX8_fits_105 : decode cX8_fits 105 = .ok (.ireturn, 1) := by decide +kernel
theorem dX8_fits_106 : decode cX8_fits 106 = .ok (.iload_n 2, 1) := by decide +kernel
theorem dX8_fits_107 : decode cX8_fits 107 = .ok (.iconst (-1), 1) := by decide +kernel
theorem dX8_fits_108 : decode cX8_fits 108 = .ok (.if_icmp .eq 7, 3) := by decide +kernel
theorem dX8_fits_111 : decode cX8_fits 111 = .ok (.iconst 1, 1) := by decide +kernel
theorem dX8_fits_112 : decode cX8_fits 112 = .ok (.goto 4, 3) := by decide +kernel
theorem dX8_fits_115 : decode cX8_fits 115 = .ok (.iconst 0, 1) := by decide +kernel
theorem dX8_fits_116 : decode cX8_fits 116 = .ok (.ireturn, 1) := by decide +kernel
theorem dX8_fits_117 : decode cX8_fits 117 = .ok (.iload_n 2, 1) := by decide +kernel
theorem dX8_fits_118 : decode cX8_fits 118 = .ok (.iconst (-1), 1) := by decide +kernel
theorem dX8_fits_119 : decode cX8_fits 119 = .ok (.if_icmp .ne 7, 3) := by decide +kernel
theorem dX8_fits_122 : decode cX8_fits 122 = .ok (.iconst 1, 1) := by decide +kernel
theorem dX8_fits_123 : decode cX8_fits 123 = .ok (.goto 4, 3) := by decide +kernel
theorem dX8_fits_126 : decode cX8_fits 126 = .ok (.iconst 0, 1) := by decide +kernel
theorem dX8_fits_127 : decode cX8_fits 127 = .ok (.ireturn, 1) := by decide +kernel
theorem dX8_fits_128 : decode cX8_fits 128 = .ok (.aload_n 0, 1) := by decide +kernel
theorem dX8_fits_129 : decode cX8_fits 129 = .ok (.getfield 9, 3) := by decide +kernel
theorem dX8_fits_132 : decode cX8_fits 132 = .ok (.iconst 1, 1) := by decide +kernel
theorem dX8_fits_133 : decode cX8_fits 133 = .ok (.if_icmp .ne 7, 3) := by decide +kernel
theorem dX8_fits_136 : decode cX8_fits 136 = .ok (.iconst 1, 1) := by decide +kernel
theorem dX8_fits_137 : decode cX8_fits 137 = .ok (.goto 4, 3) := by decide +kernel
theorem dX8_fits_140 : decode cX8_fits 140 = .ok (.iconst 0, 1) := by decide +kernel
theorem dX8_fits_141 : decode cX8_fits 141 = .ok (.ireturn, 1) := by decide +kernel
theorem dX8_fits_142 : decode cX8_fits 142 = .ok (.iload 4, 2) := by decide +kernel
theorem dX8_fits_144 : decode cX8_fits 144 = .ok (.ifCond .eq 7, 3) := by decide +kernel
theorem dX8_fits_147 : decode cX8_fits 147 = .ok (.iload_n 3, 1) := by decide +kernel
theorem dX8_fits_148 : decode cX8_fits 148 = .ok (.ifCond .ne 7, 3) := by decide +kernel
theorem dX8_fits_151 : decode cX8_fits 151 = .ok (.iconst 1, 1) := by decide +kernel
theorem dX8_fits_152 : decode cX8_fits 152 = .ok (.goto 4, 3) := by decide +kernel
theorem dX8_fits_155 : decode cX8_fits 155 = .ok (.iconst 0, 1) := by decide +kernel
theorem dX8_fits_156 : decode cX8_fits 156 = .ok (.ireturn, 1) := by decide +kernel
theorem dX8_settled_0 : decode cX8_settled 0 = .ok (.new 10, 3) := by decide +kernel
theorem dX8_settled_3 : decode cX8_settled 3 = .ok (.dup, 1) := by decide +kernel
theorem dX8_settled_4 : decode cX8_settled 4 = .ok (.aload_n 0, 1) := by decide +kernel
theorem dX8_settled_5 : decode cX8_settled 5 = .ok (.getfield 9, 3) := by decide +kernel
theorem dX8_settled_8 : decode cX8_settled 8 = .ok (.invokespecial 48, 3) := by decide +kernel
theorem dX8_settled_11 : decode cX8_settled 11 = .ok (.astore_n 1, 1) := by decide +kernel
theorem dX8_settled_12 : decode cX8_settled 12 = .ok (.aload_n 1, 1) := by decide +kernel
theorem dX8_settled_13 : decode cX8_settled 13 = .ok (.aload_n 0, 1) := by decide +kernel
theorem dX8_settled_14 : decode cX8_settled 14 = .ok (.iconst 0, 1) := by decide +kernel
theorem dX8_settled_15 : decode cX8_settled 15 = .ok (.aload_n 0, 1) := by decide +kernel
theorem dX8_settled_16 : decode cX8_settled 16 = .ok (.getfield 9, 3) := by decide +kernel
theorem dX8_settled_19 : decode cX8_settled 19 = .ok (.invokevirtual 36, 3) := by decide +kernel
theorem dX8_settled_22 : decode cX8_settled 22 = .ok (.iconst 0, 1) := by decide +kernel
theorem dX8_settled_23 : decode cX8_settled 23 = .ok (.istore_n 2, 1) := by decide +kernel
theorem dX8_settled_24 : decode cX8_settled 24 = .ok (.iload_n 2, 1) := by decide +kernel
theorem dX8_settled_25 : decode cX8_settled 25 = .ok (.aload_n 1, 1) := by decide +kernel
theorem dX8_settled_26 : decode cX8_settled 26 = .ok (.getfield 19, 3) := by decide +kernel
theorem dX8_settled_29 : decode cX8_settled 29 = .ok (.arraylength, 1) := by decide +kernel
theorem dX8_settled_30 : decode cX8_settled 30 = .ok (.if_icmp .ge 20, 3) := by decide +kernel
theorem dX8_settled_33 : decode cX8_settled 33 = .ok (.aload_n 1, 1) := by decide +kernel
theorem dX8_settled_34 : decode cX8_settled 34 = .ok (.getfield 19, 3) := by decide +kernel
theorem dX8_settled_37 : decode cX8_settled 37 = .ok (.iload_n 2, 1) := by decide +kernel
theorem dX8_settled_38 : decode cX8_settled 38 = .ok (.aload_n 1, 1) := by decide +kernel
theorem dX8_settled_39 : decode cX8_settled 39 = .ok (.iload_n 2, 1) := by decide +kernel
theorem dX8_settled_40 : decode cX8_settled 40 = .ok (.invokevirtual 50, 3) := by decide +kernel
theorem dX8_settled_43 : decode cX8_settled 43 = .ok (.iastore, 1) := by decide +kernel
theorem dX8_settled_44 : decode cX8_settled 44 = .ok (.iinc 2 1, 3) := by decide +kernel
theorem dX8_settled_47 : decode cX8_settled 47 = .ok (.goto (-23), 3) := by decide +kernel
theorem dX8_settled_50 : decode cX8_settled 50 = .ok (.aload_n 1, 1) := by decide +kernel
theorem dX8_settled_51 : decode cX8_settled 51 = .ok (.areturn, 1) := by decide +kernel
theorem dX8_findEnd_0 : decode cX8_findEnd 0 = .ok (.aload_n 0, 1) := by decide +kernel
theorem dX8_findEnd_1 : decode cX8_findEnd 1 = .ok (.iload_n 1, 1) := by decide +kernel
theorem dX8_findEnd_2 : decode cX8_findEnd 2 = .ok (.invokevirtual 53, 3) := by decide +kernel
theorem dX8_findEnd_5 : decode cX8_findEnd 5 = .ok (.istore_n 2, 1) := by decide +kernel
theorem dX8_findEnd_6 : decode cX8_findEnd 6 = .ok (.iconst 0, 1) := by decide +kernel
theorem dX8_findEnd_7 : decode cX8_findEnd 7 = .ok (.istore_n 3, 1) := by decide +kernel
theorem dX8_findEnd_8 : decode cX8_findEnd 8 = .ok (.iload_n 1, 1) := by decide +kernel
theorem dX8_findEnd_9 : decode cX8_findEnd 9 = .ok (.iconst 1, 1) := by decide +kernel
theorem dX8_findEnd_10 : decode cX8_findEnd 10 = .ok (.iadd, 1) := by decide +kernel
theorem dX8_findEnd_11 : decode cX8_findEnd 11 = .ok (.istore 4, 2) := by decide +kernel
theorem dX8_findEnd_13 : decode cX8_findEnd 13 = .ok (.iload 4, 2) := by decide +kernel
theorem dX8_findEnd_15 : decode cX8_findEnd 15 = .ok (.aload_n 0, 1) := by decide +kernel
theorem dX8_findEnd_16 : decode cX8_findEnd 16 = .ok (.getfield 9, 3) := by decide +kernel
theorem dX8_findEnd_19 : decode cX8_findEnd 19 = .ok (.if_icmp .ge 68, 3) := by decide +kernel
theorem dX8_findEnd_22 : decode cX8_findEnd 22 = .ok (.aload_n 0, 1) := by decide +kernel
theorem dX8_findEnd_23 : decode cX8_findEnd 23 = .ok (.iload 4, 2) := by decide +kernel
theorem dX8_findEnd_25 : decode cX8_findEnd 25 = .ok (.invokevirtual 22, 3) := by decide +kernel
theorem dX8_findEnd_28 : decode cX8_findEnd 28 = .ok (.istore 5, 2) := by decide +kernel
theorem dX8_findEnd_30 : decode cX8_findEnd 30 = .ok (.iload_n 3, 1) := by decide +kernel
theorem dX8_findEnd_31 : decode cX8_findEnd 31 = .ok (.ifCond .ne 26, 3) := by decide +kernel
theorem dX8_findEnd_34 : decode cX8_findEnd 34 = .ok (.iload 5, 2) := by decide +kernel
theorem dX8_findEnd_36 : decode cX8_findEnd 36 = .ok (.bipush 7, 2) := by decide +kernel
theorem dX8_findEnd_38 : decode cX8_findEnd 38 = .ok (.if_icmp .eq 16, 3) := by decide +kernel
theorem dX8_findEnd_41 : decode cX8_findEnd 41 = .ok (.iload_n 2, 1) := by decide +kernel
theorem dX8_findEnd_42 : decode cX8_findEnd 42 = .ok (.ifCond .eq 15, 3) := by decide +kernel
theorem dX8_findEnd_45 : decode cX8_findEnd 45 = .ok (.aload_n 0, 1) := by decide +kernel
theorem dX8_findEnd_46 : decode cX8_findEnd 46 = .ok (.iload 4, 2) := by decide +kernel
theorem dX8_findEnd_48 : decode cX8_findEnd 48 = .ok (.invokevirtual 53, 3) := by decide +kernel
theorem dX8_findEnd_51 : decode cX8_findEnd 51 = .ok (.ifCond .eq 6, 3) := by decide +kernel
theorem dX8_findEnd_54 : decode cX8_findEnd 54 = .ok (.iload 4, 2) := by decide +kernel
theorem dX8_findEnd_56 : decode cX8_findEnd 56 = .ok (.ireturn, 1) := by decide +kernel
theorem dX8_findEnd_57 : decode cX8_findEnd 57 = .ok (.iload 5, 2) := by decide +kernel
theorem dX8_findEnd_59 : decode cX8_findEnd 59 = .ok (.invokestatic 40, 3) := by decide +kernel
theorem dX8_findEnd_62 : decode cX8_findEnd 62 = .ok (.ifCond .eq 9, 3) := by decide +kernel
theorem dX8_findEnd_65 : decode cX8_findEnd 65 = .ok (.iinc 3 1, 3) := by decide +kernel
theorem dX8_findEnd_68 : decode cX8_findEnd 68 = .ok (.goto 13, 3) := by decide +kernel
theorem dX8_findEnd_71 : decode cX8_findEnd 71 = .ok (.iload 5, 2) := by decide +kernel
theorem dX8_findEnd_73 : decode cX8_findEnd 73 = .ok (.bipush 7, 2) := by decide +kernel
theorem dX8_findEnd_75 : decode cX8_findEnd 75 = .ok (.if_icmp .ne 6, 3) := by decide +kernel
theorem dX8_findEnd_78 : decode cX8_findEnd 78 = .ok (.iinc 3 (-1), 3) := by decide +kernel
theorem dX8_findEnd_81 : decode cX8_findEnd 81 = .ok (.iinc 4 1, 3) := by decide +kernel
theorem dX8_findEnd_84 : decode cX8_findEnd 84 = .ok (.goto (-71), 3) := by decide +kernel
theorem dX8_findEnd_87 : decode cX8_findEnd 87 = .ok (.aload_n 0, 1) := by decide +kernel
theorem dX8_findEnd_88 : decode cX8_findEnd 88 = .ok (.getfield 9, 3) := by decide +kernel
theorem dX8_findEnd_91 : decode cX8_findEnd 91 = .ok (.ireturn, 1) := by decide +kernel
theorem dX8_leadsInto_0 : decode cX8_leadsInto 0 = .ok (.aload_n 0, 1) := by decide +kernel
theorem dX8_leadsInto_1 : decode cX8_leadsInto 1 = .ok (.iload_n 1, 1) := by decide +kernel
theorem dX8_leadsInto_2 : decode cX8_leadsInto 2 = .ok (.invokevirtual 22, 3) := by decide +kernel
theorem dX8_leadsInto_5 : decode cX8_leadsInto 5 = .ok (.istore_n 3, 1) := by decide +kernel
theorem dX8_leadsInto_6 : decode cX8_leadsInto 6 = .ok (.iload_n 3, 1) := by decide +kernel
theorem dX8_leadsInto_7 : decode cX8_leadsInto 7 = .ok (.iconst 1, 1) := by decide +kernel
theorem dX8_leadsInto_8 : decode cX8_leadsInto 8 = .ok (.if_icmp .eq 14, 3) := by decide +kernel
theorem dX8_leadsInto_11 : decode cX8_leadsInto 11 = .ok (.iload_n 3, 1) := by decide +kernel
theorem dX8_leadsInto_12 : decode cX8_leadsInto 12 = .ok (.iconst 2, 1) := by decide +kernel
theorem dX8_leadsInto_13 : decode cX8_leadsInto 13 = .ok (.if_icmp .eq 9, 3) := by decide +kernel
theorem dX8_leadsInto_16 : decode cX8_leadsInto 16 = .ok (.iload_n 3, 1) := by decide +kernel
theorem dX8_leadsInto_17 : decode cX8_leadsInto 17 = .ok (.bipush 12, 2) := by decide +kernel
theorem dX8_leadsInto_19 : decode cX8_leadsInto 19 = .ok (.if_icmp .ne 19, 3) := by decide +kernel
theorem dX8_leadsInto_22 : decode cX8_leadsInto 22 = .ok (.iload_n 2, 1) := by decide +kernel
theorem dX8_leadsInto_23 : decode cX8_leadsInto 23 = .ok (.aload_n 0, 1) := by decide +kernel
theorem dX8_leadsInto_24 : decode cX8_leadsInto 24 = .ok (.iload_n 1, 1) := by decide +kernel
theorem dX8_leadsInto_25 : decode cX8_leadsInto 25 = .ok (.invokevirtual 56, 3) := by decide +kernel
theorem dX8_leadsInto_28 : decode cX8_leadsInto 28 = .ok (.invokestatic 59, 3) := by decide +kernel
theorem dX8_leadsInto_31 : decode cX8_leadsInto 31 = .ok (.ifCond .eq 7, 3) := by decide +kernel
theorem dX8_leadsInto_34 : decode cX8_leadsInto 34 = .ok (.iconst 1, 1) := by decide +kernel
theorem dX8_leadsInto_35 : decode cX8_leadsInto 35 = .ok (.goto 4, 3) := by decide +kernel
theorem dX8_leadsInto_38 : decode cX8_leadsInto 38 = .ok (.iconst 0, 1) := by decide +kernel
theorem dX8_leadsInto_39 : decode cX8_leadsInto 39 = .ok (.ireturn, 1) := by decide +kernel
theorem dX8_leadsInto__0 : decode cX8_leadsInto_ 0 = .ok (.iconst 0, 1) := by decide +kernel
theorem dX8_leadsInto__1 : decode cX8_leadsInto_ 1 = .ok (.istore_n 2, 1) := by decide +kernel
theorem dX8_leadsInto__2 : decode cX8_leadsInto_ 2 = .ok (.iload_n 2, 1) := by decide +kernel
theorem dX8_leadsInto__3 : decode cX8_leadsInto_ 3 = .ok (.aload_n 0, 1) := by decide +kernel
theorem dX8_leadsInto__4 : decode cX8_leadsInto_ 4 = .ok (.getfield 9, 3) := by decide +kernel
theorem dX8_leadsInto__7 : decode cX8_leadsInto_ 7 = .ok (.if_icmp .ge 20, 3) := by decide +kernel
theorem dX8_leadsInto__10 : decode cX8_leadsInto_ 10 = .ok (.aload_n 0, 1) := by decide +kernel
theorem dX8_leadsInto__11 : decode cX8_leadsInto_ 11 = .ok (.iload_n 2, 1) := by decide +kernel
theorem dX8_leadsInto__12 : decode cX8_leadsInto_ 12 = .ok (.iload_n 1, 1) := by decide +kernel
theorem dX8_leadsInto__13 : decode cX8_leadsInto_ 13 = .ok (.invokevirtual 63, 3) := by decide +kernel
theorem dX8_leadsInto__16 : decode cX8_leadsInto_ 16 = .ok (.ifCond .eq 5, 3) := by decide +kernel
theorem dX8_leadsInto__19 : decode cX8_leadsInto_ 19 = .ok (.iconst 1, 1) := by decide +kernel
theorem dX8_leadsInto__20 : decode cX8_leadsInto_ 20 = .ok (.ireturn, 1) := by decide +kernel
theorem dX8_leadsInto__21 : decode cX8_leadsInto_ 21 = .ok (.iinc 2 1, 3) := by decide +kernel
theorem dX8_leadsInto__24 : decode cX8_leadsInto_ 24 = .ok (.goto (-22), 3) := by decide +kernel
theorem dX8_leadsInto__27 : decode cX8_leadsInto_ 27 = .ok (.iconst 0, 1) := by decide +kernel
theorem dX8_leadsInto__28 : decode cX8_leadsInto_ 28 = .ok (.ireturn, 1) := by decide +kernel
theorem dX8_writeLeadingOn_0 : decode cX8_writeLeadingOn 0 = .ok (.aload_n 3, 1) := by decide +kernel
theorem dX8_writeLeadingOn_1 : decode cX8_writeLeadingOn 1 = .ok (.invokevirtual 66, 3) := by decide +kernel
theorem dX8_writeLeadingOn_4 : decode cX8_writeLeadingOn 4 = .ok (.iconst 0, 1) := by decide +kernel
theorem dX8_writeLeadingOn_5 : decode cX8_writeLeadingOn 5 = .ok (.istore 4, 2) := by decide +kernel
theorem dX8_writeLeadingOn_7 : decode cX8_writeLeadingOn 7 = .ok (.iload 4, 2) := by decide +kernel
theorem dX8_writeLeadingOn_9 : decode cX8_writeLeadingOn 9 = .ok (.aload_n 0, 1) := by decide +kernel
theorem dX8_writeLeadingOn_10 : decode cX8_writeLeadingOn 10 = .ok (.getfield 9, 3) := by decide +kernel
theorem dX8_writeLeadingOn_13 : decode cX8_writeLeadingOn 13 = .ok (.if_icmp .ge 40, 3) := by decide +kernel
theorem dX8_writeLeadingOn_16 : decode cX8_writeLeadingOn 16 = .ok (.aload_n 3, 1) := by decide +kernel
theorem dX8_writeLeadingOn_17 : decode cX8_writeLeadingOn 17 = .ok (.aload_n 0, 1) := by decide +kernel
theorem dX8_writeLeadingOn_18 : decode cX8_writeLeadingOn 18 = .ok (.iload 4, 2) := by decide +kernel
theorem dX8_writeLeadingOn_20 : decode cX8_writeLeadingOn 20 = .ok (.iload_n 1, 1) := by decide +kernel
theorem dX8_writeLeadingOn_21 : decode cX8_writeLeadingOn 21 = .ok (.invokevirtual 63, 3) := by decide +kernel
theorem dX8_writeLeadingOn_24 : decode cX8_writeLeadingOn 24 = .ok (.ifCond .eq 14, 3) := by decide +kernel
theorem dX8_writeLeadingOn_27 : decode cX8_writeLeadingOn 27 = .ok (.aload_n 0, 1) := by decide +kernel
theorem dX8_writeLeadingOn_28 : decode cX8_writeLeadingOn 28 = .ok (.iload 4, 2) := by decide +kernel
theorem dX8_writeLeadingOn_30 : decode cX8_writeLeadingOn 30 = .ok (.invokevirtual 26, 3) := by decide +kernel
theorem dX8_writeLeadingOn_33 : decode cX8_writeLeadingOn 33 = .ok (.iload_n 2, 1) := by decide +kernel
theorem dX8_writeLeadingOn_34 : decode cX8_writeLeadingOn 34 = .ok (.iadd, 1) := by decide +kernel
theorem dX8_writeLeadingOn_35 : decode cX8_writeLeadingOn 35 = .ok (.goto 9, 3) := by decide +kernel
theorem dX8_writeLeadingOn_38 : decode cX8_writeLeadingOn 38 = .ok (.aload_n 0, 1) := by decide +kernel
theorem dX8_writeLeadingOn_39 : decode cX8_writeLeadingOn 39 = .ok (.iload 4, 2) := by decide +kernel
theorem dX8_writeLeadingOn_41 : decode cX8_writeLeadingOn 41 = .ok (.invokevirtual 26, 3) := by decide +kernel
theorem dX8_writeLeadingOn_44 : decode cX8_writeLeadingOn 44 = .ok (.invokevirtual 29, 3) := by decide +kernel
theorem dX8_writeLeadingOn_47 : decode cX8_writeLeadingOn 47 = .ok (.iinc 4 1, 3) := by decide +kernel
theorem dX8_writeLeadingOn_50 : decode cX8_writeLeadingOn 50 = .ok (.goto (-43), 3) := by decide +kernel
theorem dX8_writeLeadingOn_53 : decode cX8_writeLeadingOn 53 = .ok (.return_, 1) := by decide +kernel
theorem dX9_init_0 : decode cX9_init 0 = .ok (.aload_n 0, 1) := by decide +kernel
theorem dX9_init_1 : decode cX9_init 1 = .ok (.invokespecial 3, 3) := by decide +kernel
theorem dX9_init_4 : decode cX9_init 4 = .ok (.aload_n 0, 1) := by decide +kernel
theorem dX9_init_5 : decode cX9_init 5 = .ok (.new 9, 3) := by decide +kernel
theorem dX9_init_8 : decode cX9_init 8 = .ok (.dup, 1) := by decide +kernel
theorem dX9_init_9 : decode cX9_init 9 = .ok (.invokespecial 11, 3) := by decide +kernel
theorem dX9_init_12 : decode cX9_init 12 = .ok (.putfield 12, 3) := by decide +kernel
theorem dX9_init_15 : decode cX9_init 15 = .ok (.aload_n 0, 1) := by decide +kernel
theorem dX9_init_16 : decode cX9_init 16 = .ok (.iconst 3, 1) := by decide +kernel
theorem dX9_init_17 : decode cX9_init 17 = .ok (.newarray .int, 2) := by decide +kernel
theorem dX9_init_19 : decode cX9_init 19 = .ok (.dup, 1) := by decide +kernel
theorem dX9_init_20 : decode cX9_init 20 = .ok (.iconst 0, 1) := by decide +kernel
theorem dX9_init_21 : decode cX9_init 21 = .ok (.iconst (-1), 1) := by decide +kernel
theorem dX9_init_22 : decode cX9_init 22 = .ok (.iastore, 1) := by decide +kernel
theorem dX9_init_23 : decode cX9_init 23 = .ok (.dup, 1) := by decide +kernel
theorem dX9_init_24 : decode cX9_init 24 = .ok (.iconst 1, 1) := by decide +kernel
theorem dX9_init_25 : decode cX9_init 25 = .ok (.iconst (-1), 1) := by decide +kernel
theorem dX9_init_26 : decode cX9_init 26 = .ok (.iastore, 1) := by decide +kernel
theorem dX9_init_27 : decode cX9_init 27 = .ok (.dup, 1) := by decide +kernel
theorem dX9_init_28 : decode cX9_init 28 = .ok (.iconst 2, 1) := by decide +kernel
theorem dX9_init_29 : decode cX9_init 29 = .ok (.iconst (-1), 1) := by decide +kernel
theorem dX9_init_30 : decode cX9_init 30 = .ok (.iastore, 1) := by decide +kernel
theorem dX9_init_31 : decode cX9_init 31 = .ok (.putfield 18, 3) := by decide +kernel
theorem dX9_init_34 : decode cX9_init 34 = .ok (.aload_n 0, 1) := by decide +kernel
theorem dX9_init_35 : decode cX9_init 35 = .ok (.iconst 3, 1) := by decide +kernel
theorem dX9_init_36 : decode cX9_init 36 = .ok (.newarray .int, 2) := by decide +kernel
theorem dX9_init_38 : decode cX9_init 38 = .ok (.dup, 1) := by decide +kernel
theorem dX9_init_39 : decode cX9_init 39 = .ok (.iconst 0, 1) := by decide +kernel
theorem dX9_init_40 : decode cX9_init 40 = .ok (.iconst (-1), 1) := by decide +kernel
theorem dX9_init_41 : decode cX9_init 41 = .ok (.iastore, 1) := by decide +kernel
theorem dX9_init_42 : decode cX9_init 42 = .ok (.dup, 1) := by decide +kernel
theorem dX9_init_43 : decode cX9_init 43 = .ok (.iconst 1, 1) := by decide +kernel
theorem dX9_init_44 : decode cX9_init 44 = .ok (.iconst (-1), 1) := by decide +kernel
theorem dX9_init_45 : decode cX9_init 45 = .ok (.iastore, 1) := by decide +kernel
theorem dX9_init_46 : decode cX9_init 46 = .ok (.dup, 1) := by decide +kernel
theorem dX9_init_47 : decode cX9_init 47 = .ok (.iconst 2, 1) := by decide +kernel
theorem dX9_init_48 : decode cX9_init 48 = .ok (.iconst (-1), 1) := by decide +kernel
theorem dX9_init_49 : decode cX9_init 49 = .ok (.iastore, 1) := by decide +kernel
theorem dX9_init_50 : decode cX9_init 50 = .ok (.putfield 22, 3) := by decide +kernel
theorem dX9_init_53 : decode cX9_init 53 = .ok (.aload_n 0, 1) := by decide +kernel
theorem dX9_init_54 : decode cX9_init 54 = .ok (.aconst_null, 1) := by decide +kernel
theorem dX9_init_55 : decode cX9_init 55 = .ok (.putfield 25, 3) := by decide +kernel
theorem dX9_init_58 : decode cX9_init 58 = .ok (.aload_n 0, 1) := by decide +kernel
theorem dX9_init_59 : decode cX9_init 59 = .ok (.iconst 0, 1) := by decide +kernel
theorem dX9_init_60 : decode cX9_init 60 = .ok (.putfield 29, 3) := by decide +kernel
theorem dX9_init_63 : decode cX9_init 63 = .ok (.aload_n 0, 1) := by decide +kernel
theorem dX9_init_64 : decode cX9_init 64 = .ok (.iconst 0, 1) := by decide +kernel
theorem dX9_init_65 : decode cX9_init 65 = .ok (.putfield 33, 3) := by decide +kernel
theorem dX9_init_68 : decode cX9_init 68 = .ok (.return_, 1) := by decide +kernel
theorem dX9_waits_0 : decode cX9_waits 0 = .ok (.aload_n 0, 1) := by decide +kernel
theorem dX9_waits_1 : decode cX9_waits 1 = .ok (.getfield 25, 3) := by decide +kernel
theorem dX9_waits_4 : decode cX9_waits 4 = .ok (.ifnull 27, 3) := by decide +kernel
theorem dX9_waits_7 : decode cX9_waits 7 = .ok (.aload_n 0, 1) := by decide +kernel
theorem dX9_waits_8 : decode cX9_waits 8 = .ok (.getfield 12, 3) := by decide +kernel
theorem dX9_waits_11 : decode cX9_waits 11 = .ok (.getfield 36, 3) := by decide +kernel
theorem dX9_waits_14 : decode cX9_waits 14 = .ok (.ifCond .eq 13, 3) := by decide +kernel
theorem dX9_waits_17 : decode cX9_waits 17 = .ok (.aload_n 0, 1) := by decide +kernel
theorem dX9_waits_18 : decode cX9_waits 18 = .ok (.getfield 12, 3) := by decide +kernel
theorem dX9_waits_21 : decode cX9_waits 21 = .ok (.getfield 40, 3) := by decide +kernel
theorem dX9_waits_24 : decode cX9_waits 24 = .ok (.ifCond .eq 7, 3) := by decide +kernel
theorem dX9_waits_27 : decode cX9_waits 27 = .ok (.iconst 1, 1) := by decide +kernel
theorem dX9_waits_28 : decode cX9_waits 28 = .ok (.goto 4, 3) := by decide +kernel
theorem dX9_waits_31 : decode cX9_waits 31 = .ok (.iconst 0, 1) := by decide +kernel
theorem dX9_waits_32 : decode cX9_waits 32 = .ok (.ireturn, 1) := by decide +kernel
theorem dX10_init_0 : decode cX10_init 0 = .ok (.aload_n 0, 1) := by decide +kernel
theorem dX10_init_1 : decode cX10_init 1 = .ok (.invokespecial 1, 3) := by decide +kernel
theorem dX10_init_4 : decode cX10_init 4 = .ok (.aload_n 0, 1) := by decide +kernel
theorem dX10_init_5 : decode cX10_init 5 = .ok (.iload_n 1, 1) := by decide +kernel
theorem dX10_init_6 : decode cX10_init 6 = .ok (.putfield 7, 3) := by decide +kernel
theorem dX10_init_9 : decode cX10_init 9 = .ok (.aload_n 0, 1) := by decide +kernel
theorem dX10_init_10 : decode cX10_init 10 = .ok (.iload_n 2, 1) := by decide +kernel
theorem dX10_init_11 : decode cX10_init 11 = .ok (.putfield 13, 3) := by decide +kernel
theorem dX10_init_14 : decode cX10_init 14 = .ok (.aload_n 0, 1) := by decide +kernel
theorem dX10_init_15 : decode cX10_init 15 = .ok (.aload_n 3, 1) := by decide +kernel
theorem dX10_init_16 : decode cX10_init 16 = .ok (.putfield 16, 3) := by decide +kernel
theorem dX10_init_19 : decode cX10_init 19 = .ok (.return_, 1) := by decide +kernel
theorem dX11_init_0 : decode cX11_init 0 = .ok (.aload_n 0, 1) := by decide +kernel
theorem dX11_init_1 : decode cX11_init 1 = .ok (.invokespecial 1, 3) := by decide +kernel
theorem dX11_init_4 : decode cX11_init 4 = .ok (.aload_n 0, 1) := by decide +kernel
theorem dX11_init_5 : decode cX11_init 5 = .ok (.new 7, 3) := by decide +kernel
theorem dX11_init_8 : decode cX11_init 8 = .ok (.dup, 1) := by decide +kernel
theorem dX11_init_9 : decode cX11_init 9 = .ok (.invokespecial 9, 3) := by decide +kernel
theorem dX11_init_12 : decode cX11_init 12 = .ok (.putfield 10, 3) := by decide +kernel
theorem dX11_init_15 : decode cX11_init 15 = .ok (.aload_n 0, 1) := by decide +kernel
theorem dX11_init_16 : decode cX11_init 16 = .ok (.aload_n 0, 1) := by decide +kernel
theorem dX11_init_17 : decode cX11_init 17 = .ok (.getfield 10, 3) := by decide +kernel
theorem dX11_init_20 : decode cX11_init 20 = .ok (.getfield 16, 3) := by decide +kernel
theorem dX11_init_23 : decode cX11_init 23 = .ok (.putfield 20, 3) := by decide +kernel
theorem dX11_init_26 : decode cX11_init 26 = .ok (.aload_n 0, 1) := by decide +kernel
theorem dX11_init_27 : decode cX11_init 27 = .ok (.aload_n 0, 1) := by decide +kernel
theorem dX11_init_28 : decode cX11_init 28 = .ok (.getfield 10, 3) := by decide +kernel
theorem dX11_init_31 : decode cX11_init 31 = .ok (.getfield 21, 3) := by decide +kernel
theorem dX11_init_34 : decode cX11_init 34 = .ok (.putfield 25, 3) := by decide +kernel
theorem dX11_init_37 : decode cX11_init 37 = .ok (.aload_n 0, 1) := by decide +kernel
theorem dX11_init_38 : decode cX11_init 38 = .ok (.new 26, 3) := by decide +kernel
theorem dX11_init_41 : decode cX11_init 41 = .ok (.dup, 1) := by decide +kernel
theorem dX11_init_42 : decode cX11_init 42 = .ok (.bipush 30, 2) := by decide +kernel
theorem dX11_init_44 : decode cX11_init 44 = .ok (.invokespecial 28, 3) := by decide +kernel
theorem dX11_init_47 : decode cX11_init 47 = .ok (.putfield 31, 3) := by decide +kernel
theorem dX11_init_50 : decode cX11_init 50 = .ok (.aload_n 0, 1) := by decide +kernel
theorem dX11_init_51 : decode cX11_init 51 = .ok (.new 26, 3) := by decide +kernel
theorem dX11_init_54 : decode cX11_init 54 = .ok (.dup, 1) := by decide +kernel
theorem dX11_init_55 : decode cX11_init 55 = .ok (.bipush 60, 2) := by decide +kernel
theorem dX11_init_57 : decode cX11_init 57 = .ok (.invokespecial 28, 3) := by decide +kernel
theorem dX11_init_60 : decode cX11_init 60 = .ok (.putfield 35, 3) := by decide +kernel
theorem dX11_init_63 : decode cX11_init 63 = .ok (.aload_n 0, 1) := by decide +kernel
theorem dX11_init_64 : decode cX11_init 64 = .ok (.new 26, 3) := by decide +kernel
theorem dX11_init_67 : decode cX11_init 67 = .ok (.dup, 1) := by decide +kernel
theorem dX11_init_68 : decode cX11_init 68 = .ok (.bipush 90, 2) := by decide +kernel
theorem dX11_init_70 : decode cX11_init 70 = .ok (.invokespecial 28, 3) := by decide +kernel
theorem dX11_init_73 : decode cX11_init 73 = .ok (.putfield 38, 3) := by decide +kernel
theorem dX11_init_76 : decode cX11_init 76 = .ok (.aload_n 0, 1) := by decide +kernel
theorem dX11_init_77 : decode cX11_init 77 = .ok (.iconst 0, 1) := by decide +kernel
theorem dX11_init_78 : decode cX11_init 78 = .ok (.putfield 41, 3) := by decide +kernel
theorem dX11_init_81 : decode cX11_init 81 = .ok (.aload_n 0, 1) := by decide +kernel
theorem dX11_init_82 : decode cX11_init 82 = .ok (.iconst 0, 1) := by decide +kernel
theorem dX11_init_83 : decode cX11_init 83 = .ok (.putfield 45, 3) := by decide +kernel
theorem dX11_init_86 : decode cX11_init 86 = .ok (.aload_n 0, 1) := by decide +kernel
theorem dX11_init_87 : decode cX11_init 87 = .ok (.iconst 0, 1) := by decide +kernel
theorem dX11_init_88 : decode cX11_init 88 = .ok (.putfield 48, 3) := by decide +kernel
theorem dX11_init_91 : decode cX11_init 91 = .ok (.aload_n 0, 1) := by decide +kernel
theorem dX11_init_92 : decode cX11_init 92 = .ok (.iconst 0, 1) := by decide +kernel
theorem dX11_init_93 : decode cX11_init 93 = .ok (.putfield 51, 3) := by decide +kernel
theorem dX11_init_96 : decode cX11_init 96 = .ok (.return_, 1) := by decide +kernel
theorem dX11_token_0 : decode cX11_token 0 = .ok (.aload_n 0, 1) := by decide +kernel
theorem dX11_token_1 : decode cX11_token 1 = .ok (.getstatic 54, 3) := by decide +kernel
theorem dX11_token_4 : decode cX11_token 4 = .ok (.iload_n 1, 1) := by decide +kernel
theorem dX11_token_5 : decode cX11_token 5 = .ok (.iload_n 2, 1) := by decide +kernel
theorem dX11_token_6 : decode cX11_token 6 = .ok (.invokevirtual 58, 3) := by decide +kernel
theorem dX11_token_9 : decode cX11_token 9 = .ok (.ifCond .ne 13, 3) := by decide +kernel
theorem dX11_token_12 : decode cX11_token 12 = .ok (.new 62, 3) := by decide +kernel
theorem dX11_token_15 : decode cX11_token 15 = .ok (.dup, 1) := by decide +kernel
theorem dX11_token_16 : decode cX11_token 16 = .ok (.ldc 64, 2) := by decide +kernel
theorem dX11_token_18 : decode cX11_token 18 = .ok (.invokespecial 66, 3) := by decide +kernel
theorem dX11_token_21 : decode cX11_token 21 = .ok (.athrow, 1) := by decide +kernel
theorem dX11_token_22 : decode cX11_token 22 = .ok (.aload_n 0, 1) := by decide +kernel
theorem dX11_token_23 : decode cX11_token 23 = .ok (.getfield 31, 3) := by decide +kernel
theorem dX11_token_26 : decode cX11_token 26 = .ok (.getfield 69, 3) := by decide +kernel
theorem dX11_token_29 : decode cX11_token 29 = .ok (.bipush 30, 2) := by decide +kernel
theorem dX11_token_31 : decode cX11_token 31 = .ok (.if_icmp .lt 13, 3) := by decide +kernel
theorem dX11_token_34 : decode cX11_token 34 = .ok (.new 72, 3) := by decide +kernel
theorem dX11_token_37 : decode cX11_token 37 = .ok (.dup, 1) := by decide +kernel
theorem dX11_token_38 : decode cX11_token 38 = .ok (.ldc 74, 2) := by decide +kernel
theorem dX11_token_40 : decode cX11_token 40 = .ok (.invokespecial 76, 3) := by decide +kernel
theorem dX11_token_43 : decode cX11_token 43 = .ok (.athrow, 1) := by decide +kernel
theorem dX11_token_44 : decode cX11_token 44 = .ok (.aload_n 0, 1) := by decide +kernel
theorem dX11_token_45 : decode cX11_token 45 = .ok (.getfield 31, 3) := by decide +kernel
theorem dX11_token_48 : decode cX11_token 48 = .ok (.iload_n 1, 1) := by decide +kernel
theorem dX11_token_49 : decode cX11_token 49 = .ok (.sipush 1000, 3) := by decide +kernel
theorem dX11_token_52 : decode cX11_token 52 = .ok (.imul, 1) := by decide +kernel
theorem dX11_token_53 : decode cX11_token 53 = .ok (.iload_n 2, 1) := by decide +kernel
theorem dX11_token_54 : decode cX11_token 54 = .ok (.iadd, 1) := by decide +kernel
theorem dX11_token_55 : decode cX11_token 55 = .ok (.invokevirtual 77, 3) := by decide +kernel
theorem dX11_token_58 : decode cX11_token 58 = .ok (.aload_n 0, 1) := by decide +kernel
theorem dX11_token_59 : decode cX11_token 59 = .ok (.getfield 31, 3) := by decide +kernel
theorem dX11_token_62 : decode cX11_token 62 = .ok (.getfield 69, 3) := by decide +kernel
theorem dX11_token_65 : decode cX11_token 65 = .ok (.ireturn, 1) := by decide +kernel
theorem dX11_wipe_0 : decode cX11_wipe 0 = .ok (.aload_n 0, 1) := by decide +kernel
theorem dX11_wipe_1 : decode cX11_wipe 1 = .ok (.getfield 31, 3) := by decide +kernel
theorem dX11_wipe_4 : decode cX11_wipe 4 = .ok (.getfield 69, 3) := by decide +kernel
theorem dX11_wipe_7 : decode cX11_wipe 7 = .ok (.istore_n 1, 1) := by decide +kernel
theorem dX11_wipe_8 : decode cX11_wipe 8 = .ok (.aload_n 0, 1) := by decide +kernel
theorem dX11_wipe_9 : decode cX11_wipe 9 = .ok (.getfield 31, 3) := by decide +kernel
theorem dX11_wipe_12 : decode cX11_wipe 12 = .ok (.invokevirtual 80, 3) := by decide +kernel
theorem dX11_wipe_15 : decode cX11_wipe 15 = .ok (.iload_n 1, 1) := by decide +kernel
theorem dX11_wipe_16 : decode cX11_wipe 16 = .ok (.ireturn, 1) := by decide +kernel
theorem dX11_create_0 : decode cX11_create 0 = .ok (.aload_n 0, 1) := by decide +kernel
theorem dX11_create_1 : decode cX11_create 1 = .ok (.iload_n 1, 1) := by decide +kernel
theorem dX11_create_2 : decode cX11_create 2 = .ok (.invokevirtual 85, 3) := by decide +kernel
theorem dX11_create_5 : decode cX11_create 5 = .ok (.astore_n 2, 1) := by decide +kernel
theorem dX11_create_6 : decode cX11_create 6 = .ok (.aload_n 2, 1) := by decide +kernel
theorem dX11_create_7 : decode cX11_create 7 = .ok (.getfield 102, 3) := by decide +kernel
theorem dX11_create_10 : decode cX11_create 10 = .ok (.ifnonnull 30, 3) := by decide +kernel
theorem dX11_create_13 : decode cX11_create 13 = .ok (.aload_n 0, 1) := by decide +kernel
theorem dX11_create_14 : decode cX11_create 14 = .ok (.aload_n 2, 1) := by decide +kernel
theorem dX11_create_15 : decode cX11_create 15 = .ok (.invokevirtual 91, 3) := by decide +kernel
theorem dX11_create_18 : decode cX11_create 18 = .ok (.ifCond .eq 22, 3) := by decide +kernel
theorem dX11_create_21 : decode cX11_create 21 = .ok (.aload_n 0, 1) := by decide +kernel
theorem dX11_create_22 : decode cX11_create 22 = .ok (.getfield 31, 3) := by decide +kernel
theorem dX11_create_25 : decode cX11_create 25 = .ok (.invokevirtual 106, 3) := by decide +kernel
theorem dX11_create_28 : decode cX11_create 28 = .ok (.ifCond .eq 12, 3) := by decide +kernel
theorem dX11_create_31 : decode cX11_create 31 = .ok (.aload_n 0, 1) := by decide +kernel
theorem dX11_create_32 : decode cX11_create 32 = .ok (.getfield 45, 3) := by decide +kernel
theorem dX11_create_35 : decode cX11_create 35 = .ok (.bipush 120, 2) := by decide +kernel
theorem dX11_create_37 : decode cX11_create 37 = .ok (.if_icmp .lt 13, 3) := by decide +kernel
theorem dX11_create_40 : decode cX11_create 40 = .ok (.new 72, 3) := by decide +kernel
theorem dX11_create_43 : decode cX11_create 43 = .ok (.dup, 1) := by decide +kernel
theorem dX11_create_44 : decode cX11_create 44 = .ok (.ldc 110, 2) := by decide +kernel
theorem dX11_create_46 : decode cX11_create 46 = .ok (.invokespecial 76, 3) := by decide +kernel
theorem dX11_create_49 : decode cX11_create 49 = .ok (.athrow, 1) := by decide +kernel
theorem dX11_create_50 : decode cX11_create 50 = .ok (.aload_n 0, 1) := by decide +kernel
theorem dX11_create_51 : decode cX11_create 51 = .ok (.iload_n 1, 1) := by decide +kernel
theorem dX11_create_52 : decode cX11_create 52 = .ok (.aload_n 0, 1) := by decide +kernel
theorem dX11_create_53 : decode cX11_create 53 = .ok (.getfield 31, 3) := by decide +kernel
theorem dX11_create_56 : decode cX11_create 56 = .ok (.invokevirtual 112, 3) := by decide +kernel
theorem dX11_create_59 : decode cX11_create 59 = .ok (.istore_n 3, 1) := by decide +kernel
theorem dX11_create_60 : decode cX11_create 60 = .ok (.aload_n 0, 1) := by decide +kernel
theorem dX11_create_61 : decode cX11_create 61 = .ok (.getfield 31, 3) := by decide +kernel
theorem dX11_create_64 : decode cX11_create 64 = .ok (.invokevirtual 80, 3) := by decide +kernel
theorem dX11_create_67 : decode cX11_create 67 = .ok (.iload_n 3, 1) := by decide +kernel
theorem dX11_create_68 : decode cX11_create 68 = .ok (.ireturn, 1) := by decide +kernel
theorem dX11_edit_0 : decode cX11_edit 0 = .ok (.aload_n 0, 1) := by decide +kernel
theorem dX11_edit_1 : decode cX11_edit 1 = .ok (.iload_n 1, 1) := by decide +kernel
theorem dX11_edit_2 : decode cX11_edit 2 = .ok (.invokevirtual 116, 3) := by decide +kernel
theorem dX11_edit_5 : decode cX11_edit 5 = .ok (.astore 4, 2) := by decide +kernel
theorem dX11_edit_7 : decode cX11_edit 7 = .ok (.aload 4, 2) := by decide +kernel
theorem dX11_edit_9 : decode cX11_edit 9 = .ok (.iload_n 2, 1) := by decide +kernel
theorem dX11_edit_10 : decode cX11_edit 10 = .ok (.invokevirtual 120, 3) := by decide +kernel
theorem dX11_edit_13 : decode cX11_edit 13 = .ok (.istore 5, 2) := by decide +kernel
theorem dX11_edit_15 : decode cX11_edit 15 = .ok (.aload 4, 2) := by decide +kernel
theorem dX11_edit_17 : decode cX11_edit 17 = .ok (.iload 5, 2) := by decide +kernel
theorem dX11_edit_19 : decode cX11_edit 19 = .ok (.invokevirtual 126, 3) := by decide +kernel
theorem dX11_edit_22 : decode cX11_edit 22 = .ok (.astore 6, 2) := by decide +kernel
theorem dX11_edit_24 : decode cX11_edit 24 = .ok (.aload 6, 2) := by decide +kernel
theorem dX11_edit_26 : decode cX11_edit 26 = .ok (.ifnull 20, 3) := by decide +kernel
theorem dX11_edit_29 : decode cX11_edit 29 = .ok (.iload_n 3, 1) := by decide +kernel
theorem dX11_edit_30 : decode cX11_edit 30 = .ok (.iconst (-1), 1) := by decide +kernel
theorem dX11_edit_31 : decode cX11_edit 31 = .ok (.if_icmp .lt 15, 3) := by decide +kernel
theorem dX11_edit_34 : decode cX11_edit 34 = .ok (.iload_n 3, 1) := by decide +kernel
theorem dX11_edit_35 : decode cX11_edit 35 = .ok (.aload 6, 2) := by decide +kernel
theorem dX11_edit_37 : decode cX11_edit 37 = .ok (.getfield 130, 3) := by decide +kernel
theorem dX11_edit_40 : decode cX11_edit 40 = .ok (.invokevirtual 135, 3) := by decide +kernel
theorem dX11_edit_43 : decode cX11_edit 43 = .ok (.if_icmp .lt 13, 3) := by decide +kernel
theorem dX11_edit_46 : decode cX11_edit 46 = .ok (.new 139, 3) := by decide +kernel
theorem dX11_edit_49 : decode cX11_edit 49 = .ok (.dup, 1) := by decide +kernel
theorem dX11_edit_50 : decode cX11_edit 50 = .ok (.ldc 141, 2) := by decide +kernel
theorem dX11_edit_52 : decode cX11_edit 52 = .ok (.invokespecial 143, 3) := by decide +kernel
theorem dX11_edit_55 : decode cX11_edit 55 = .ok (.athrow, 1) := by decide +kernel
theorem dX11_edit_56 : decode cX11_edit 56 = .ok (.aload_n 0, 1) := by decide +kernel
theorem dX11_edit_57 : decode cX11_edit 57 = .ok (.getfield 35, 3) := by decide +kernel
theorem dX11_edit_60 : decode cX11_edit 60 = .ok (.astore 7, 2) := by decide +kernel
theorem dX11_edit_62 : decode cX11_edit 62 = .ok (.aload_n 0, 1) := by decide +kernel
theorem dX11_edit_63 : decode cX11_edit 63 = .ok (.aload 6, 2) := by decide +kernel
theorem dX11_edit_65 : decode cX11_edit 65 = .ok (.getfield 130, 3) := by decide +kernel
theorem dX11_edit_68 : decode cX11_edit 68 = .ok (.iload_n 3, 1) := by decide +kernel
theorem dX11_edit_69 : decode cX11_edit 69 = .ok (.invokevirtual 144, 3) := by decide +kernel
theorem dX11_edit_72 : decode cX11_edit 72 = .ok (.aload_n 0, 1) := by decide +kernel
theorem dX11_edit_73 : decode cX11_edit 73 = .ok (.aload_n 0, 1) := by decide +kernel
theorem dX11_edit_74 : decode cX11_edit 74 = .ok (.getfield 20, 3) := by decide +kernel
theorem dX11_edit_77 : decode cX11_edit 77 = .ok (.iload_n 1, 1) := by decide +kernel
theorem dX11_edit_78 : decode cX11_edit 78 = .ok (.aaload, 1) := by decide +kernel
theorem dX11_edit_79 : decode cX11_edit 79 = .ok (.invokevirtual 91, 3) := by decide +kernel
theorem dX11_edit_82 : decode cX11_edit 82 = .ok (.ifCond .eq 16, 3) := by decide +kernel
theorem dX11_edit_85 : decode cX11_edit 85 = .ok (.aload_n 0, 1) := by decide +kernel
theorem dX11_edit_86 : decode cX11_edit 86 = .ok (.getfield 45, 3) := by decide +kernel
theorem dX11_edit_89 : decode cX11_edit 89 = .ok (.bipush 120, 2) := by decide +kernel
theorem dX11_edit_91 : decode cX11_edit 91 = .ok (.if_icmp .ge 7, 3) := by decide +kernel
theorem dX11_edit_94 : decode cX11_edit 94 = .ok (.iconst 1, 1) := by decide +kernel
theorem dX11_edit_95 : decode cX11_edit 95 = .ok (.goto 4, 3) := by decide +kernel
theorem dX11_edit_98 : decode cX11_edit 98 = .ok (.iconst 0, 1) := by decide +kernel
theorem dX11_edit_99 : decode cX11_edit 99 = .ok (.istore 8, 2) := by decide +kernel
theorem dX11_edit_101 : decode cX11_edit 101 = .ok (.iload 8, 2) := by decide +kernel
theorem dX11_edit_103 : decode cX11_edit 103 = .ok (.ifCond .eq 43, 3) := by decide +kernel
theorem dX11_edit_106 : decode cX11_edit 106 = .ok (.aload 6, 2) := by decide +kernel
theorem dX11_edit_108 : decode cX11_edit 108 = .ok (.aload 4, 2) := by decide +kernel
theorem dX11_edit_110 : decode cX11_edit 110 = .ok (.getfield 148, 3) := by decide +kernel
theorem dX11_edit_113 : decode cX11_edit 113 = .ok (.if_acmp .eq 33, 3) := by decide +kernel
theorem dX11_edit_116 : decode cX11_edit 116 = .ok (.aload_n 0, 1) := by decide +kernel
theorem dX11_edit_117 : decode cX11_edit 117 = .ok (.getfield 38, 3) := by decide +kernel
theorem dX11_edit_120 : decode cX11_edit 120 = .ok (.astore 7, 2) := by decide +kernel
theorem dX11_edit_122 : decode cX11_edit 122 = .ok (.aload_n 0, 1) := by decide +kernel
theorem dX11_edit_123 : decode cX11_edit 123 = .ok (.aload 6, 2) := by decide +kernel
theorem dX11_edit_125 : decode cX11_edit 125 = .ok (.getfield 130, 3) := by decide +kernel
theorem dX11_edit_128 : decode cX11_edit 128 = .ok (.aload_n 0, 1) := by decide +kernel
theorem dX11_edit_129 : decode cX11_edit 129 = .ok (.getfield 35, 3) := by decide +kernel
theorem dX11_edit_132 : decode cX11_edit 132 = .ok (.aload 4, 2) := by decide +kernel
theorem dX11_edit_134 : decode cX11_edit 134 = .ok (.getfield 148, 3) := by decide +kernel
theorem dX11_edit_137 : decode cX11_edit 137 = .ok (.getfield 130, 3) := by decide +kernel
theorem dX11_edit_140 : decode cX11_edit 140 = .ok (.iconst 1, 1) := by decide +kernel
theorem dX11_edit_141 : decode cX11_edit 141 = .ok (.invokevirtual 152, 3) := by decide +kernel
theorem dX11_edit_144 : decode cX11_edit 144 = .ok (.istore 8, 2) := by decide +kernel
theorem dX11_edit_146 : decode cX11_edit 146 = .ok (.iload 8, 2) := by decide +kernel
theorem dX11_edit_148 : decode cX11_edit 148 = .ok (.ifCond .eq 27, 3) := by decide +kernel
theorem dX11_edit_151 : decode cX11_edit 151 = .ok (.aload 7, 2) := by decide +kernel
theorem dX11_edit_153 : decode cX11_edit 153 = .ok (.invokevirtual 106, 3) := by decide +kernel
theorem dX11_edit_156 : decode cX11_edit 156 = .ok (.ifCond .eq 19, 3) := by decide +kernel
theorem dX11_edit_159 : decode cX11_edit 159 = .ok (.aload 7, 2) := by decide +kernel
theorem dX11_edit_161 : decode cX11_edit 161 = .ok (.aload 4, 2) := by decide +kernel
theorem dX11_edit_163 : decode cX11_edit 163 = .ok (.getfield 148, 3) := by decide +kernel
theorem dX11_edit_166 : decode cX11_edit 166 = .ok (.getfield 130, 3) := by decide +kernel
theorem dX11_edit_169 : decode cX11_edit 169 = .ok (.invokevirtual 156, 3) := by decide +kernel
theorem dX11_edit_172 : decode cX11_edit 172 = .ok (.ifCond .eq 13, 3) := by decide +kernel
theorem dX11_edit_175 : decode cX11_edit 175 = .ok (.new 72, 3) := by decide +kernel
theorem dX11_edit_178 : decode cX11_edit 178 = .ok (.dup, 1) := by decide +kernel
theorem dX11_edit_179 : decode cX11_edit 179 = .ok (.ldc 160, 2) := by decide +kernel
theorem dX11_edit_181 : decode cX11_edit 181 = .ok (.invokespecial 76, 3) := by decide +kernel
theorem dX11_edit_184 : decode cX11_edit 184 = .ok (.athrow, 1) := by decide +kernel
theorem dX11_edit_185 : decode cX11_edit 185 = .ok (.aload_n 0, 1) := by decide +kernel
theorem dX11_edit_186 : decode cX11_edit 186 = .ok (.iload_n 1, 1) := by decide +kernel
theorem dX11_edit_187 : decode cX11_edit 187 = .ok (.aload 4, 2) := by decide +kernel
theorem dX11_edit_189 : decode cX11_edit 189 = .ok (.aload 7, 2) := by decide +kernel
theorem dX11_edit_191 : decode cX11_edit 191 = .ok (.invokevirtual 162, 3) := by decide +kernel
theorem dX11_edit_194 : decode cX11_edit 194 = .ok (.istore 9, 2) := by decide +kernel
theorem dX11_edit_196 : decode cX11_edit 196 = .ok (.aload_n 0, 1) := by decide +kernel
theorem dX11_edit_197 : decode cX11_edit 197 = .ok (.getfield 31, 3) := by decide +kernel
theorem dX11_edit_200 : decode cX11_edit 200 = .ok (.invokevirtual 80, 3) := by decide +kernel
theorem dX11_edit_203 : decode cX11_edit 203 = .ok (.iload 9, 2) := by decide +kernel
theorem dX11_edit_205 : decode cX11_edit 205 = .ok (.ireturn, 1) := by decide +kernel
theorem dX11_undo_0 : decode cX11_undo 0 = .ok (.aload_n 0, 1) := by decide +kernel
theorem dX11_undo_1 : decode cX11_undo 1 = .ok (.iload_n 1, 1) := by decide +kernel
theorem dX11_undo_2 : decode cX11_undo 2 = .ok (.invokevirtual 116, 3) := by decide +kernel
theorem dX11_undo_5 : decode cX11_undo 5 = .ok (.astore_n 3, 1) := by decide +kernel
theorem dX11_undo_6 : decode cX11_undo 6 = .ok (.aload_n 3, 1) := by decide +kernel
theorem dX11_undo_7 : decode cX11_undo 7 = .ok (.iload_n 2, 1) := by decide +kernel
theorem dX11_undo_8 : decode cX11_undo 8 = .ok (.invokevirtual 120, 3) := by decide +kernel
theorem dX11_undo_11 : decode cX11_undo 11 = .ok (.istore 4, 2) := by decide +kernel
theorem dX11_undo_13 : decode cX11_undo 13 = .ok (.aload_n 3, 1) := by decide +kernel
theorem dX11_undo_14 : decode cX11_undo 14 = .ok (.iload 4, 2) := by decide +kernel
theorem dX11_undo_16 : decode cX11_undo 16 = .ok (.invokevirtual 126, 3) := by decide +kernel
theorem dX11_undo_19 : decode cX11_undo 19 = .ok (.astore 5, 2) := by decide +kernel
theorem dX11_undo_21 : decode cX11_undo 21 = .ok (.aload_n 3, 1) := by decide +kernel
theorem dX11_undo_22 : decode cX11_undo 22 = .ok (.iload 4, 2) := by decide +kernel
theorem dX11_undo_24 : decode cX11_undo 24 = .ok (.iconst 1, 1) := by decide +kernel
theorem dX11_undo_25 : decode cX11_undo 25 = .ok (.isub, 1) := by decide +kernel
theorem dX11_undo_26 : decode cX11_undo 26 = .ok (.invokevirtual 126, 3) := by decide +kernel
theorem dX11_undo_29 : decode cX11_undo 29 = .ok (.astore 6, 2) := by decide +kernel
theorem dX11_undo_31 : decode cX11_undo 31 = .ok (.aload 5, 2) := by decide +kernel
theorem dX11_undo_33 : decode cX11_undo 33 = .ok (.ifnull 8, 3) := by decide +kernel
theorem dX11_undo_36 : decode cX11_undo 36 = .ok (.aload 6, 2) := by decide +kernel
theorem dX11_undo_38 : decode cX11_undo 38 = .ok (.ifnonnull 13, 3) := by decide +kernel
theorem dX11_undo_41 : decode cX11_undo 41 = .ok (.new 139, 3) := by decide +kernel
theorem dX11_undo_44 : decode cX11_undo 44 = .ok (.dup, 1) := by decide +kernel
theorem dX11_undo_45 : decode cX11_undo 45 = .ok (.ldc 166, 2) := by decide +kernel
theorem dX11_undo_47 : decode cX11_undo 47 = .ok (.invokespecial 143, 3) := by decide +kernel
theorem dX11_undo_50 : decode cX11_undo 50 = .ok (.athrow, 1) := by decide +kernel
theorem dX11_undo_51 : decode cX11_undo 51 = .ok (.aload_n 0, 1) := by decide +kernel
theorem dX11_undo_52 : decode cX11_undo 52 = .ok (.aload_n 0, 1) := by decide +kernel
theorem dX11_undo_53 : decode cX11_undo 53 = .ok (.getfield 20, 3) := by decide +kernel
theorem dX11_undo_56 : decode cX11_undo 56 = .ok (.iload_n 1, 1) := by decide +kernel
theorem dX11_undo_57 : decode cX11_undo 57 = .ok (.aaload, 1) := by decide +kernel
theorem dX11_undo_58 : decode cX11_undo 58 = .ok (.invokevirtual 91, 3) := by decide +kernel
theorem dX11_undo_61 : decode cX11_undo 61 = .ok (.ifCond .eq 41, 3) := by decide +kernel
theorem dX11_undo_64 : decode cX11_undo 64 = .ok (.aload_n 0, 1) := by decide +kernel
theorem dX11_undo_65 : decode cX11_undo 65 = .ok (.getfield 45, 3) := by decide +kernel
theorem dX11_undo_68 : decode cX11_undo 68 = .ok (.bipush 120, 2) := by decide +kernel
theorem dX11_undo_70 : decode cX11_undo 70 = .ok (.if_icmp .ge 32, 3) := by decide +kernel
theorem dX11_undo_73 : decode cX11_undo 73 = .ok (.aload_n 0, 1) := by decide +kernel
theorem dX11_undo_74 : decode cX11_undo 74 = .ok (.aload 5, 2) := by decide +kernel
theorem dX11_undo_76 : decode cX11_undo 76 = .ok (.getfield 130, 3) := by decide +kernel
theorem dX11_undo_79 : decode cX11_undo 79 = .ok (.aload 6, 2) := by decide +kernel
theorem dX11_undo_81 : decode cX11_undo 81 = .ok (.getfield 130, 3) := by decide +kernel
theorem dX11_undo_84 : decode cX11_undo 84 = .ok (.aload_n 3, 1) := by decide +kernel
theorem dX11_undo_85 : decode cX11_undo 85 = .ok (.getfield 148, 3) := by decide +kernel
theorem dX11_undo_88 : decode cX11_undo 88 = .ok (.getfield 130, 3) := by decide +kernel
theorem dX11_undo_91 : decode cX11_undo 91 = .ok (.iconst 0, 1) := by decide +kernel
theorem dX11_undo_92 : decode cX11_undo 92 = .ok (.invokevirtual 152, 3) := by decide +kernel
theorem dX11_undo_95 : decode cX11_undo 95 = .ok (.ifCond .eq 7, 3) := by decide +kernel
theorem dX11_undo_98 : decode cX11_undo 98 = .ok (.iconst 1, 1) := by decide +kernel
theorem dX11_undo_99 : decode cX11_undo 99 = .ok (.goto 4, 3) := by decide +kernel
theorem dX11_undo_102 : decode cX11_undo 102 = .ok (.iconst 0, 1) := by decide +kernel
theorem dX11_undo_103 : decode cX11_undo 103 = .ok (.istore 7, 2) := by decide +kernel
theorem dX11_undo_105 : decode cX11_undo 105 = .ok (.iload 7, 2) := by decide +kernel
theorem dX11_undo_107 : decode cX11_undo 107 = .ok (.ifCond .eq 30, 3) := by decide +kernel
theorem dX11_undo_110 : decode cX11_undo 110 = .ok (.aload_n 0, 1) := by decide +kernel
theorem dX11_undo_111 : decode cX11_undo 111 = .ok (.getfield 38, 3) := by decide +kernel
theorem dX11_undo_114 : decode cX11_undo 114 = .ok (.invokevirtual 106, 3) := by decide +kernel
theorem dX11_undo_117 : decode cX11_undo 117 = .ok (.ifCond .eq 20, 3) := by decide +kernel
theorem dX11_undo_120 : decode cX11_undo 120 = .ok (.aload_n 0, 1) := by decide +kernel
theorem dX11_undo_121 : decode cX11_undo 121 = .ok (.getfield 38, 3) := by decide +kernel
theorem dX11_undo_124 : decode cX11_undo 124 = .ok (.aload_n 3, 1) := by decide +kernel
theorem dX11_undo_125 : decode cX11_undo 125 = .ok (.getfield 148, 3) := by decide +kernel
theorem dX11_undo_128 : decode cX11_undo 128 = .ok (.getfield 130, 3) := by decide +kernel
theorem dX11_undo_131 : decode cX11_undo 131 = .ok (.invokevirtual 156, 3) := by decide +kernel
theorem dX11_undo_134 : decode cX11_undo 134 = .ok (.ifCond .eq 13, 3) := by decide +kernel
theorem dX11_undo_137 : decode cX11_undo 137 = .ok (.new 72, 3) := by decide +kernel
theorem dX11_undo_140 : decode cX11_undo 140 = .ok (.dup, 1) := by decide +kernel
theorem dX11_undo_141 : decode cX11_undo 141 = .ok (.ldc 168, 2) := by decide +kernel
theorem dX11_undo_143 : decode cX11_undo 143 = .ok (.invokespecial 76, 3) := by decide +kernel
theorem dX11_undo_146 : decode cX11_undo 146 = .ok (.athrow, 1) := by decide +kernel
theorem dX11_undo_147 : decode cX11_undo 147 = .ok (.aload_n 0, 1) := by decide +kernel
theorem dX11_undo_148 : decode cX11_undo 148 = .ok (.iload_n 1, 1) := by decide +kernel
theorem dX11_undo_149 : decode cX11_undo 149 = .ok (.aload_n 3, 1) := by decide +kernel
theorem dX11_undo_150 : decode cX11_undo 150 = .ok (.aload_n 0, 1) := by decide +kernel
theorem dX11_undo_151 : decode cX11_undo 151 = .ok (.getfield 38, 3) := by decide +kernel
theorem dX11_undo_154 : decode cX11_undo 154 = .ok (.invokevirtual 162, 3) := by decide +kernel
theorem dX11_undo_157 : decode cX11_undo 157 = .ok (.ireturn, 1) := by decide +kernel
theorem dX11_bringIn_0 : decode cX11_bringIn 0 = .ok (.aload_n 0, 1) := by decide +kernel
theorem dX11_bringIn_1 : decode cX11_bringIn 1 = .ok (.iload_n 1, 1) := by decide +kernel
theorem dX11_bringIn_2 : decode cX11_bringIn 2 = .ok (.invokevirtual 116, 3) := by decide +kernel
theorem dX11_bringIn_5 : decode cX11_bringIn 5 = .ok (.astore_n 3, 1) := by decide +kernel
theorem dX11_bringIn_6 : decode cX11_bringIn 6 = .ok (.iload_n 2, 1) := by decide +kernel
theorem dX11_bringIn_7 : decode cX11_bringIn 7 = .ok (.iconst 1, 1) := by decide +kernel
theorem dX11_bringIn_8 : decode cX11_bringIn 8 = .ok (.if_icmp .lt 11, 3) := by decide +kernel
theorem dX11_bringIn_11 : decode cX11_bringIn 11 = .ok (.iload_n 2, 1) := by decide +kernel
theorem dX11_bringIn_12 : decode cX11_bringIn 12 = .ok (.aload_n 0, 1) := by decide +kernel
theorem dX11_bringIn_13 : decode cX11_bringIn 13 = .ok (.getfield 41, 3) := by decide +kernel
theorem dX11_bringIn_16 : decode cX11_bringIn 16 = .ok (.if_icmp .le 13, 3) := by decide +kernel
theorem dX11_bringIn_19 : decode cX11_bringIn 19 = .ok (.new 62, 3) := by decide +kernel
theorem dX11_bringIn_22 : decode cX11_bringIn 22 = .ok (.dup, 1) := by decide +kernel
theorem dX11_bringIn_23 : decode cX11_bringIn 23 = .ok (.ldc 170, 2) := by decide +kernel
theorem dX11_bringIn_25 : decode cX11_bringIn 25 = .ok (.invokespecial 66, 3) := by decide +kernel
theorem dX11_bringIn_28 : decode cX11_bringIn 28 = .ok (.athrow, 1) := by decide +kernel
theorem dX11_bringIn_29 : decode cX11_bringIn 29 = .ok (.aload_n 0, 1) := by decide +kernel
theorem dX11_bringIn_30 : decode cX11_bringIn 30 = .ok (.aload_n 0, 1) := by decide +kernel
theorem dX11_bringIn_31 : decode cX11_bringIn 31 = .ok (.getfield 20, 3) := by decide +kernel
theorem dX11_bringIn_34 : decode cX11_bringIn 34 = .ok (.iload_n 1, 1) := by decide +kernel
theorem dX11_bringIn_35 : decode cX11_bringIn 35 = .ok (.aaload, 1) := by decide +kernel
theorem dX11_bringIn_36 : decode cX11_bringIn 36 = .ok (.invokevirtual 91, 3) := by decide +kernel
theorem dX11_bringIn_39 : decode cX11_bringIn 39 = .ok (.ifCond .eq 22, 3) := by decide +kernel
theorem dX11_bringIn_42 : decode cX11_bringIn 42 = .ok (.aload_n 0, 1) := by decide +kernel
theorem dX11_bringIn_43 : decode cX11_bringIn 43 = .ok (.getfield 31, 3) := by decide +kernel
theorem dX11_bringIn_46 : decode cX11_bringIn 46 = .ok (.invokevirtual 106, 3) := by decide +kernel
theorem dX11_bringIn_49 : decode cX11_bringIn 49 = .ok (.ifCond .eq 12, 3) := by decide +kernel
theorem dX11_bringIn_52 : decode cX11_bringIn 52 = .ok (.aload_n 0, 1) := by decide +kernel
theorem dX11_bringIn_53 : decode cX11_bringIn 53 = .ok (.getfield 45, 3) := by decide +kernel
theorem dX11_bringIn_56 : decode cX11_bringIn 56 = .ok (.bipush 120, 2) := by decide +kernel
theorem dX11_bringIn_58 : decode cX11_bringIn 58 = .ok (.if_icmp .lt 13, 3) := by decide +kernel
theorem dX11_bringIn_61 : decode cX11_bringIn 61 = .ok (.new 72, 3) := by decide +kernel
theorem dX11_bringIn_64 : decode cX11_bringIn 64 = .ok (.dup, 1) := by decide +kernel
theorem dX11_bringIn_65 : decode cX11_bringIn 65 = .ok (.ldc 172, 2) := by decide +kernel
theorem dX11_bringIn_67 : decode cX11_bringIn 67 = .ok (.invokespecial 76, 3) := by decide +kernel
theorem dX11_bringIn_70 : decode cX11_bringIn 70 = .ok (.athrow, 1) := by decide +kernel
theorem dX11_bringIn_71 : decode cX11_bringIn 71 = .ok (.aload_n 0, 1) := by decide +kernel
theorem dX11_bringIn_72 : decode cX11_bringIn 72 = .ok (.iload_n 1, 1) := by decide +kernel
theorem dX11_bringIn_73 : decode cX11_bringIn 73 = .ok (.aload_n 3, 1) := by decide +kernel
theorem dX11_bringIn_74 : decode cX11_bringIn 74 = .ok (.aload_n 0, 1) := by decide +kernel
theorem dX11_bringIn_75 : decode cX11_bringIn 75 = .ok (.getfield 31, 3) := by decide +kernel
theorem dX11_bringIn_78 : decode cX11_bringIn 78 = .ok (.iload_n 2, 1) := by decide +kernel
theorem dX11_bringIn_79 : decode cX11_bringIn 79 = .ok (.invokevirtual 174, 3) := by decide +kernel
theorem dX11_bringIn_82 : decode cX11_bringIn 82 = .ok (.istore 4, 2) := by decide +kernel
theorem dX11_bringIn_84 : decode cX11_bringIn 84 = .ok (.aload_n 0, 1) := by decide +kernel
theorem dX11_bringIn_85 : decode cX11_bringIn 85 = .ok (.getfield 31, 3) := by decide +kernel
theorem dX11_bringIn_88 : decode cX11_bringIn 88 = .ok (.invokevirtual 80, 3) := by decide +kernel
theorem dX11_bringIn_91 : decode cX11_bringIn 91 = .ok (.iload 4, 2) := by decide +kernel
theorem dX11_bringIn_93 : decode cX11_bringIn 93 = .ok (.ireturn, 1) := by decide +kernel
theorem dX11_move_0 : decode cX11_move 0 = .ok (.aload_n 0, 1) := by decide +kernel
theorem dX11_move_1 : decode cX11_move 1 = .ok (.iload_n 1, 1) := by decide +kernel
theorem dX11_move_2 : decode cX11_move 2 = .ok (.invokevirtual 85, 3) := by decide +kernel
theorem dX11_move_5 : decode cX11_move 5 = .ok (.astore_n 3, 1) := by decide +kernel
theorem dX11_move_6 : decode cX11_move 6 = .ok (.aload_n 0, 1) := by decide +kernel
theorem dX11_move_7 : decode cX11_move 7 = .ok (.iload_n 2, 1) := by decide +kernel
theorem dX11_move_8 : decode cX11_move 8 = .ok (.invokevirtual 85, 3) := by decide +kernel
theorem dX11_move_11 : decode cX11_move 11 = .ok (.astore 4, 2) := by decide +kernel
theorem dX11_move_13 : decode cX11_move 13 = .ok (.aload_n 3, 1) := by decide +kernel
theorem dX11_move_14 : decode cX11_move 14 = .ok (.getfield 102, 3) := by decide +kernel
theorem dX11_move_17 : decode cX11_move 17 = .ok (.ifnonnull 13, 3) := by decide +kernel
theorem dX11_move_20 : decode cX11_move 20 = .ok (.new 139, 3) := by decide +kernel
theorem dX11_move_23 : decode cX11_move 23 = .ok (.dup, 1) := by decide +kernel
theorem dX11_move_24 : decode cX11_move 24 = .ok (.ldc 178, 2) := by decide +kernel
theorem dX11_move_26 : decode cX11_move 26 = .ok (.invokespecial 143, 3) := by decide +kernel
theorem dX11_move_29 : decode cX11_move 29 = .ok (.athrow, 1) := by decide +kernel
theorem dX11_move_30 : decode cX11_move 30 = .ok (.aload 4, 2) := by decide +kernel
theorem dX11_move_32 : decode cX11_move 32 = .ok (.getfield 102, 3) := by decide +kernel
theorem dX11_move_35 : decode cX11_move 35 = .ok (.ifnonnull 29, 3) := by decide +kernel
theorem dX11_move_38 : decode cX11_move 38 = .ok (.aload_n 0, 1) := by decide +kernel
theorem dX11_move_39 : decode cX11_move 39 = .ok (.aload_n 3, 1) := by decide +kernel
theorem dX11_move_40 : decode cX11_move 40 = .ok (.invokevirtual 91, 3) := by decide +kernel
theorem dX11_move_43 : decode cX11_move 43 = .ok (.ifCond .eq 21, 3) := by decide +kernel
theorem dX11_move_46 : decode cX11_move 46 = .ok (.aload_n 0, 1) := by decide +kernel
theorem dX11_move_47 : decode cX11_move 47 = .ok (.aload 4, 2) := by decide +kernel
theorem dX11_move_49 : decode cX11_move 49 = .ok (.invokevirtual 91, 3) := by decide +kernel
theorem dX11_move_52 : decode cX11_move 52 = .ok (.ifCond .eq 12, 3) := by decide +kernel
theorem dX11_move_55 : decode cX11_move 55 = .ok (.aload_n 0, 1) := by decide +kernel
theorem dX11_move_56 : decode cX11_move 56 = .ok (.getfield 45, 3) := by decide +kernel
theorem dX11_move_59 : decode cX11_move 59 = .ok (.bipush 120, 2) := by decide +kernel
theorem dX11_move_61 : decode cX11_move 61 = .ok (.if_icmp .lt 13, 3) := by decide +kernel
theorem dX11_move_64 : decode cX11_move 64 = .ok (.new 72, 3) := by decide +kernel
theorem dX11_move_67 : decode cX11_move 67 = .ok (.dup, 1) := by decide +kernel
theorem dX11_move_68 : decode cX11_move 68 = .ok (.ldc 180, 2) := by decide +kernel
theorem dX11_move_70 : decode cX11_move 70 = .ok (.invokespecial 76, 3) := by decide +kernel
theorem dX11_move_73 : decode cX11_move 73 = .ok (.athrow, 1) := by decide +kernel
theorem dX11_move_74 : decode cX11_move 74 = .ok (.aload_n 0, 1) := by decide +kernel
theorem dX11_move_75 : decode cX11_move 75 = .ok (.iload_n 1, 1) := by decide +kernel
theorem dX11_move_76 : decode cX11_move 76 = .ok (.iload_n 2, 1) := by decide +kernel
theorem dX11_move_77 : decode cX11_move 77 = .ok (.invokevirtual 182, 3) := by decide +kernel
theorem dX11_move_80 : decode cX11_move 80 = .ok (.aload_n 0, 1) := by decide +kernel
theorem dX11_move_81 : decode cX11_move 81 = .ok (.getfield 38, 3) := by decide +kernel
theorem dX11_move_84 : decode cX11_move 84 = .ok (.invokevirtual 80, 3) := by decide +kernel
theorem dX11_move_87 : decode cX11_move 87 = .ok (.aload_n 0, 1) := by decide +kernel
theorem dX11_move_88 : decode cX11_move 88 = .ok (.getfield 38, 3) := by decide +kernel
theorem dX11_move_91 : decode cX11_move 91 = .ok (.sipush 12000, 3) := by decide +kernel
theorem dX11_move_94 : decode cX11_move 94 = .ok (.iload_n 2, 1) := by decide +kernel
theorem dX11_move_95 : decode cX11_move 95 = .ok (.iadd, 1) := by decide +kernel
theorem dX11_move_96 : decode cX11_move 96 = .ok (.invokevirtual 77, 3) := by decide +kernel
theorem dX11_move_99 : decode cX11_move 99 = .ok (.aload_n 0, 1) := by decide +kernel
theorem dX11_move_100 : decode cX11_move 100 = .ok (.iload_n 1, 1) := by decide +kernel
theorem dX11_move_101 : decode cX11_move 101 = .ok (.aload_n 0, 1) := by decide +kernel
theorem dX11_move_102 : decode cX11_move 102 = .ok (.getfield 38, 3) := by decide +kernel
theorem dX11_move_105 : decode cX11_move 105 = .ok (.invokevirtual 112, 3) := by decide +kernel
theorem dX11_move_108 : decode cX11_move 108 = .ok (.ireturn, 1) := by decide +kernel
theorem dX11_moveTree_0 : decode cX11_moveTree 0 = .ok (.iload_n 1, 1) := by decide +kernel
theorem dX11_moveTree_1 : decode cX11_moveTree 1 = .ok (.ifCond .lt 19, 3) := by decide +kernel
theorem dX11_moveTree_4 : decode cX11_moveTree 4 = .ok (.iload_n 1, 1) := by decide +kernel
theorem dX11_moveTree_5 : decode cX11_moveTree 5 = .ok (.bipush 6, 2) := by decide +kernel
theorem dX11_moveTree_7 : decode cX11_moveTree 7 = .ok (.if_icmp .ge 13, 3) := by decide +kernel
theorem dX11_moveTree_10 : decode cX11_moveTree 10 = .ok (.iload_n 2, 1) := by decide +kernel
theorem dX11_moveTree_11 : decode cX11_moveTree 11 = .ok (.ifCond .lt 9, 3) := by decide +kernel
theorem dX11_moveTree_14 : decode cX11_moveTree 14 = .ok (.iload_n 2, 1) := by decide +kernel
theorem dX11_moveTree_15 : decode cX11_moveTree 15 = .ok (.bipush 6, 2) := by decide +kernel
theorem dX11_moveTree_17 : decode cX11_moveTree 17 = .ok (.if_icmp .lt 13, 3) := by decide +kernel
theorem dX11_moveTree_20 : decode cX11_moveTree 20 = .ok (.new 139, 3) := by decide +kernel
theorem dX11_moveTree_23 : decode cX11_moveTree 23 = .ok (.dup, 1) := by decide +kernel
theorem dX11_moveTree_24 : decode cX11_moveTree 24 = .ok (.ldc 186, 2) := by decide +kernel
theorem dX11_moveTree_26 : decode cX11_moveTree 26 = .ok (.invokespecial 143, 3) := by decide +kernel
theorem dX11_moveTree_29 : decode cX11_moveTree 29 = .ok (.athrow, 1) := by decide +kernel
theorem dX11_moveTree_30 : decode cX11_moveTree 30 = .ok (.aload_n 0, 1) := by decide +kernel
theorem dX11_moveTree_31 : decode cX11_moveTree 31 = .ok (.iload_n 1, 1) := by decide +kernel
theorem dX11_moveTree_32 : decode cX11_moveTree 32 = .ok (.invokevirtual 188, 3) := by decide +kernel
theorem dX11_moveTree_35 : decode cX11_moveTree 35 = .ok (.istore_n 3, 1) := by decide +kernel
theorem dX11_moveTree_36 : decode cX11_moveTree 36 = .ok (.aload_n 0, 1) := by decide +kernel
theorem dX11_moveTree_37 : decode cX11_moveTree 37 = .ok (.iload_n 3, 1) := by decide +kernel
theorem dX11_moveTree_38 : decode cX11_moveTree 38 = .ok (.invokevirtual 191, 3) := by decide +kernel
theorem dX11_moveTree_41 : decode cX11_moveTree 41 = .ok (.istore 4, 2) := by decide +kernel
theorem dX11_moveTree_43 : decode cX11_moveTree 43 = .ok (.iload_n 3, 1) := by decide +kernel
theorem dX11_moveTree_44 : decode cX11_moveTree 44 = .ok (.ifCond .eq 39, 3) := by decide +kernel
theorem dX11_moveTree_47 : decode cX11_moveTree 47 = .ok (.aload_n 0, 1) := by decide +kernel
theorem dX11_moveTree_48 : decode cX11_moveTree 48 = .ok (.iload_n 2, 1) := by decide +kernel
theorem dX11_moveTree_49 : decode cX11_moveTree 49 = .ok (.invokevirtual 188, 3) := by decide +kernel
theorem dX11_moveTree_52 : decode cX11_moveTree 52 = .ok (.ifCond .ne 31, 3) := by decide +kernel
theorem dX11_moveTree_55 : decode cX11_moveTree 55 = .ok (.aload_n 0, 1) := by decide +kernel
theorem dX11_moveTree_56 : decode cX11_moveTree 56 = .ok (.iload_n 1, 1) := by decide +kernel
theorem dX11_moveTree_57 : decode cX11_moveTree 57 = .ok (.invokevirtual 194, 3) := by decide +kernel
theorem dX11_moveTree_60 : decode cX11_moveTree 60 = .ok (.ifCond .eq 23, 3) := by decide +kernel
theorem dX11_moveTree_63 : decode cX11_moveTree 63 = .ok (.aload_n 0, 1) := by decide +kernel
theorem dX11_moveTree_64 : decode cX11_moveTree 64 = .ok (.iload_n 2, 1) := by decide +kernel
theorem dX11_moveTree_65 : decode cX11_moveTree 65 = .ok (.invokevirtual 194, 3) := by decide +kernel
theorem dX11_moveTree_68 : decode cX11_moveTree 68 = .ok (.ifCond .eq 15, 3) := by decide +kernel
theorem dX11_moveTree_71 : decode cX11_moveTree 71 = .ok (.aload_n 0, 1) := by decide +kernel
theorem dX11_moveTree_72 : decode cX11_moveTree 72 = .ok (.getfield 45, 3) := by decide +kernel
theorem dX11_moveTree_75 : decode cX11_moveTree 75 = .ok (.iload 4, 2) := by decide +kernel
theorem dX11_moveTree_77 : decode cX11_moveTree 77 = .ok (.iadd, 1) := by decide +kernel
theorem dX11_moveTree_78 : decode cX11_moveTree 78 = .ok (.bipush 120, 2) := by decide +kernel
theorem dX11_moveTree_80 : decode cX11_moveTree 80 = .ok (.if_icmp .le 13, 3) := by decide +kernel
theorem dX11_moveTree_83 : decode cX11_moveTree 83 = .ok (.new 72, 3) := by decide +kernel
theorem dX11_moveTree_86 : decode cX11_moveTree 86 = .ok (.dup, 1) := by decide +kernel
theorem dX11_moveTree_87 : decode cX11_moveTree 87 = .ok (.ldc 180, 2) := by decide +kernel
theorem dX11_moveTree_89 : decode cX11_moveTree 89 = .ok (.invokespecial 76, 3) := by decide +kernel
theorem dX11_moveTree_92 : decode cX11_moveTree 92 = .ok (.athrow, 1) := by decide +kernel
theorem dX11_moveTree_93 : decode cX11_moveTree 93 = .ok (.iload_n 2, 1) := by decide +kernel
theorem dX11_moveTree_94 : decode cX11_moveTree 94 = .ok (.iload_n 1, 1) := by decide +kernel
theorem dX11_moveTree_95 : decode cX11_moveTree 95 = .ok (.isub, 1) := by decide +kernel
theorem dX11_moveTree_96 : decode cX11_moveTree 96 = .ok (.iconst 4, 1) := by decide +kernel
theorem dX11_moveTree_97 : decode cX11_moveTree 97 = .ok (.imul, 1) := by decide +kernel
theorem dX11_moveTree_98 : decode cX11_moveTree 98 = .ok (.istore 5, 2) := by decide +kernel
theorem dX11_moveTree_100 : decode cX11_moveTree 100 = .ok (.iconst 0, 1) := by decide +kernel
theorem dX11_moveTree_101 : decode cX11_moveTree 101 = .ok (.istore 6, 2) := by decide +kernel
theorem dX11_moveTree_103 : decode cX11_moveTree 103 = .ok (.iload 6, 2) := by decide +kernel
theorem dX11_moveTree_105 : decode cX11_moveTree 105 = .ok (.aload_n 0, 1) := by decide +kernel
theorem dX11_moveTree_106 : decode cX11_moveTree 106 = .ok (.getfield 20, 3) := by decide +kernel
theorem dX11_moveTree_109 : decode cX11_moveTree 109 = .ok (.arraylength, 1) := by decide +kernel
theorem dX11_moveTree_110 : decode cX11_moveTree 110 = .ok (.if_icmp .ge 29, 3) := by decide +kernel
theorem dX11_moveTree_113 : decode cX11_moveTree 113 = .ok (.iload_n 3, 1) := by decide +kernel
theorem dX11_moveTree_114 : decode cX11_moveTree 114 = .ok (.iload 6, 2) := by decide +kernel
theorem dX11_moveTree_116 : decode cX11_moveTree 116 = .ok (.invokestatic 198, 3) := by decide +kernel
theorem dX11_moveTree_119 : decode cX11_moveTree 119 = .ok (.ifCond .eq 14, 3) := by decide +kernel
theorem dX11_moveTree_122 : decode cX11_moveTree 122 = .ok (.aload_n 0, 1) := by decide +kernel
theorem dX11_moveTree_123 : decode cX11_moveTree 123 = .ok (.iload 6, 2) := by decide +kernel
theorem dX11_moveTree_125 : decode cX11_moveTree 125 = .ok (.iload 6, 2) := by decide +kernel
theorem dX11_moveTree_127 : decode cX11_moveTree 127 = .ok (.iload 5, 2) := by decide +kernel
theorem dX11_moveTree_129 : decode cX11_moveTree 129 = .ok (.iadd, 1) := by decide +kernel
theorem dX11_moveTree_130 : decode cX11_moveTree 130 = .ok (.invokevirtual 182, 3) := by decide +kernel
theorem dX11_moveTree_133 : decode cX11_moveTree 133 = .ok (.iinc 6 1, 3) := by decide +kernel
theorem dX11_moveTree_136 : decode cX11_moveTree 136 = .ok (.goto (-33), 3) := by decide +kernel
theorem dX11_moveTree_139 : decode cX11_moveTree 139 = .ok (.iconst 0, 1) := by decide +kernel
theorem dX11_moveTree_140 : decode cX11_moveTree 140 = .ok (.istore 6, 2) := by decide +kernel
theorem dX11_moveTree_142 : decode cX11_moveTree 142 = .ok (.iload 6, 2) := by decide +kernel
theorem dX11_moveTree_144 : decode cX11_moveTree 144 = .ok (.aload_n 0, 1) := by decide +kernel
theorem dX11_moveTree_145 : decode cX11_moveTree 145 = .ok (.getfield 20, 3) := by decide +kernel
theorem dX11_moveTree_148 : decode cX11_moveTree 148 = .ok (.arraylength, 1) := by decide +kernel
theorem dX11_moveTree_149 : decode cX11_moveTree 149 = .ok (.if_icmp .ge 72, 3) := by decide +kernel
theorem dX11_moveTree_152 : decode cX11_moveTree 152 = .ok (.aload_n 0, 1) := by decide +kernel
theorem dX11_moveTree_153 : decode cX11_moveTree 153 = .ok (.getfield 20, 3) := by decide +kernel
theorem dX11_moveTree_156 : decode cX11_moveTree 156 = .ok (.iload 6, 2) := by decide +kernel
theorem dX11_moveTree_158 : decode cX11_moveTree 158 = .ok (.aaload, 1) := by decide +kernel
theorem dX11_moveTree_159 : decode cX11_moveTree 159 = .ok (.getfield 102, 3) := by decide +kernel
theorem dX11_moveTree_162 : decode cX11_moveTree 162 = .ok (.astore 7, 2) := by decide +kernel
theorem dX11_moveTree_164 : decode cX11_moveTree 164 = .ok (.aload 7, 2) := by decide +kernel
theorem dX11_moveTree_166 : decode cX11_moveTree 166 = .ok (.ifnull 49, 3) := by decide +kernel
theorem dX11_moveTree_169 : decode cX11_moveTree 169 = .ok (.aload 7, 2) := by decide +kernel
theorem dX11_moveTree_171 : decode cX11_moveTree 171 = .ok (.getfield 148, 3) := by decide +kernel
theorem dX11_moveTree_174 : decode cX11_moveTree 174 = .ok (.getfield 130, 3) := by decide +kernel
theorem dX11_moveTree_177 : decode cX11_moveTree 177 = .ok (.iload_n 3, 1) := by decide +kernel
theorem dX11_moveTree_178 : decode cX11_moveTree 178 = .ok (.invokevirtual 202, 3) := by decide +kernel
theorem dX11_moveTree_181 : decode cX11_moveTree 181 = .ok (.ifCond .eq 34, 3) := by decide +kernel
theorem dX11_moveTree_184 : decode cX11_moveTree 184 = .ok (.aload 7, 2) := by decide +kernel
theorem dX11_moveTree_186 : decode cX11_moveTree 186 = .ok (.getfield 148, 3) := by decide +kernel
theorem dX11_moveTree_189 : decode cX11_moveTree 189 = .ok (.getfield 130, 3) := by decide +kernel
theorem dX11_moveTree_192 : decode cX11_moveTree 192 = .ok (.iload_n 3, 1) := by decide +kernel
theorem dX11_moveTree_193 : decode cX11_moveTree 193 = .ok (.iload 5, 2) := by decide +kernel
theorem dX11_moveTree_195 : decode cX11_moveTree 195 = .ok (.aload_n 0, 1) := by decide +kernel
theorem dX11_moveTree_196 : decode cX11_moveTree 196 = .ok (.getfield 38, 3) := by decide +kernel
theorem dX11_moveTree_199 : decode cX11_moveTree 199 = .ok (.invokevirtual 205, 3) := by decide +kernel
theorem dX11_moveTree_202 : decode cX11_moveTree 202 = .ok (.aload_n 0, 1) := by decide +kernel
theorem dX11_moveTree_203 : decode cX11_moveTree 203 = .ok (.iload 6, 2) := by decide +kernel
theorem dX11_moveTree_205 : decode cX11_moveTree 205 = .ok (.aload 7, 2) := by decide +kernel
theorem dX11_moveTree_207 : decode cX11_moveTree 207 = .ok (.aload_n 0, 1) := by decide +kernel
theorem dX11_moveTree_208 : decode cX11_moveTree 208 = .ok (.getfield 38, 3) := by decide +kernel
theorem dX11_moveTree_211 : decode cX11_moveTree 211 = .ok (.invokevirtual 162, 3) := by decide +kernel
theorem dX11_moveTree_214 : decode cX11_moveTree 214 = .ok (.pop, 1) := by decide +kernel
theorem dX11_moveTree_215 : decode cX11_moveTree 215 = .ok (.iinc 6 1, 3) := by decide +kernel
theorem dX11_moveTree_218 : decode cX11_moveTree 218 = .ok (.goto (-76), 3) := by decide +kernel
theorem dX11_moveTree_221 : decode cX11_moveTree 221 = .ok (.iload 4, 2) := by decide +kernel
theorem dX11_moveTree_223 : decode cX11_moveTree 223 = .ok (.ireturn, 1) := by decide +kernel
theorem dX11_approve_0 : decode cX11_approve 0 = .ok (.aload_n 0, 1) := by decide +kernel
theorem dX11_approve_1 : decode cX11_approve 1 = .ok (.iload_n 1, 1) := by decide +kernel
theorem dX11_approve_2 : decode cX11_approve 2 = .ok (.invokevirtual 116, 3) := by decide +kernel
theorem dX11_approve_5 : decode cX11_approve 5 = .ok (.astore_n 2, 1) := by decide +kernel
theorem dX11_approve_6 : decode cX11_approve 6 = .ok (.aload_n 0, 1) := by decide +kernel
theorem dX11_approve_7 : decode cX11_approve 7 = .ok (.aload_n 0, 1) := by decide +kernel
theorem dX11_approve_8 : decode cX11_approve 8 = .ok (.getfield 20, 3) := by decide +kernel
theorem dX11_approve_11 : decode cX11_approve 11 = .ok (.iload_n 1, 1) := by decide +kernel
theorem dX11_approve_12 : decode cX11_approve 12 = .ok (.aaload, 1) := by decide +kernel
theorem dX11_approve_13 : decode cX11_approve 13 = .ok (.invokevirtual 91, 3) := by decide +kernel
theorem dX11_approve_16 : decode cX11_approve 16 = .ok (.ifCond .ne 13, 3) := by decide +kernel
theorem dX11_approve_19 : decode cX11_approve 19 = .ok (.new 72, 3) := by decide +kernel
theorem dX11_approve_22 : decode cX11_approve 22 = .ok (.dup, 1) := by decide +kernel
theorem dX11_approve_23 : decode cX11_approve 23 = .ok (.ldc 95, 2) := by decide +kernel
theorem dX11_approve_25 : decode cX11_approve 25 = .ok (.invokespecial 76, 3) := by decide +kernel
theorem dX11_approve_28 : decode cX11_approve 28 = .ok (.athrow, 1) := by decide +kernel
theorem dX11_approve_29 : decode cX11_approve 29 = .ok (.aload_n 0, 1) := by decide +kernel
theorem dX11_approve_30 : decode cX11_approve 30 = .ok (.dup, 1) := by decide +kernel
theorem dX11_approve_31 : decode cX11_approve 31 = .ok (.getfield 41, 3) := by decide +kernel
theorem dX11_approve_34 : decode cX11_approve 34 = .ok (.iconst 1, 1) := by decide +kernel
theorem dX11_approve_35 : decode cX11_approve 35 = .ok (.iadd, 1) := by decide +kernel
theorem dX11_approve_36 : decode cX11_approve 36 = .ok (.putfield 41, 3) := by decide +kernel
theorem dX11_approve_39 : decode cX11_approve 39 = .ok (.aload_n 0, 1) := by decide +kernel
theorem dX11_approve_40 : decode cX11_approve 40 = .ok (.getfield 48, 3) := by decide +kernel
theorem dX11_approve_43 : decode cX11_approve 43 = .ok (.sipush 512, 3) := by decide +kernel
theorem dX11_approve_46 : decode cX11_approve 46 = .ok (.if_icmp .ge 39, 3) := by decide +kernel
theorem dX11_approve_49 : decode cX11_approve 49 = .ok (.aload_n 0, 1) := by decide +kernel
theorem dX11_approve_50 : decode cX11_approve 50 = .ok (.dup, 1) := by decide +kernel
theorem dX11_approve_51 : decode cX11_approve 51 = .ok (.getfield 48, 3) := by decide +kernel
theorem dX11_approve_54 : decode cX11_approve 54 = .ok (.iconst 1, 1) := by decide +kernel
theorem dX11_approve_55 : decode cX11_approve 55 = .ok (.iadd, 1) := by decide +kernel
theorem dX11_approve_56 : decode cX11_approve 56 = .ok (.putfield 48, 3) := by decide +kernel
theorem dX11_approve_59 : decode cX11_approve 59 = .ok (.aload_n 2, 1) := by decide +kernel
theorem dX11_approve_60 : decode cX11_approve 60 = .ok (.new 209, 3) := by decide +kernel
theorem dX11_approve_63 : decode cX11_approve 63 = .ok (.dup, 1) := by decide +kernel
theorem dX11_approve_64 : decode cX11_approve 64 = .ok (.aload_n 0, 1) := by decide +kernel
theorem dX11_approve_65 : decode cX11_approve 65 = .ok (.getfield 41, 3) := by decide +kernel
theorem dX11_approve_68 : decode cX11_approve 68 = .ok (.aload_n 2, 1) := by decide +kernel
theorem dX11_approve_69 : decode cX11_approve 69 = .ok (.getfield 148, 3) := by decide +kernel
theorem dX11_approve_72 : decode cX11_approve 72 = .ok (.getfield 130, 3) := by decide +kernel
theorem dX11_approve_75 : decode cX11_approve 75 = .ok (.aload_n 2, 1) := by decide +kernel
theorem dX11_approve_76 : decode cX11_approve 76 = .ok (.getfield 211, 3) := by decide +kernel
theorem dX11_approve_79 : decode cX11_approve 79 = .ok (.invokespecial 215, 3) := by decide +kernel
theorem dX11_approve_82 : decode cX11_approve 82 = .ok (.putfield 211, 3) := by decide +kernel
theorem dX11_approve_85 : decode cX11_approve 85 = .ok (.aload_n 0, 1) := by decide +kernel
theorem dX11_approve_86 : decode cX11_approve 86 = .ok (.getfield 41, 3) := by decide +kernel
theorem dX11_approve_89 : decode cX11_approve 89 = .ok (.ireturn, 1) := by decide +kernel
theorem dX11_translate_0 : decode cX11_translate 0 = .ok (.aload_n 0, 1) := by decide +kernel
theorem dX11_translate_1 : decode cX11_translate 1 = .ok (.iload_n 3, 1) := by decide +kernel
theorem dX11_translate_2 : decode cX11_translate 2 = .ok (.invokevirtual 85, 3) := by decide +kernel
theorem dX11_translate_5 : decode cX11_translate 5 = .ok (.pop, 1) := by decide +kernel
theorem dX11_translate_6 : decode cX11_translate 6 = .ok (.aload_n 0, 1) := by decide +kernel
theorem dX11_translate_7 : decode cX11_translate 7 = .ok (.iload_n 1, 1) := by decide +kernel
theorem dX11_translate_8 : decode cX11_translate 8 = .ok (.invokevirtual 116, 3) := by decide +kernel
theorem dX11_translate_11 : decode cX11_translate 11 = .ok (.astore 4, 2) := by decide +kernel
theorem dX11_translate_13 : decode cX11_translate 13 = .ok (.iload_n 2, 1) := by decide +kernel
theorem dX11_translate_14 : decode cX11_translate 14 = .ok (.iconst 1, 1) := by decide +kernel
theorem dX11_translate_15 : decode cX11_translate 15 = .ok (.if_icmp .lt 13, 3) := by decide +kernel
theorem dX11_translate_18 : decode cX11_translate 18 = .ok (.iload_n 2, 1) := by decide +kernel
theorem dX11_translate_19 : decode cX11_translate 19 = .ok (.iconst 2, 1) := by decide +kernel
theorem dX11_translate_20 : decode cX11_translate 20 = .ok (.if_icmp .gt 8, 3) := by decide +kernel
theorem dX11_translate_23 : decode cX11_translate 23 = .ok (.iload_n 1, 1) := by decide +kernel
theorem dX11_translate_24 : decode cX11_translate 24 = .ok (.iload_n 3, 1) := by decide +kernel
theorem dX11_translate_25 : decode cX11_translate 25 = .ok (.if_icmp .ne 13, 3) := by decide +kernel
theorem dX11_translate_28 : decode cX11_translate 28 = .ok (.new 62, 3) := by decide +kernel
theorem dX11_translate_31 : decode cX11_translate 31 = .ok (.dup, 1) := by decide +kernel
theorem dX11_translate_32 : decode cX11_translate 32 = .ok (.ldc 218, 2) := by decide +kernel
theorem dX11_translate_34 : decode cX11_translate 34 = .ok (.invokespecial 66, 3) := by decide +kernel
theorem dX11_translate_37 : decode cX11_translate 37 = .ok (.athrow, 1) := by decide +kernel
theorem dX11_translate_38 : decode cX11_translate 38 = .ok (.aload_n 0, 1) := by decide +kernel
theorem dX11_translate_39 : decode cX11_translate 39 = .ok (.getfield 20, 3) := by decide +kernel
theorem dX11_translate_42 : decode cX11_translate 42 = .ok (.iload_n 1, 1) := by decide +kernel
theorem dX11_translate_43 : decode cX11_translate 43 = .ok (.aaload, 1) := by decide +kernel
theorem dX11_translate_44 : decode cX11_translate 44 = .ok (.astore 5, 2) := by decide +kernel
theorem dX11_translate_46 : decode cX11_translate 46 = .ok (.aload 5, 2) := by decide +kernel
theorem dX11_translate_48 : decode cX11_translate 48 = .ok (.getfield 220, 3) := by decide +kernel
theorem dX11_translate_51 : decode cX11_translate 51 = .ok (.iload_n 2, 1) := by decide +kernel
theorem dX11_translate_52 : decode cX11_translate 52 = .ok (.iaload, 1) := by decide +kernel
theorem dX11_translate_53 : decode cX11_translate 53 = .ok (.istore 6, 2) := by decide +kernel
theorem dX11_translate_55 : decode cX11_translate 55 = .ok (.aload 5, 2) := by decide +kernel
theorem dX11_translate_57 : decode cX11_translate 57 = .ok (.getfield 220, 3) := by decide +kernel
theorem dX11_translate_60 : decode cX11_translate 60 = .ok (.iload_n 2, 1) := by decide +kernel
theorem dX11_translate_61 : decode cX11_translate 61 = .ok (.iload_n 3, 1) := by decide +kernel
theorem dX11_translate_62 : decode cX11_translate 62 = .ok (.iastore, 1) := by decide +kernel
theorem dX11_translate_63 : decode cX11_translate 63 = .ok (.aload 5, 2) := by decide +kernel
theorem dX11_translate_65 : decode cX11_translate 65 = .ok (.getfield 223, 3) := by decide +kernel
theorem dX11_translate_68 : decode cX11_translate 68 = .ok (.iload_n 2, 1) := by decide +kernel
theorem dX11_translate_69 : decode cX11_translate 69 = .ok (.aload 4, 2) := by decide +kernel
theorem dX11_translate_71 : decode cX11_translate 71 = .ok (.getfield 148, 3) := by decide +kernel
theorem dX11_translate_74 : decode cX11_translate 74 = .ok (.getfield 226, 3) := by decide +kernel
theorem dX11_translate_77 : decode cX11_translate 77 = .ok (.iastore, 1) := by decide +kernel
theorem dX11_translate_78 : decode cX11_translate 78 = .ok (.iload 6, 2) := by decide +kernel
theorem dX11_translate_80 : decode cX11_translate 80 = .ok (.ireturn, 1) := by decide +kernel
theorem dX11_rank_0 : decode cX11_rank 0 = .ok (.aload_n 0, 1) := by decide +kernel
theorem dX11_rank_1 : decode cX11_rank 1 = .ok (.iload_n 1, 1) := by decide +kernel
theorem dX11_rank_2 : decode cX11_rank 2 = .ok (.invokevirtual 85, 3) := by decide +kernel
theorem dX11_rank_5 : decode cX11_rank 5 = .ok (.astore_n 3, 1) := by decide +kernel
theorem dX11_rank_6 : decode cX11_rank 6 = .ok (.iload_n 2, 1) := by decide +kernel
theorem dX11_rank_7 : decode cX11_rank 7 = .ok (.ifCond .lt 9, 3) := by decide +kernel
theorem dX11_rank_10 : decode cX11_rank 10 = .ok (.iload_n 2, 1) := by decide +kernel
theorem dX11_rank_11 : decode cX11_rank 11 = .ok (.bipush 99, 2) := by decide +kernel
theorem dX11_rank_13 : decode cX11_rank 13 = .ok (.if_icmp .le 13, 3) := by decide +kernel
theorem dX11_rank_16 : decode cX11_rank 16 = .ok (.new 62, 3) := by decide +kernel
theorem dX11_rank_19 : decode cX11_rank 19 = .ok (.dup, 1) := by decide +kernel
theorem dX11_rank_20 : decode cX11_rank 20 = .ok (.ldc 83, 2) := by decide +kernel
theorem dX11_rank_22 : decode cX11_rank 22 = .ok (.invokespecial 66, 3) := by decide +kernel
theorem dX11_rank_25 : decode cX11_rank 25 = .ok (.athrow, 1) := by decide +kernel
theorem dX11_rank_26 : decode cX11_rank 26 = .ok (.aload_n 3, 1) := by decide +kernel
theorem dX11_rank_27 : decode cX11_rank 27 = .ok (.getfield 248, 3) := by decide +kernel
theorem dX11_rank_30 : decode cX11_rank 30 = .ok (.istore 4, 2) := by decide +kernel
theorem dX11_rank_32 : decode cX11_rank 32 = .ok (.aload_n 3, 1) := by decide +kernel
theorem dX11_rank_33 : decode cX11_rank 33 = .ok (.iload_n 2, 1) := by decide +kernel
theorem dX11_rank_34 : decode cX11_rank 34 = .ok (.putfield 248, 3) := by decide +kernel
theorem dX11_rank_37 : decode cX11_rank 37 = .ok (.iload 4, 2) := by decide +kernel
theorem dX11_rank_39 : decode cX11_rank 39 = .ok (.ireturn, 1) := by decide +kernel
theorem dX11_work_0 : decode cX11_work 0 = .ok (.iload_n 1, 1) := by decide +kernel
theorem dX11_work_1 : decode cX11_work 1 = .ok (.iconst 1, 1) := by decide +kernel
theorem dX11_work_2 : decode cX11_work 2 = .ok (.if_icmp .lt 8, 3) := by decide +kernel
theorem dX11_work_5 : decode cX11_work 5 = .ok (.iload_n 1, 1) := by decide +kernel
theorem dX11_work_6 : decode cX11_work 6 = .ok (.iconst 4, 1) := by decide +kernel
theorem dX11_work_7 : decode cX11_work 7 = .ok (.if_icmp .le 13, 3) := by decide +kernel
theorem dX11_work_10 : decode cX11_work 10 = .ok (.new 62, 3) := by decide +kernel
theorem dX11_work_13 : decode cX11_work 13 = .ok (.dup, 1) := by decide +kernel
theorem dX11_work_14 : decode cX11_work 14 = .ok (.ldc 251, 2) := by decide +kernel
theorem dX11_work_16 : decode cX11_work 16 = .ok (.invokespecial 66, 3) := by decide +kernel
theorem dX11_work_19 : decode cX11_work 19 = .ok (.athrow, 1) := by decide +kernel
theorem dX11_work_20 : decode cX11_work 20 = .ok (.iconst 0, 1) := by decide +kernel
theorem dX11_work_21 : decode cX11_work 21 = .ok (.istore_n 2, 1) := by decide +kernel
theorem dX11_work_22 : decode cX11_work 22 = .ok (.iconst 0, 1) := by decide +kernel
theorem dX11_work_23 : decode cX11_work 23 = .ok (.istore_n 3, 1) := by decide +kernel
theorem dX11_work_24 : decode cX11_work 24 = .ok (.iload_n 3, 1) := by decide +kernel
theorem dX11_work_25 : decode cX11_work 25 = .ok (.iload_n 1, 1) := by decide +kernel
theorem dX11_work_26 : decode cX11_work 26 = .ok (.if_icmp .ge 40, 3) := by decide +kernel
theorem dX11_work_29 : decode cX11_work 29 = .ok (.aload_n 0, 1) := by decide +kernel
theorem dX11_work_30 : decode cX11_work 30 = .ok (.invokevirtual 253, 3) := by decide +kernel
theorem dX11_work_33 : decode cX11_work 33 = .ok (.istore 4, 2) := by decide +kernel
theorem dX11_work_35 : decode cX11_work 35 = .ok (.iload 4, 2) := by decide +kernel
theorem dX11_work_37 : decode cX11_work 37 = .ok (.iconst (-1), 1) := by decide +kernel
theorem dX11_work_38 : decode cX11_work 38 = .ok (.if_icmp .ne 6, 3) := by decide +kernel
theorem dX11_work_41 : decode cX11_work 41 = .ok (.goto 25, 3) := by decide +kernel
theorem dX11_work_44 : decode cX11_work 44 = .ok (.aload_n 0, 1) := by decide +kernel
theorem dX11_work_45 : decode cX11_work 45 = .ok (.iload 4, 2) := by decide +kernel
theorem dX11_work_47 : decode cX11_work 47 = .ok (.aload_n 0, 1) := by decide +kernel
