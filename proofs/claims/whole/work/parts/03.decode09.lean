theorem dX12_linked_67 : decode cX12_linked 67 = .ok (.iand, 1) := by decide +kernel
theorem dX12_linked_68 : decode cX12_linked 68 = .ok (.iload 4, 2) := by decide +kernel
theorem dX12_linked_70 : decode cX12_linked 70 = .ok (.ishl, 1) := by decide +kernel
theorem dX12_linked_71 : decode cX12_linked 71 = .ok (.goto 4, 3) := by decide +kernel
theorem dX12_linked_74 : decode cX12_linked 74 = .ok (.iconst 0, 1) := by decide +kernel
theorem dX12_linked_75 : decode cX12_linked 75 = .ok (.ior, 1) := by decide +kernel
theorem dX12_linked_76 : decode cX12_linked 76 = .ok (.istore_n 3, 1) := by decide +kernel
theorem dX12_linked_77 : decode cX12_linked 77 = .ok (.iinc 4 1, 3) := by decide +kernel
theorem dX12_linked_80 : decode cX12_linked 80 = .ok (.goto (-41), 3) := by decide +kernel
theorem dX12_linked_83 : decode cX12_linked 83 = .ok (.iload_n 2, 1) := by decide +kernel
theorem dX12_linked_84 : decode cX12_linked 84 = .ok (.iconst 1, 1) := by decide +kernel
theorem dX12_linked_85 : decode cX12_linked 85 = .ok (.if_icmp .ne 7, 3) := by decide +kernel
theorem dX12_linked_88 : decode cX12_linked 88 = .ok (.iload_n 3, 1) := by decide +kernel
theorem dX12_linked_89 : decode cX12_linked 89 = .ok (.goto 35, 3) := by decide +kernel
theorem dX12_linked_92 : decode cX12_linked 92 = .ok (.aload_n 0, 1) := by decide +kernel
theorem dX12_linked_93 : decode cX12_linked 93 = .ok (.getfield 70, 3) := by decide +kernel
theorem dX12_linked_96 : decode cX12_linked 96 = .ok (.iload_n 1, 1) := by decide +kernel
theorem dX12_linked_97 : decode cX12_linked 97 = .ok (.baload, 1) := by decide +kernel
theorem dX12_linked_98 : decode cX12_linked 98 = .ok (.ifCond .ne 7, 3) := by decide +kernel
theorem dX12_linked_101 : decode cX12_linked 101 = .ok (.iconst 0, 1) := by decide +kernel
theorem dX12_linked_102 : decode cX12_linked 102 = .ok (.goto 22, 3) := by decide +kernel
theorem dX12_linked_105 : decode cX12_linked 105 = .ok (.iload_n 2, 1) := by decide +kernel
theorem dX12_linked_106 : decode cX12_linked 106 = .ok (.ifCond .ne 12, 3) := by decide +kernel
theorem dX12_linked_109 : decode cX12_linked 109 = .ok (.aload_n 0, 1) := by decide +kernel
theorem dX12_linked_110 : decode cX12_linked 110 = .ok (.getfield 83, 3) := by decide +kernel
theorem dX12_linked_113 : decode cX12_linked 113 = .ok (.iload_n 1, 1) := by decide +kernel
theorem dX12_linked_114 : decode cX12_linked 114 = .ok (.iaload, 1) := by decide +kernel
theorem dX12_linked_115 : decode cX12_linked 115 = .ok (.goto 9, 3) := by decide +kernel
theorem dX12_linked_118 : decode cX12_linked 118 = .ok (.aload_n 0, 1) := by decide +kernel
theorem dX12_linked_119 : decode cX12_linked 119 = .ok (.getfield 89, 3) := by decide +kernel
theorem dX12_linked_122 : decode cX12_linked 122 = .ok (.iload_n 1, 1) := by decide +kernel
theorem dX12_linked_123 : decode cX12_linked 123 = .ok (.iaload, 1) := by decide +kernel
theorem dX12_linked_124 : decode cX12_linked 124 = .ok (.ireturn, 1) := by decide +kernel
theorem dX12_members_0 : decode cX12_members 0 = .ok (.aload_n 0, 1) := by decide +kernel
theorem dX12_members_1 : decode cX12_members 1 = .ok (.iload_n 1, 1) := by decide +kernel
theorem dX12_members_2 : decode cX12_members 2 = .ok (.iconst 0, 1) := by decide +kernel
theorem dX12_members_3 : decode cX12_members 3 = .ok (.bipush 7, 2) := by decide +kernel
theorem dX12_members_5 : decode cX12_members 5 = .ok (.invokestatic 184, 3) := by decide +kernel
theorem dX12_members_8 : decode cX12_members 8 = .ok (.ifCond .eq 7, 3) := by decide +kernel
theorem dX12_members_11 : decode cX12_members 11 = .ok (.iconst 0, 1) := by decide +kernel
theorem dX12_members_12 : decode cX12_members 12 = .ok (.goto 4, 3) := by decide +kernel
theorem dX12_members_15 : decode cX12_members 15 = .ok (.iconst 1, 1) := by decide +kernel
theorem dX12_members_16 : decode cX12_members 16 = .ok (.putfield 180, 3) := by decide +kernel
theorem dX12_members_19 : decode cX12_members 19 = .ok (.aload_n 0, 1) := by decide +kernel
theorem dX12_members_20 : decode cX12_members 20 = .ok (.getfield 180, 3) := by decide +kernel
theorem dX12_members_23 : decode cX12_members 23 = .ok (.ifCond .ne 11, 3) := by decide +kernel
theorem dX12_members_26 : decode cX12_members 26 = .ok (.aload_n 0, 1) := by decide +kernel
theorem dX12_members_27 : decode cX12_members 27 = .ok (.iload_n 1, 1) := by decide +kernel
theorem dX12_members_28 : decode cX12_members 28 = .ok (.invokevirtual 334, 3) := by decide +kernel
theorem dX12_members_31 : decode cX12_members 31 = .ok (.goto 4, 3) := by decide +kernel
theorem dX12_members_34 : decode cX12_members 34 = .ok (.iconst 0, 1) := by decide +kernel
theorem dX12_members_35 : decode cX12_members 35 = .ok (.ireturn, 1) := by decide +kernel
theorem dX12_isLinked_0 : decode cX12_isLinked 0 = .ok (.iconst 0, 1) := by decide +kernel
theorem dX12_isLinked_1 : decode cX12_isLinked 1 = .ok (.istore_n 2, 1) := by decide +kernel
theorem dX12_isLinked_2 : decode cX12_isLinked 2 = .ok (.iconst 0, 1) := by decide +kernel
theorem dX12_isLinked_3 : decode cX12_isLinked 3 = .ok (.istore_n 3, 1) := by decide +kernel
theorem dX12_isLinked_4 : decode cX12_isLinked 4 = .ok (.iload_n 3, 1) := by decide +kernel
theorem dX12_isLinked_5 : decode cX12_isLinked 5 = .ok (.bipush 24, 2) := by decide +kernel
theorem dX12_isLinked_7 : decode cX12_isLinked 7 = .ok (.if_icmp .ge 74, 3) := by decide +kernel
theorem dX12_isLinked_10 : decode cX12_isLinked 10 = .ok (.iconst 0, 1) := by decide +kernel
theorem dX12_isLinked_11 : decode cX12_isLinked 11 = .ok (.istore 4, 2) := by decide +kernel
theorem dX12_isLinked_13 : decode cX12_isLinked 13 = .ok (.iload 4, 2) := by decide +kernel
theorem dX12_isLinked_15 : decode cX12_isLinked 15 = .ok (.bipush 24, 2) := by decide +kernel
theorem dX12_isLinked_17 : decode cX12_isLinked 17 = .ok (.if_icmp .ge 58, 3) := by decide +kernel
theorem dX12_isLinked_20 : decode cX12_isLinked 20 = .ok (.iload_n 3, 1) := by decide +kernel
theorem dX12_isLinked_21 : decode cX12_isLinked 21 = .ok (.iload_n 1, 1) := by decide +kernel
theorem dX12_isLinked_22 : decode cX12_isLinked 22 = .ok (.if_icmp .eq 53, 3) := by decide +kernel
theorem dX12_isLinked_25 : decode cX12_isLinked 25 = .ok (.aload_n 0, 1) := by decide +kernel
theorem dX12_isLinked_26 : decode cX12_isLinked 26 = .ok (.getfield 70, 3) := by decide +kernel
theorem dX12_isLinked_29 : decode cX12_isLinked 29 = .ok (.iload_n 3, 1) := by decide +kernel
theorem dX12_isLinked_30 : decode cX12_isLinked 30 = .ok (.baload, 1) := by decide +kernel
theorem dX12_isLinked_31 : decode cX12_isLinked 31 = .ok (.ifCond .eq 44, 3) := by decide +kernel
theorem dX12_isLinked_34 : decode cX12_isLinked 34 = .ok (.iload_n 2, 1) := by decide +kernel
theorem dX12_isLinked_35 : decode cX12_isLinked 35 = .ok (.ifCond .ne 28, 3) := by decide +kernel
theorem dX12_isLinked_38 : decode cX12_isLinked 38 = .ok (.aload_n 0, 1) := by decide +kernel
theorem dX12_isLinked_39 : decode cX12_isLinked 39 = .ok (.getfield 83, 3) := by decide +kernel
theorem dX12_isLinked_42 : decode cX12_isLinked 42 = .ok (.iload_n 3, 1) := by decide +kernel
theorem dX12_isLinked_43 : decode cX12_isLinked 43 = .ok (.iaload, 1) := by decide +kernel
theorem dX12_isLinked_44 : decode cX12_isLinked 44 = .ok (.iload 4, 2) := by decide +kernel
theorem dX12_isLinked_46 : decode cX12_isLinked 46 = .ok (.ishr, 1) := by decide +kernel
theorem dX12_isLinked_47 : decode cX12_isLinked 47 = .ok (.iconst 1, 1) := by decide +kernel
theorem dX12_isLinked_48 : decode cX12_isLinked 48 = .ok (.iand, 1) := by decide +kernel
theorem dX12_isLinked_49 : decode cX12_isLinked 49 = .ok (.iconst 1, 1) := by decide +kernel
theorem dX12_isLinked_50 : decode cX12_isLinked 50 = .ok (.if_icmp .ne 17, 3) := by decide +kernel
theorem dX12_isLinked_53 : decode cX12_isLinked 53 = .ok (.aload_n 0, 1) := by decide +kernel
theorem dX12_isLinked_54 : decode cX12_isLinked 54 = .ok (.iload 4, 2) := by decide +kernel
theorem dX12_isLinked_56 : decode cX12_isLinked 56 = .ok (.invokevirtual 479, 3) := by decide +kernel
theorem dX12_isLinked_59 : decode cX12_isLinked 59 = .ok (.iload_n 1, 1) := by decide +kernel
theorem dX12_isLinked_60 : decode cX12_isLinked 60 = .ok (.if_icmp .ne 7, 3) := by decide +kernel
theorem dX12_isLinked_63 : decode cX12_isLinked 63 = .ok (.iconst 1, 1) := by decide +kernel
theorem dX12_isLinked_64 : decode cX12_isLinked 64 = .ok (.goto 4, 3) := by decide +kernel
theorem dX12_isLinked_67 : decode cX12_isLinked 67 = .ok (.iconst 0, 1) := by decide +kernel
theorem dX12_isLinked_68 : decode cX12_isLinked 68 = .ok (.istore_n 2, 1) := by decide +kernel
theorem dX12_isLinked_69 : decode cX12_isLinked 69 = .ok (.iinc 4 1, 3) := by decide +kernel
theorem dX12_isLinked_72 : decode cX12_isLinked 72 = .ok (.goto (-59), 3) := by decide +kernel
theorem dX12_isLinked_75 : decode cX12_isLinked 75 = .ok (.iinc 3 1, 3) := by decide +kernel
theorem dX12_isLinked_78 : decode cX12_isLinked 78 = .ok (.goto (-74), 3) := by decide +kernel
theorem dX12_isLinked_81 : decode cX12_isLinked 81 = .ok (.iload_n 2, 1) := by decide +kernel
theorem dX12_isLinked_82 : decode cX12_isLinked 82 = .ok (.ireturn, 1) := by decide +kernel
theorem dX12_odd_0 : decode cX12_odd 0 = .ok (.aload_n 0, 1) := by decide +kernel
theorem dX12_odd_1 : decode cX12_odd 1 = .ok (.iconst 0, 1) := by decide +kernel
theorem dX12_odd_2 : decode cX12_odd 2 = .ok (.putfield 180, 3) := by decide +kernel
theorem dX12_odd_5 : decode cX12_odd 5 = .ok (.iconst 0, 1) := by decide +kernel
theorem dX12_odd_6 : decode cX12_odd 6 = .ok (.istore_n 2, 1) := by decide +kernel
theorem dX12_odd_7 : decode cX12_odd 7 = .ok (.iconst 0, 1) := by decide +kernel
theorem dX12_odd_8 : decode cX12_odd 8 = .ok (.istore_n 3, 1) := by decide +kernel
theorem dX12_odd_9 : decode cX12_odd 9 = .ok (.iload_n 3, 1) := by decide +kernel
theorem dX12_odd_10 : decode cX12_odd 10 = .ok (.bipush 24, 2) := by decide +kernel
theorem dX12_odd_12 : decode cX12_odd 12 = .ok (.if_icmp .ge 121, 3) := by decide +kernel
theorem dX12_odd_15 : decode cX12_odd 15 = .ok (.iconst 0, 1) := by decide +kernel
theorem dX12_odd_16 : decode cX12_odd 16 = .ok (.istore 4, 2) := by decide +kernel
theorem dX12_odd_18 : decode cX12_odd 18 = .ok (.iload_n 1, 1) := by decide +kernel
theorem dX12_odd_19 : decode cX12_odd 19 = .ok (.ifCond .eq 69, 3) := by decide +kernel
theorem dX12_odd_22 : decode cX12_odd 22 = .ok (.iconst 0, 1) := by decide +kernel
theorem dX12_odd_23 : decode cX12_odd 23 = .ok (.istore 5, 2) := by decide +kernel
theorem dX12_odd_25 : decode cX12_odd 25 = .ok (.iload 5, 2) := by decide +kernel
theorem dX12_odd_27 : decode cX12_odd 27 = .ok (.bipush 24, 2) := by decide +kernel
theorem dX12_odd_29 : decode cX12_odd 29 = .ok (.if_icmp .ge 56, 3) := by decide +kernel
theorem dX12_odd_32 : decode cX12_odd 32 = .ok (.iload 4, 2) := by decide +kernel
theorem dX12_odd_34 : decode cX12_odd 34 = .ok (.ifCond .ne 38, 3) := by decide +kernel
theorem dX12_odd_37 : decode cX12_odd 37 = .ok (.aload_n 0, 1) := by decide +kernel
theorem dX12_odd_38 : decode cX12_odd 38 = .ok (.getfield 19, 3) := by decide +kernel
theorem dX12_odd_41 : decode cX12_odd 41 = .ok (.iload_n 3, 1) := by decide +kernel
theorem dX12_odd_42 : decode cX12_odd 42 = .ok (.iaload, 1) := by decide +kernel
theorem dX12_odd_43 : decode cX12_odd 43 = .ok (.iconst (-1), 1) := by decide +kernel
theorem dX12_odd_44 : decode cX12_odd 44 = .ok (.if_icmp .ne 32, 3) := by decide +kernel
theorem dX12_odd_47 : decode cX12_odd 47 = .ok (.aload_n 0, 1) := by decide +kernel
theorem dX12_odd_48 : decode cX12_odd 48 = .ok (.getfield 70, 3) := by decide +kernel
theorem dX12_odd_51 : decode cX12_odd 51 = .ok (.iload 5, 2) := by decide +kernel
theorem dX12_odd_53 : decode cX12_odd 53 = .ok (.baload, 1) := by decide +kernel
theorem dX12_odd_54 : decode cX12_odd 54 = .ok (.ifCond .eq 22, 3) := by decide +kernel
theorem dX12_odd_57 : decode cX12_odd 57 = .ok (.aload_n 0, 1) := by decide +kernel
theorem dX12_odd_58 : decode cX12_odd 58 = .ok (.getfield 83, 3) := by decide +kernel
theorem dX12_odd_61 : decode cX12_odd 61 = .ok (.iload 5, 2) := by decide +kernel
theorem dX12_odd_63 : decode cX12_odd 63 = .ok (.iaload, 1) := by decide +kernel
theorem dX12_odd_64 : decode cX12_odd 64 = .ok (.iload_n 3, 1) := by decide +kernel
theorem dX12_odd_65 : decode cX12_odd 65 = .ok (.ishr, 1) := by decide +kernel
theorem dX12_odd_66 : decode cX12_odd 66 = .ok (.iconst 1, 1) := by decide +kernel
theorem dX12_odd_67 : decode cX12_odd 67 = .ok (.iand, 1) := by decide +kernel
theorem dX12_odd_68 : decode cX12_odd 68 = .ok (.iconst 1, 1) := by decide +kernel
theorem dX12_odd_69 : decode cX12_odd 69 = .ok (.if_icmp .ne 7, 3) := by decide +kernel
theorem dX12_odd_72 : decode cX12_odd 72 = .ok (.iconst 1, 1) := by decide +kernel
theorem dX12_odd_73 : decode cX12_odd 73 = .ok (.goto 4, 3) := by decide +kernel
theorem dX12_odd_76 : decode cX12_odd 76 = .ok (.iconst 0, 1) := by decide +kernel
theorem dX12_odd_77 : decode cX12_odd 77 = .ok (.istore 4, 2) := by decide +kernel
theorem dX12_odd_79 : decode cX12_odd 79 = .ok (.iinc 5 1, 3) := by decide +kernel
theorem dX12_odd_82 : decode cX12_odd 82 = .ok (.goto (-57), 3) := by decide +kernel
theorem dX12_odd_85 : decode cX12_odd 85 = .ok (.goto 27, 3) := by decide +kernel
theorem dX12_odd_88 : decode cX12_odd 88 = .ok (.aload_n 0, 1) := by decide +kernel
theorem dX12_odd_89 : decode cX12_odd 89 = .ok (.iload_n 3, 1) := by decide +kernel
theorem dX12_odd_90 : decode cX12_odd 90 = .ok (.invokevirtual 479, 3) := by decide +kernel
theorem dX12_odd_93 : decode cX12_odd 93 = .ok (.iload_n 3, 1) := by decide +kernel
theorem dX12_odd_94 : decode cX12_odd 94 = .ok (.if_icmp .ne 15, 3) := by decide +kernel
theorem dX12_odd_97 : decode cX12_odd 97 = .ok (.aload_n 0, 1) := by decide +kernel
theorem dX12_odd_98 : decode cX12_odd 98 = .ok (.iload_n 3, 1) := by decide +kernel
theorem dX12_odd_99 : decode cX12_odd 99 = .ok (.invokevirtual 482, 3) := by decide +kernel
theorem dX12_odd_102 : decode cX12_odd 102 = .ok (.ifCond .ne 7, 3) := by decide +kernel
theorem dX12_odd_105 : decode cX12_odd 105 = .ok (.iconst 1, 1) := by decide +kernel
theorem dX12_odd_106 : decode cX12_odd 106 = .ok (.goto 4, 3) := by decide +kernel
theorem dX12_odd_109 : decode cX12_odd 109 = .ok (.iconst 0, 1) := by decide +kernel
theorem dX12_odd_110 : decode cX12_odd 110 = .ok (.istore 4, 2) := by decide +kernel
theorem dX12_odd_112 : decode cX12_odd 112 = .ok (.iload_n 2, 1) := by decide +kernel
theorem dX12_odd_113 : decode cX12_odd 113 = .ok (.iload 4, 2) := by decide +kernel
theorem dX12_odd_115 : decode cX12_odd 115 = .ok (.ifCond .eq 9, 3) := by decide +kernel
theorem dX12_odd_118 : decode cX12_odd 118 = .ok (.iconst 1, 1) := by decide +kernel
theorem dX12_odd_119 : decode cX12_odd 119 = .ok (.iload_n 3, 1) := by decide +kernel
theorem dX12_odd_120 : decode cX12_odd 120 = .ok (.ishl, 1) := by decide +kernel
theorem dX12_odd_121 : decode cX12_odd 121 = .ok (.goto 4, 3) := by decide +kernel
theorem dX12_odd_124 : decode cX12_odd 124 = .ok (.iconst 0, 1) := by decide +kernel
theorem dX12_odd_125 : decode cX12_odd 125 = .ok (.ior, 1) := by decide +kernel
theorem dX12_odd_126 : decode cX12_odd 126 = .ok (.istore_n 2, 1) := by decide +kernel
theorem dX12_odd_127 : decode cX12_odd 127 = .ok (.iinc 3 1, 3) := by decide +kernel
theorem dX12_odd_130 : decode cX12_odd 130 = .ok (.goto (-121), 3) := by decide +kernel
theorem dX12_odd_133 : decode cX12_odd 133 = .ok (.iload_n 2, 1) := by decide +kernel
theorem dX12_odd_134 : decode cX12_odd 134 = .ok (.ireturn, 1) := by decide +kernel
theorem dX12_translated_0 : decode cX12_translated 0 = .ok (.aload_n 0, 1) := by decide +kernel
theorem dX12_translated_1 : decode cX12_translated 1 = .ok (.getfield 43, 3) := by decide +kernel
theorem dX12_translated_4 : decode cX12_translated 4 = .ok (.bipush 24, 2) := by decide +kernel
theorem dX12_translated_6 : decode cX12_translated 6 = .ok (.iload_n 2, 1) := by decide +kernel
theorem dX12_translated_7 : decode cX12_translated 7 = .ok (.iconst 1, 1) := by decide +kernel
theorem dX12_translated_8 : decode cX12_translated 8 = .ok (.isub, 1) := by decide +kernel
theorem dX12_translated_9 : decode cX12_translated 9 = .ok (.imul, 1) := by decide +kernel
theorem dX12_translated_10 : decode cX12_translated 10 = .ok (.iload_n 1, 1) := by decide +kernel
theorem dX12_translated_11 : decode cX12_translated 11 = .ok (.iadd, 1) := by decide +kernel
theorem dX12_translated_12 : decode cX12_translated 12 = .ok (.iaload, 1) := by decide +kernel
theorem dX12_translated_13 : decode cX12_translated 13 = .ok (.istore_n 3, 1) := by decide +kernel
theorem dX12_translated_14 : decode cX12_translated 14 = .ok (.iload_n 3, 1) := by decide +kernel
theorem dX12_translated_15 : decode cX12_translated 15 = .ok (.iconst (-1), 1) := by decide +kernel
theorem dX12_translated_16 : decode cX12_translated 16 = .ok (.if_icmp .eq 17, 3) := by decide +kernel
theorem dX12_translated_19 : decode cX12_translated 19 = .ok (.aload_n 0, 1) := by decide +kernel
theorem dX12_translated_20 : decode cX12_translated 20 = .ok (.getfield 19, 3) := by decide +kernel
theorem dX12_translated_23 : decode cX12_translated 23 = .ok (.iload_n 3, 1) := by decide +kernel
theorem dX12_translated_24 : decode cX12_translated 24 = .ok (.iaload, 1) := by decide +kernel
theorem dX12_translated_25 : decode cX12_translated 25 = .ok (.iconst (-1), 1) := by decide +kernel
theorem dX12_translated_26 : decode cX12_translated 26 = .ok (.if_icmp .eq 7, 3) := by decide +kernel
theorem dX12_translated_29 : decode cX12_translated 29 = .ok (.iload_n 3, 1) := by decide +kernel
theorem dX12_translated_30 : decode cX12_translated 30 = .ok (.goto 4, 3) := by decide +kernel
theorem dX12_translated_33 : decode cX12_translated 33 = .ok (.iconst (-1), 1) := by decide +kernel
theorem dX12_translated_34 : decode cX12_translated 34 = .ok (.ireturn, 1) := by decide +kernel
theorem dX12_asksIn_0 : decode cX12_asksIn 0 = .ok (.aload_n 0, 1) := by decide +kernel
theorem dX12_asksIn_1 : decode cX12_asksIn 1 = .ok (.iload_n 1, 1) := by decide +kernel
theorem dX12_asksIn_2 : decode cX12_asksIn 2 = .ok (.invokestatic 188, 3) := by decide +kernel
theorem dX12_asksIn_5 : decode cX12_asksIn 5 = .ok (.ifCond .ne 7, 3) := by decide +kernel
theorem dX12_asksIn_8 : decode cX12_asksIn 8 = .ok (.iconst 1, 1) := by decide +kernel
theorem dX12_asksIn_9 : decode cX12_asksIn 9 = .ok (.goto 17, 3) := by decide +kernel
theorem dX12_asksIn_12 : decode cX12_asksIn 12 = .ok (.iload_n 2, 1) := by decide +kernel
theorem dX12_asksIn_13 : decode cX12_asksIn 13 = .ok (.iconst 1, 1) := by decide +kernel
theorem dX12_asksIn_14 : decode cX12_asksIn 14 = .ok (.iconst 2, 1) := by decide +kernel
theorem dX12_asksIn_15 : decode cX12_asksIn 15 = .ok (.invokestatic 184, 3) := by decide +kernel
theorem dX12_asksIn_18 : decode cX12_asksIn 18 = .ok (.ifCond .ne 7, 3) := by decide +kernel
theorem dX12_asksIn_21 : decode cX12_asksIn 21 = .ok (.iconst 2, 1) := by decide +kernel
theorem dX12_asksIn_22 : decode cX12_asksIn 22 = .ok (.goto 4, 3) := by decide +kernel
theorem dX12_asksIn_25 : decode cX12_asksIn 25 = .ok (.iconst 0, 1) := by decide +kernel
theorem dX12_asksIn_26 : decode cX12_asksIn 26 = .ok (.putfield 180, 3) := by decide +kernel
theorem dX12_asksIn_29 : decode cX12_asksIn 29 = .ok (.aload_n 0, 1) := by decide +kernel
theorem dX12_asksIn_30 : decode cX12_asksIn 30 = .ok (.getfield 180, 3) := by decide +kernel
theorem dX12_asksIn_33 : decode cX12_asksIn 33 = .ok (.ifCond .ne 7, 3) := by decide +kernel
theorem dX12_asksIn_36 : decode cX12_asksIn 36 = .ok (.iconst 1, 1) := by decide +kernel
theorem dX12_asksIn_37 : decode cX12_asksIn 37 = .ok (.goto 4, 3) := by decide +kernel
theorem dX12_asksIn_40 : decode cX12_asksIn 40 = .ok (.iconst 0, 1) := by decide +kernel
theorem dX12_asksIn_41 : decode cX12_asksIn 41 = .ok (.ireturn, 1) := by decide +kernel
theorem dX12_inLanguage_0 : decode cX12_inLanguage 0 = .ok (.aload_n 0, 1) := by decide +kernel
theorem dX12_inLanguage_1 : decode cX12_inLanguage 1 = .ok (.iload_n 1, 1) := by decide +kernel
theorem dX12_inLanguage_2 : decode cX12_inLanguage 2 = .ok (.iload_n 2, 1) := by decide +kernel
theorem dX12_inLanguage_3 : decode cX12_inLanguage 3 = .ok (.invokevirtual 485, 3) := by decide +kernel
theorem dX12_inLanguage_6 : decode cX12_inLanguage 6 = .ok (.ifCond .ne 5, 3) := by decide +kernel
theorem dX12_inLanguage_9 : decode cX12_inLanguage 9 = .ok (.iconst 0, 1) := by decide +kernel
theorem dX12_inLanguage_10 : decode cX12_inLanguage 10 = .ok (.ireturn, 1) := by decide +kernel
theorem dX12_inLanguage_11 : decode cX12_inLanguage 11 = .ok (.aload_n 0, 1) := by decide +kernel
theorem dX12_inLanguage_12 : decode cX12_inLanguage 12 = .ok (.iload_n 1, 1) := by decide +kernel
theorem dX12_inLanguage_13 : decode cX12_inLanguage 13 = .ok (.iload_n 2, 1) := by decide +kernel
theorem dX12_inLanguage_14 : decode cX12_inLanguage 14 = .ok (.invokevirtual 488, 3) := by decide +kernel
theorem dX12_inLanguage_17 : decode cX12_inLanguage 17 = .ok (.istore_n 3, 1) := by decide +kernel
theorem dX12_inLanguage_18 : decode cX12_inLanguage 18 = .ok (.iload_n 3, 1) := by decide +kernel
theorem dX12_inLanguage_19 : decode cX12_inLanguage 19 = .ok (.iconst (-1), 1) := by decide +kernel
theorem dX12_inLanguage_20 : decode cX12_inLanguage 20 = .ok (.if_icmp .ne 17, 3) := by decide +kernel
theorem dX12_inLanguage_23 : decode cX12_inLanguage 23 = .ok (.iload_n 2, 1) := by decide +kernel
theorem dX12_inLanguage_24 : decode cX12_inLanguage 24 = .ok (.iconst 2, 1) := by decide +kernel
theorem dX12_inLanguage_25 : decode cX12_inLanguage 25 = .ok (.if_icmp .ne 12, 3) := by decide +kernel
theorem dX12_inLanguage_28 : decode cX12_inLanguage 28 = .ok (.aload_n 0, 1) := by decide +kernel
theorem dX12_inLanguage_29 : decode cX12_inLanguage 29 = .ok (.iload_n 1, 1) := by decide +kernel
theorem dX12_inLanguage_30 : decode cX12_inLanguage 30 = .ok (.iconst 1, 1) := by decide +kernel
theorem dX12_inLanguage_31 : decode cX12_inLanguage 31 = .ok (.invokevirtual 488, 3) := by decide +kernel
theorem dX12_inLanguage_34 : decode cX12_inLanguage 34 = .ok (.goto 4, 3) := by decide +kernel
theorem dX12_inLanguage_37 : decode cX12_inLanguage 37 = .ok (.iload_n 3, 1) := by decide +kernel
theorem dX12_inLanguage_38 : decode cX12_inLanguage 38 = .ok (.istore_n 3, 1) := by decide +kernel
theorem dX12_inLanguage_39 : decode cX12_inLanguage 39 = .ok (.iload_n 3, 1) := by decide +kernel
theorem dX12_inLanguage_40 : decode cX12_inLanguage 40 = .ok (.iconst (-1), 1) := by decide +kernel
theorem dX12_inLanguage_41 : decode cX12_inLanguage 41 = .ok (.if_icmp .ne 7, 3) := by decide +kernel
theorem dX12_inLanguage_44 : decode cX12_inLanguage 44 = .ok (.iload_n 1, 1) := by decide +kernel
theorem dX12_inLanguage_45 : decode cX12_inLanguage 45 = .ok (.goto 4, 3) := by decide +kernel
theorem dX12_inLanguage_48 : decode cX12_inLanguage 48 = .ok (.iload_n 3, 1) := by decide +kernel
theorem dX12_inLanguage_49 : decode cX12_inLanguage 49 = .ok (.ireturn, 1) := by decide +kernel
theorem dX12_isOutdated_0 : decode cX12_isOutdated 0 = .ok (.aload_n 0, 1) := by decide +kernel
theorem dX12_isOutdated_1 : decode cX12_isOutdated 1 = .ok (.iload_n 1, 1) := by decide +kernel
theorem dX12_isOutdated_2 : decode cX12_isOutdated 2 = .ok (.iload_n 2, 1) := by decide +kernel
theorem dX12_isOutdated_3 : decode cX12_isOutdated 3 = .ok (.invokevirtual 485, 3) := by decide +kernel
theorem dX12_isOutdated_6 : decode cX12_isOutdated 6 = .ok (.ifCond .ne 5, 3) := by decide +kernel
theorem dX12_isOutdated_9 : decode cX12_isOutdated 9 = .ok (.iconst 0, 1) := by decide +kernel
theorem dX12_isOutdated_10 : decode cX12_isOutdated 10 = .ok (.ireturn, 1) := by decide +kernel
theorem dX12_isOutdated_11 : decode cX12_isOutdated 11 = .ok (.bipush 24, 2) := by decide +kernel
theorem dX12_isOutdated_13 : decode cX12_isOutdated 13 = .ok (.iload_n 2, 1) := by decide +kernel
theorem dX12_isOutdated_14 : decode cX12_isOutdated 14 = .ok (.iconst 1, 1) := by decide +kernel
theorem dX12_isOutdated_15 : decode cX12_isOutdated 15 = .ok (.isub, 1) := by decide +kernel
theorem dX12_isOutdated_16 : decode cX12_isOutdated 16 = .ok (.imul, 1) := by decide +kernel
theorem dX12_isOutdated_17 : decode cX12_isOutdated 17 = .ok (.iload_n 1, 1) := by decide +kernel
theorem dX12_isOutdated_18 : decode cX12_isOutdated 18 = .ok (.iadd, 1) := by decide +kernel
theorem dX12_isOutdated_19 : decode cX12_isOutdated 19 = .ok (.istore_n 3, 1) := by decide +kernel
theorem dX12_isOutdated_20 : decode cX12_isOutdated 20 = .ok (.aload_n 0, 1) := by decide +kernel
theorem dX12_isOutdated_21 : decode cX12_isOutdated 21 = .ok (.getfield 43, 3) := by decide +kernel
theorem dX12_isOutdated_24 : decode cX12_isOutdated 24 = .ok (.iload_n 3, 1) := by decide +kernel
theorem dX12_isOutdated_25 : decode cX12_isOutdated 25 = .ok (.iaload, 1) := by decide +kernel
theorem dX12_isOutdated_26 : decode cX12_isOutdated 26 = .ok (.iconst (-1), 1) := by decide +kernel
theorem dX12_isOutdated_27 : decode cX12_isOutdated 27 = .ok (.if_icmp .eq 31, 3) := by decide +kernel
theorem dX12_isOutdated_30 : decode cX12_isOutdated 30 = .ok (.aload_n 0, 1) := by decide +kernel
theorem dX12_isOutdated_31 : decode cX12_isOutdated 31 = .ok (.getfield 19, 3) := by decide +kernel
theorem dX12_isOutdated_34 : decode cX12_isOutdated 34 = .ok (.iload_n 1, 1) := by decide +kernel
theorem dX12_isOutdated_35 : decode cX12_isOutdated 35 = .ok (.iaload, 1) := by decide +kernel
theorem dX12_isOutdated_36 : decode cX12_isOutdated 36 = .ok (.iconst (-1), 1) := by decide +kernel
theorem dX12_isOutdated_37 : decode cX12_isOutdated 37 = .ok (.if_icmp .eq 17, 3) := by decide +kernel
theorem dX12_isOutdated_40 : decode cX12_isOutdated 40 = .ok (.aload_n 0, 1) := by decide +kernel
theorem dX12_isOutdated_41 : decode cX12_isOutdated 41 = .ok (.iload_n 1, 1) := by decide +kernel
theorem dX12_isOutdated_42 : decode cX12_isOutdated 42 = .ok (.invokevirtual 209, 3) := by decide +kernel
theorem dX12_isOutdated_45 : decode cX12_isOutdated 45 = .ok (.aload_n 0, 1) := by decide +kernel
theorem dX12_isOutdated_46 : decode cX12_isOutdated 46 = .ok (.getfield 46, 3) := by decide +kernel
theorem dX12_isOutdated_49 : decode cX12_isOutdated 49 = .ok (.iload_n 3, 1) := by decide +kernel
theorem dX12_isOutdated_50 : decode cX12_isOutdated 50 = .ok (.iaload, 1) := by decide +kernel
theorem dX12_isOutdated_51 : decode cX12_isOutdated 51 = .ok (.if_icmp .eq 7, 3) := by decide +kernel
theorem dX12_isOutdated_54 : decode cX12_isOutdated 54 = .ok (.iconst 1, 1) := by decide +kernel
theorem dX12_isOutdated_55 : decode cX12_isOutdated 55 = .ok (.goto 4, 3) := by decide +kernel
theorem dX12_isOutdated_58 : decode cX12_isOutdated 58 = .ok (.iconst 0, 1) := by decide +kernel
theorem dX12_isOutdated_59 : decode cX12_isOutdated 59 = .ok (.ireturn, 1) := by decide +kernel
theorem dL_token_0 : decode cL_token 0 = .ok (.aload_n 3, 1) := by decide +kernel
theorem dL_token_1 : decode cL_token 1 = .ok (.iconst 0, 1) := by decide +kernel
theorem dL_token_2 : decode cL_token 2 = .ok (.aload_n 0, 1) := by decide +kernel
theorem dL_token_3 : decode cL_token 3 = .ok (.iload_n 1, 1) := by decide +kernel
theorem dL_token_4 : decode cL_token 4 = .ok (.iload_n 2, 1) := by decide +kernel
theorem dL_token_5 : decode cL_token 5 = .ok (.invokevirtual 7, 3) := by decide +kernel
theorem dL_token_8 : decode cL_token 8 = .ok (.i2l, 1) := by decide +kernel
theorem dL_token_9 : decode cL_token 9 = .ok (.lastore, 1) := by decide +kernel
theorem dL_token_10 : decode cL_token 10 = .ok (.goto 11, 3) := by decide +kernel
theorem dL_token_13 : decode cL_token 13 = .ok (.astore 4, 2) := by decide +kernel
theorem dL_token_15 : decode cL_token 15 = .ok (.iconst 1, 1) := by decide +kernel
theorem dL_token_16 : decode cL_token 16 = .ok (.ireturn, 1) := by decide +kernel
theorem dL_token_17 : decode cL_token 17 = .ok (.astore 4, 2) := by decide +kernel
theorem dL_token_19 : decode cL_token 19 = .ok (.iconst 2, 1) := by decide +kernel
theorem dL_token_20 : decode cL_token 20 = .ok (.ireturn, 1) := by decide +kernel
theorem dL_token_21 : decode cL_token 21 = .ok (.iconst 0, 1) := by decide +kernel
theorem dL_token_22 : decode cL_token 22 = .ok (.ireturn, 1) := by decide +kernel
theorem dL_act_0 : decode cL_act 0 = .ok (.aload_n 2, 1) := by decide +kernel
theorem dL_act_1 : decode cL_act 1 = .ok (.iconst 0, 1) := by decide +kernel
theorem dL_act_2 : decode cL_act 2 = .ok (.aload_n 0, 1) := by decide +kernel
theorem dL_act_3 : decode cL_act 3 = .ok (.iload_n 1, 1) := by decide +kernel
theorem dL_act_4 : decode cL_act 4 = .ok (.invokevirtual 17, 3) := by decide +kernel
theorem dL_act_7 : decode cL_act 7 = .ok (.i2l, 1) := by decide +kernel
theorem dL_act_8 : decode cL_act 8 = .ok (.lastore, 1) := by decide +kernel
theorem dL_act_9 : decode cL_act 9 = .ok (.goto 6, 3) := by decide +kernel
theorem dL_act_12 : decode cL_act 12 = .ok (.astore_n 3, 1) := by decide +kernel
theorem dL_act_13 : decode cL_act 13 = .ok (.iconst 1, 1) := by decide +kernel
theorem dL_act_14 : decode cL_act 14 = .ok (.ireturn, 1) := by decide +kernel
theorem dL_act_15 : decode cL_act 15 = .ok (.iconst 0, 1) := by decide +kernel
theorem dL_act_16 : decode cL_act 16 = .ok (.ireturn, 1) := by decide +kernel
theorem dL_protect_0 : decode cL_protect 0 = .ok (.aload_n 3, 1) := by decide +kernel
theorem dL_protect_1 : decode cL_protect 1 = .ok (.iconst 0, 1) := by decide +kernel
theorem dL_protect_2 : decode cL_protect 2 = .ok (.aload_n 0, 1) := by decide +kernel
theorem dL_protect_3 : decode cL_protect 3 = .ok (.iload_n 1, 1) := by decide +kernel
theorem dL_protect_4 : decode cL_protect 4 = .ok (.iload_n 2, 1) := by decide +kernel
theorem dL_protect_5 : decode cL_protect 5 = .ok (.invokevirtual 21, 3) := by decide +kernel
theorem dL_protect_8 : decode cL_protect 8 = .ok (.i2l, 1) := by decide +kernel
theorem dL_protect_9 : decode cL_protect 9 = .ok (.lastore, 1) := by decide +kernel
theorem dL_protect_10 : decode cL_protect 10 = .ok (.goto 15, 3) := by decide +kernel
theorem dL_protect_13 : decode cL_protect 13 = .ok (.astore 4, 2) := by decide +kernel
theorem dL_protect_15 : decode cL_protect 15 = .ok (.iconst 1, 1) := by decide +kernel
theorem dL_protect_16 : decode cL_protect 16 = .ok (.ireturn, 1) := by decide +kernel
theorem dL_protect_17 : decode cL_protect 17 = .ok (.astore 4, 2) := by decide +kernel
theorem dL_protect_19 : decode cL_protect 19 = .ok (.iconst 2, 1) := by decide +kernel
theorem dL_protect_20 : decode cL_protect 20 = .ok (.ireturn, 1) := by decide +kernel
theorem dL_protect_21 : decode cL_protect 21 = .ok (.astore 4, 2) := by decide +kernel
theorem dL_protect_23 : decode cL_protect 23 = .ok (.iconst 3, 1) := by decide +kernel
theorem dL_protect_24 : decode cL_protect 24 = .ok (.ireturn, 1) := by decide +kernel
theorem dL_protect_25 : decode cL_protect 25 = .ok (.iconst 0, 1) := by decide +kernel
theorem dL_protect_26 : decode cL_protect 26 = .ok (.ireturn, 1) := by decide +kernel
theorem dL_create_0 : decode cL_create 0 = .ok (.aload_n 2, 1) := by decide +kernel
theorem dL_create_1 : decode cL_create 1 = .ok (.iconst 0, 1) := by decide +kernel
theorem dL_create_2 : decode cL_create 2 = .ok (.aload_n 0, 1) := by decide +kernel
theorem dL_create_3 : decode cL_create 3 = .ok (.iload_n 1, 1) := by decide +kernel
theorem dL_create_4 : decode cL_create 4 = .ok (.invokevirtual 26, 3) := by decide +kernel
theorem dL_create_7 : decode cL_create 7 = .ok (.i2l, 1) := by decide +kernel
theorem dL_create_8 : decode cL_create 8 = .ok (.lastore, 1) := by decide +kernel
theorem dL_create_9 : decode cL_create 9 = .ok (.goto 9, 3) := by decide +kernel
theorem dL_create_12 : decode cL_create 12 = .ok (.astore_n 3, 1) := by decide +kernel
theorem dL_create_13 : decode cL_create 13 = .ok (.iconst 1, 1) := by decide +kernel
theorem dL_create_14 : decode cL_create 14 = .ok (.ireturn, 1) := by decide +kernel
theorem dL_create_15 : decode cL_create 15 = .ok (.astore_n 3, 1) := by decide +kernel
theorem dL_create_16 : decode cL_create 16 = .ok (.iconst 2, 1) := by decide +kernel
theorem dL_create_17 : decode cL_create 17 = .ok (.ireturn, 1) := by decide +kernel
theorem dL_create_18 : decode cL_create 18 = .ok (.iconst 0, 1) := by decide +kernel
theorem dL_create_19 : decode cL_create 19 = .ok (.ireturn, 1) := by decide +kernel
theorem dL_edit_0 : decode cL_edit 0 = .ok (.aload 4, 2) := by decide +kernel
theorem dL_edit_2 : decode cL_edit 2 = .ok (.iconst 0, 1) := by decide +kernel
theorem dL_edit_3 : decode cL_edit 3 = .ok (.aload_n 0, 1) := by decide +kernel
theorem dL_edit_4 : decode cL_edit 4 = .ok (.iload_n 1, 1) := by decide +kernel
theorem dL_edit_5 : decode cL_edit 5 = .ok (.iload_n 2, 1) := by decide +kernel
theorem dL_edit_6 : decode cL_edit 6 = .ok (.iload_n 3, 1) := by decide +kernel
theorem dL_edit_7 : decode cL_edit 7 = .ok (.invokevirtual 29, 3) := by decide +kernel
theorem dL_edit_10 : decode cL_edit 10 = .ok (.i2l, 1) := by decide +kernel
theorem dL_edit_11 : decode cL_edit 11 = .ok (.lastore, 1) := by decide +kernel
theorem dL_edit_12 : decode cL_edit 12 = .ok (.goto 11, 3) := by decide +kernel
theorem dL_edit_15 : decode cL_edit 15 = .ok (.astore 5, 2) := by decide +kernel
theorem dL_edit_17 : decode cL_edit 17 = .ok (.iconst 1, 1) := by decide +kernel
theorem dL_edit_18 : decode cL_edit 18 = .ok (.ireturn, 1) := by decide +kernel
theorem dL_edit_19 : decode cL_edit 19 = .ok (.astore 5, 2) := by decide +kernel
theorem dL_edit_21 : decode cL_edit 21 = .ok (.iconst 2, 1) := by decide +kernel
theorem dL_edit_22 : decode cL_edit 22 = .ok (.ireturn, 1) := by decide +kernel
theorem dL_edit_23 : decode cL_edit 23 = .ok (.iconst 0, 1) := by decide +kernel
theorem dL_edit_24 : decode cL_edit 24 = .ok (.ireturn, 1) := by decide +kernel
theorem dL_undo_0 : decode cL_undo 0 = .ok (.aload_n 3, 1) := by decide +kernel
theorem dL_undo_1 : decode cL_undo 1 = .ok (.iconst 0, 1) := by decide +kernel
theorem dL_undo_2 : decode cL_undo 2 = .ok (.aload_n 0, 1) := by decide +kernel
theorem dL_undo_3 : decode cL_undo 3 = .ok (.iload_n 1, 1) := by decide +kernel
theorem dL_undo_4 : decode cL_undo 4 = .ok (.iload_n 2, 1) := by decide +kernel
theorem dL_undo_5 : decode cL_undo 5 = .ok (.invokevirtual 33, 3) := by decide +kernel
theorem dL_undo_8 : decode cL_undo 8 = .ok (.i2l, 1) := by decide +kernel
theorem dL_undo_9 : decode cL_undo 9 = .ok (.lastore, 1) := by decide +kernel
theorem dL_undo_10 : decode cL_undo 10 = .ok (.goto 11, 3) := by decide +kernel
theorem dL_undo_13 : decode cL_undo 13 = .ok (.astore 4, 2) := by decide +kernel
theorem dL_undo_15 : decode cL_undo 15 = .ok (.iconst 1, 1) := by decide +kernel
theorem dL_undo_16 : decode cL_undo 16 = .ok (.ireturn, 1) := by decide +kernel
theorem dL_undo_17 : decode cL_undo 17 = .ok (.astore 4, 2) := by decide +kernel
theorem dL_undo_19 : decode cL_undo 19 = .ok (.iconst 2, 1) := by decide +kernel
theorem dL_undo_20 : decode cL_undo 20 = .ok (.ireturn, 1) := by decide +kernel
theorem dL_undo_21 : decode cL_undo 21 = .ok (.iconst 0, 1) := by decide +kernel
theorem dL_undo_22 : decode cL_undo 22 = .ok (.ireturn, 1) := by decide +kernel
theorem dL_bringIn_0 : decode cL_bringIn 0 = .ok (.aload_n 3, 1) := by decide +kernel
theorem dL_bringIn_1 : decode cL_bringIn 1 = .ok (.iconst 0, 1) := by decide +kernel
theorem dL_bringIn_2 : decode cL_bringIn 2 = .ok (.aload_n 0, 1) := by decide +kernel
theorem dL_bringIn_3 : decode cL_bringIn 3 = .ok (.iload_n 1, 1) := by decide +kernel
theorem dL_bringIn_4 : decode cL_bringIn 4 = .ok (.iload_n 2, 1) := by decide +kernel
theorem dL_bringIn_5 : decode cL_bringIn 5 = .ok (.invokevirtual 36, 3) := by decide +kernel
theorem dL_bringIn_8 : decode cL_bringIn 8 = .ok (.i2l, 1) := by decide +kernel
theorem dL_bringIn_9 : decode cL_bringIn 9 = .ok (.lastore, 1) := by decide +kernel
theorem dL_bringIn_10 : decode cL_bringIn 10 = .ok (.goto 15, 3) := by decide +kernel
theorem dL_bringIn_13 : decode cL_bringIn 13 = .ok (.astore 4, 2) := by decide +kernel
theorem dL_bringIn_15 : decode cL_bringIn 15 = .ok (.iconst 1, 1) := by decide +kernel
theorem dL_bringIn_16 : decode cL_bringIn 16 = .ok (.ireturn, 1) := by decide +kernel
theorem dL_bringIn_17 : decode cL_bringIn 17 = .ok (.astore 4, 2) := by decide +kernel
theorem dL_bringIn_19 : decode cL_bringIn 19 = .ok (.iconst 2, 1) := by decide +kernel
theorem dL_bringIn_20 : decode cL_bringIn 20 = .ok (.ireturn, 1) := by decide +kernel
theorem dL_bringIn_21 : decode cL_bringIn 21 = .ok (.astore 4, 2) := by decide +kernel
theorem dL_bringIn_23 : decode cL_bringIn 23 = .ok (.iconst 3, 1) := by decide +kernel
theorem dL_bringIn_24 : decode cL_bringIn 24 = .ok (.ireturn, 1) := by decide +kernel
theorem dL_bringIn_25 : decode cL_bringIn 25 = .ok (.iconst 0, 1) := by decide +kernel
theorem dL_bringIn_26 : decode cL_bringIn 26 = .ok (.ireturn, 1) := by decide +kernel
theorem dL_move_0 : decode cL_move 0 = .ok (.aload_n 3, 1) := by decide +kernel
theorem dL_move_1 : decode cL_move 1 = .ok (.iconst 0, 1) := by decide +kernel
theorem dL_move_2 : decode cL_move 2 = .ok (.aload_n 0, 1) := by decide +kernel
theorem dL_move_3 : decode cL_move 3 = .ok (.iload_n 1, 1) := by decide +kernel
theorem dL_move_4 : decode cL_move 4 = .ok (.iload_n 2, 1) := by decide +kernel
theorem dL_move_5 : decode cL_move 5 = .ok (.invokevirtual 39, 3) := by decide +kernel
theorem dL_move_8 : decode cL_move 8 = .ok (.i2l, 1) := by decide +kernel
theorem dL_move_9 : decode cL_move 9 = .ok (.lastore, 1) := by decide +kernel
theorem dL_move_10 : decode cL_move 10 = .ok (.goto 11, 3) := by decide +kernel
theorem dL_move_13 : decode cL_move 13 = .ok (.astore 4, 2) := by decide +kernel
theorem dL_move_15 : decode cL_move 15 = .ok (.iconst 1, 1) := by decide +kernel
theorem dL_move_16 : decode cL_move 16 = .ok (.ireturn, 1) := by decide +kernel
theorem dL_move_17 : decode cL_move 17 = .ok (.astore 4, 2) := by decide +kernel
theorem dL_move_19 : decode cL_move 19 = .ok (.iconst 2, 1) := by decide +kernel
theorem dL_move_20 : decode cL_move 20 = .ok (.ireturn, 1) := by decide +kernel
theorem dL_move_21 : decode cL_move 21 = .ok (.iconst 0, 1) := by decide +kernel
theorem dL_move_22 : decode cL_move 22 = .ok (.ireturn, 1) := by decide +kernel
theorem dL_moveTree_0 : decode cL_moveTree 0 = .ok (.aload_n 3, 1) := by decide +kernel
theorem dL_moveTree_1 : decode cL_moveTree 1 = .ok (.iconst 0, 1) := by decide +kernel
theorem dL_moveTree_2 : decode cL_moveTree 2 = .ok (.aload_n 0, 1) := by decide +kernel
theorem dL_moveTree_3 : decode cL_moveTree 3 = .ok (.iload_n 1, 1) := by decide +kernel
theorem dL_moveTree_4 : decode cL_moveTree 4 = .ok (.iload_n 2, 1) := by decide +kernel
theorem dL_moveTree_5 : decode cL_moveTree 5 = .ok (.invokevirtual 42, 3) := by decide +kernel
theorem dL_moveTree_8 : decode cL_moveTree 8 = .ok (.i2l, 1) := by decide +kernel
theorem dL_moveTree_9 : decode cL_moveTree 9 = .ok (.lastore, 1) := by decide +kernel
theorem dL_moveTree_10 : decode cL_moveTree 10 = .ok (.goto 11, 3) := by decide +kernel
theorem dL_moveTree_13 : decode cL_moveTree 13 = .ok (.astore 4, 2) := by decide +kernel
theorem dL_moveTree_15 : decode cL_moveTree 15 = .ok (.iconst 1, 1) := by decide +kernel
theorem dL_moveTree_16 : decode cL_moveTree 16 = .ok (.ireturn, 1) := by decide +kernel
theorem dL_moveTree_17 : decode cL_moveTree 17 = .ok (.astore 4, 2) := by decide +kernel
theorem dL_moveTree_19 : decode cL_moveTree 19 = .ok (.iconst 2, 1) := by decide +kernel
theorem dL_moveTree_20 : decode cL_moveTree 20 = .ok (.ireturn, 1) := by decide +kernel
theorem dL_moveTree_21 : decode cL_moveTree 21 = .ok (.iconst 0, 1) := by decide +kernel
theorem dL_moveTree_22 : decode cL_moveTree 22 = .ok (.ireturn, 1) := by decide +kernel
theorem dL_approve_0 : decode cL_approve 0 = .ok (.aload_n 2, 1) := by decide +kernel
theorem dL_approve_1 : decode cL_approve 1 = .ok (.iconst 0, 1) := by decide +kernel
theorem dL_approve_2 : decode cL_approve 2 = .ok (.aload_n 0, 1) := by decide +kernel
theorem dL_approve_3 : decode cL_approve 3 = .ok (.iload_n 1, 1) := by decide +kernel
theorem dL_approve_4 : decode cL_approve 4 = .ok (.invokevirtual 45, 3) := by decide +kernel
theorem dL_approve_7 : decode cL_approve 7 = .ok (.i2l, 1) := by decide +kernel
theorem dL_approve_8 : decode cL_approve 8 = .ok (.lastore, 1) := by decide +kernel
theorem dL_approve_9 : decode cL_approve 9 = .ok (.goto 9, 3) := by decide +kernel
theorem dL_approve_12 : decode cL_approve 12 = .ok (.astore_n 3, 1) := by decide +kernel
theorem dL_approve_13 : decode cL_approve 13 = .ok (.iconst 1, 1) := by decide +kernel
theorem dL_approve_14 : decode cL_approve 14 = .ok (.ireturn, 1) := by decide +kernel
theorem dL_approve_15 : decode cL_approve 15 = .ok (.astore_n 3, 1) := by decide +kernel
theorem dL_approve_16 : decode cL_approve 16 = .ok (.iconst 2, 1) := by decide +kernel
theorem dL_approve_17 : decode cL_approve 17 = .ok (.ireturn, 1) := by decide +kernel
theorem dL_approve_18 : decode cL_approve 18 = .ok (.iconst 0, 1) := by decide +kernel
theorem dL_approve_19 : decode cL_approve 19 = .ok (.ireturn, 1) := by decide +kernel
theorem dL_translate_0 : decode cL_translate 0 = .ok (.aload 4, 2) := by decide +kernel
theorem dL_translate_2 : decode cL_translate 2 = .ok (.iconst 0, 1) := by decide +kernel
theorem dL_translate_3 : decode cL_translate 3 = .ok (.aload_n 0, 1) := by decide +kernel
theorem dL_translate_4 : decode cL_translate 4 = .ok (.iload_n 1, 1) := by decide +kernel
theorem dL_translate_5 : decode cL_translate 5 = .ok (.iload_n 2, 1) := by decide +kernel
theorem dL_translate_6 : decode cL_translate 6 = .ok (.iload_n 3, 1) := by decide +kernel
theorem dL_translate_7 : decode cL_translate 7 = .ok (.invokevirtual 48, 3) := by decide +kernel
theorem dL_translate_10 : decode cL_translate 10 = .ok (.i2l, 1) := by decide +kernel
theorem dL_translate_11 : decode cL_translate 11 = .ok (.lastore, 1) := by decide +kernel
theorem dL_translate_12 : decode cL_translate 12 = .ok (.goto 11, 3) := by decide +kernel
theorem dL_translate_15 : decode cL_translate 15 = .ok (.astore 5, 2) := by decide +kernel
theorem dL_translate_17 : decode cL_translate 17 = .ok (.iconst 1, 1) := by decide +kernel
theorem dL_translate_18 : decode cL_translate 18 = .ok (.ireturn, 1) := by decide +kernel
theorem dL_translate_19 : decode cL_translate 19 = .ok (.astore 5, 2) := by decide +kernel
theorem dL_translate_21 : decode cL_translate 21 = .ok (.iconst 2, 1) := by decide +kernel
theorem dL_translate_22 : decode cL_translate 22 = .ok (.ireturn, 1) := by decide +kernel
theorem dL_translate_23 : decode cL_translate 23 = .ok (.iconst 0, 1) := by decide +kernel
theorem dL_translate_24 : decode cL_translate 24 = .ok (.ireturn, 1) := by decide +kernel
theorem dL_instruct_0 : decode cL_instruct 0 = .ok (.aload 4, 2) := by decide +kernel
theorem dL_instruct_2 : decode cL_instruct 2 = .ok (.iconst 0, 1) := by decide +kernel
theorem dL_instruct_3 : decode cL_instruct 3 = .ok (.aload_n 0, 1) := by decide +kernel
theorem dL_instruct_4 : decode cL_instruct 4 = .ok (.iload_n 1, 1) := by decide +kernel
theorem dL_instruct_5 : decode cL_instruct 5 = .ok (.iload_n 2, 1) := by decide +kernel
theorem dL_instruct_6 : decode cL_instruct 6 = .ok (.iload_n 3, 1) := by decide +kernel
theorem dL_instruct_7 : decode cL_instruct 7 = .ok (.invokevirtual 51, 3) := by decide +kernel
theorem dL_instruct_10 : decode cL_instruct 10 = .ok (.i2l, 1) := by decide +kernel
theorem dL_instruct_11 : decode cL_instruct 11 = .ok (.lastore, 1) := by decide +kernel
theorem dL_instruct_12 : decode cL_instruct 12 = .ok (.goto 15, 3) := by decide +kernel
theorem dL_instruct_15 : decode cL_instruct 15 = .ok (.astore 5, 2) := by decide +kernel
theorem dL_instruct_17 : decode cL_instruct 17 = .ok (.iconst 1, 1) := by decide +kernel
theorem dL_instruct_18 : decode cL_instruct 18 = .ok (.ireturn, 1) := by decide +kernel
theorem dL_instruct_19 : decode cL_instruct 19 = .ok (.astore 5, 2) := by decide +kernel
theorem dL_instruct_21 : decode cL_instruct 21 = .ok (.iconst 2, 1) := by decide +kernel
theorem dL_instruct_22 : decode cL_instruct 22 = .ok (.ireturn, 1) := by decide +kernel
theorem dL_instruct_23 : decode cL_instruct 23 = .ok (.astore 5, 2) := by decide +kernel
theorem dL_instruct_25 : decode cL_instruct 25 = .ok (.iconst 3, 1) := by decide +kernel
theorem dL_instruct_26 : decode cL_instruct 26 = .ok (.ireturn, 1) := by decide +kernel
theorem dL_instruct_27 : decode cL_instruct 27 = .ok (.iconst 0, 1) := by decide +kernel
theorem dL_instruct_28 : decode cL_instruct 28 = .ok (.ireturn, 1) := by decide +kernel
theorem dL_empty_0 : decode cL_empty 0 = .ok (.aload_n 2, 1) := by decide +kernel
theorem dL_empty_1 : decode cL_empty 1 = .ok (.iconst 0, 1) := by decide +kernel
theorem dL_empty_2 : decode cL_empty 2 = .ok (.aload_n 0, 1) := by decide +kernel
theorem dL_empty_3 : decode cL_empty 3 = .ok (.iload_n 1, 1) := by decide +kernel
theorem dL_empty_4 : decode cL_empty 4 = .ok (.invokevirtual 54, 3) := by decide +kernel
theorem dL_empty_7 : decode cL_empty 7 = .ok (.i2l, 1) := by decide +kernel
theorem dL_empty_8 : decode cL_empty 8 = .ok (.lastore, 1) := by decide +kernel
theorem dL_empty_9 : decode cL_empty 9 = .ok (.goto 6, 3) := by decide +kernel
theorem dL_empty_12 : decode cL_empty 12 = .ok (.astore_n 3, 1) := by decide +kernel
theorem dL_empty_13 : decode cL_empty 13 = .ok (.iconst 1, 1) := by decide +kernel
theorem dL_empty_14 : decode cL_empty 14 = .ok (.ireturn, 1) := by decide +kernel
theorem dL_empty_15 : decode cL_empty 15 = .ok (.iconst 0, 1) := by decide +kernel
theorem dL_empty_16 : decode cL_empty 16 = .ok (.ireturn, 1) := by decide +kernel
theorem dL_rank_0 : decode cL_rank 0 = .ok (.aload_n 3, 1) := by decide +kernel
theorem dL_rank_1 : decode cL_rank 1 = .ok (.iconst 0, 1) := by decide +kernel
theorem dL_rank_2 : decode cL_rank 2 = .ok (.aload_n 0, 1) := by decide +kernel
theorem dL_rank_3 : decode cL_rank 3 = .ok (.iload_n 1, 1) := by decide +kernel
theorem dL_rank_4 : decode cL_rank 4 = .ok (.iload_n 2, 1) := by decide +kernel
theorem dL_rank_5 : decode cL_rank 5 = .ok (.invokevirtual 57, 3) := by decide +kernel
theorem dL_rank_8 : decode cL_rank 8 = .ok (.i2l, 1) := by decide +kernel
theorem dL_rank_9 : decode cL_rank 9 = .ok (.lastore, 1) := by decide +kernel
theorem dL_rank_10 : decode cL_rank 10 = .ok (.goto 11, 3) := by decide +kernel
theorem dL_rank_13 : decode cL_rank 13 = .ok (.astore 4, 2) := by decide +kernel
theorem dL_rank_15 : decode cL_rank 15 = .ok (.iconst 1, 1) := by decide +kernel
theorem dL_rank_16 : decode cL_rank 16 = .ok (.ireturn, 1) := by decide +kernel
theorem dL_rank_17 : decode cL_rank 17 = .ok (.astore 4, 2) := by decide +kernel
theorem dL_rank_19 : decode cL_rank 19 = .ok (.iconst 2, 1) := by decide +kernel
theorem dL_rank_20 : decode cL_rank 20 = .ok (.ireturn, 1) := by decide +kernel
theorem dL_rank_21 : decode cL_rank 21 = .ok (.iconst 0, 1) := by decide +kernel
theorem dL_rank_22 : decode cL_rank 22 = .ok (.ireturn, 1) := by decide +kernel
theorem dL_work_0 : decode cL_work 0 = .ok (.aload_n 2, 1) := by decide +kernel
theorem dL_work_1 : decode cL_work 1 = .ok (.iconst 0, 1) := by decide +kernel
theorem dL_work_2 : decode cL_work 2 = .ok (.aload_n 0, 1) := by decide +kernel
theorem dL_work_3 : decode cL_work 3 = .ok (.iload_n 1, 1) := by decide +kernel
theorem dL_work_4 : decode cL_work 4 = .ok (.invokevirtual 60, 3) := by decide +kernel
theorem dL_work_7 : decode cL_work 7 = .ok (.i2l, 1) := by decide +kernel
theorem dL_work_8 : decode cL_work 8 = .ok (.lastore, 1) := by decide +kernel
theorem dL_work_9 : decode cL_work 9 = .ok (.goto 6, 3) := by decide +kernel
theorem dL_work_12 : decode cL_work 12 = .ok (.astore_n 3, 1) := by decide +kernel
theorem dL_work_13 : decode cL_work 13 = .ok (.iconst 1, 1) := by decide +kernel
theorem dL_work_14 : decode cL_work 14 = .ok (.ireturn, 1) := by decide +kernel
theorem dL_work_15 : decode cL_work 15 = .ok (.iconst 0, 1) := by decide +kernel
theorem dL_work_16 : decode cL_work 16 = .ok (.ireturn, 1) := by decide +kernel
theorem dL_read_0 : decode cL_read 0 = .ok (.aload_n 3, 1) := by decide +kernel
theorem dL_read_1 : decode cL_read 1 = .ok (.iconst 0, 1) := by decide +kernel
theorem dL_read_2 : decode cL_read 2 = .ok (.aload_n 0, 1) := by decide +kernel
theorem dL_read_3 : decode cL_read 3 = .ok (.iload_n 1, 1) := by decide +kernel
theorem dL_read_4 : decode cL_read 4 = .ok (.iload_n 2, 1) := by decide +kernel
theorem dL_read_5 : decode cL_read 5 = .ok (.invokevirtual 63, 3) := by decide +kernel
theorem dL_read_8 : decode cL_read 8 = .ok (.i2l, 1) := by decide +kernel
theorem dL_read_9 : decode cL_read 9 = .ok (.lastore, 1) := by decide +kernel
theorem dL_read_10 : decode cL_read 10 = .ok (.goto 7, 3) := by decide +kernel
theorem dL_read_13 : decode cL_read 13 = .ok (.astore 4, 2) := by decide +kernel
theorem dL_read_15 : decode cL_read 15 = .ok (.iconst 1, 1) := by decide +kernel
theorem dL_read_16 : decode cL_read 16 = .ok (.ireturn, 1) := by decide +kernel
theorem dL_read_17 : decode cL_read 17 = .ok (.iconst 0, 1) := by decide +kernel
theorem dL_read_18 : decode cL_read 18 = .ok (.ireturn, 1) := by decide +kernel
theorem dL_versions_0 : decode cL_versions 0 = .ok (.aload_n 2, 1) := by decide +kernel
theorem dL_versions_1 : decode cL_versions 1 = .ok (.iconst 0, 1) := by decide +kernel
theorem dL_versions_2 : decode cL_versions 2 = .ok (.aload_n 0, 1) := by decide +kernel
theorem dL_versions_3 : decode cL_versions 3 = .ok (.iload_n 1, 1) := by decide +kernel
theorem dL_versions_4 : decode cL_versions 4 = .ok (.invokevirtual 67, 3) := by decide +kernel
theorem dL_versions_7 : decode cL_versions 7 = .ok (.i2l, 1) := by decide +kernel
theorem dL_versions_8 : decode cL_versions 8 = .ok (.lastore, 1) := by decide +kernel
theorem dL_versions_9 : decode cL_versions 9 = .ok (.goto 6, 3) := by decide +kernel
theorem dL_versions_12 : decode cL_versions 12 = .ok (.astore_n 3, 1) := by decide +kernel
theorem dL_versions_13 : decode cL_versions 13 = .ok (.iconst 1, 1) := by decide +kernel
theorem dL_versions_14 : decode cL_versions 14 = .ok (.ireturn, 1) := by decide +kernel
theorem dL_versions_15 : decode cL_versions 15 = .ok (.iconst 0, 1) := by decide +kernel
theorem dL_versions_16 : decode cL_versions 16 = .ok (.ireturn, 1) := by decide +kernel
theorem dL_versionAt_0 : decode cL_versionAt 0 = .ok (.aload_n 3, 1) := by decide +kernel
theorem dL_versionAt_1 : decode cL_versionAt 1 = .ok (.iconst 0, 1) := by decide +kernel
theorem dL_versionAt_2 : decode cL_versionAt 2 = .ok (.aload_n 0, 1) := by decide +kernel
theorem dL_versionAt_3 : decode cL_versionAt 3 = .ok (.iload_n 1, 1) := by decide +kernel
theorem dL_versionAt_4 : decode cL_versionAt 4 = .ok (.iload_n 2, 1) := by decide +kernel
theorem dL_versionAt_5 : decode cL_versionAt 5 = .ok (.invokevirtual 70, 3) := by decide +kernel
theorem dL_versionAt_8 : decode cL_versionAt 8 = .ok (.i2l, 1) := by decide +kernel
theorem dL_versionAt_9 : decode cL_versionAt 9 = .ok (.lastore, 1) := by decide +kernel
theorem dL_versionAt_10 : decode cL_versionAt 10 = .ok (.goto 7, 3) := by decide +kernel
theorem dL_versionAt_13 : decode cL_versionAt 13 = .ok (.astore 4, 2) := by decide +kernel
theorem dL_versionAt_15 : decode cL_versionAt 15 = .ok (.iconst 1, 1) := by decide +kernel
theorem dL_versionAt_16 : decode cL_versionAt 16 = .ok (.ireturn, 1) := by decide +kernel
theorem dL_versionAt_17 : decode cL_versionAt 17 = .ok (.iconst 0, 1) := by decide +kernel
theorem dL_versionAt_18 : decode cL_versionAt 18 = .ok (.ireturn, 1) := by decide +kernel
theorem dL_tokenAt_0 : decode cL_tokenAt 0 = .ok (.aload_n 3, 1) := by decide +kernel
theorem dL_tokenAt_1 : decode cL_tokenAt 1 = .ok (.iconst 0, 1) := by decide +kernel
theorem dL_tokenAt_2 : decode cL_tokenAt 2 = .ok (.aload_n 0, 1) := by decide +kernel
theorem dL_tokenAt_3 : decode cL_tokenAt 3 = .ok (.iload_n 1, 1) := by decide +kernel
theorem dL_tokenAt_4 : decode cL_tokenAt 4 = .ok (.iload_n 2, 1) := by decide +kernel
theorem dL_tokenAt_5 : decode cL_tokenAt 5 = .ok (.invokevirtual 73, 3) := by decide +kernel
theorem dL_tokenAt_8 : decode cL_tokenAt 8 = .ok (.i2l, 1) := by decide +kernel
theorem dL_tokenAt_9 : decode cL_tokenAt 9 = .ok (.lastore, 1) := by decide +kernel
theorem dL_tokenAt_10 : decode cL_tokenAt 10 = .ok (.goto 7, 3) := by decide +kernel
theorem dL_tokenAt_13 : decode cL_tokenAt 13 = .ok (.astore 4, 2) := by decide +kernel
theorem dL_tokenAt_15 : decode cL_tokenAt 15 = .ok (.iconst 1, 1) := by decide +kernel
theorem dL_tokenAt_16 : decode cL_tokenAt 16 = .ok (.ireturn, 1) := by decide +kernel
theorem dL_tokenAt_17 : decode cL_tokenAt 17 = .ok (.iconst 0, 1) := by decide +kernel
theorem dL_tokenAt_18 : decode cL_tokenAt 18 = .ok (.ireturn, 1) := by decide +kernel
theorem dL_leads_0 : decode cL_leads 0 = .ok (.aload_n 2, 1) := by decide +kernel
theorem dL_leads_1 : decode cL_leads 1 = .ok (.iconst 0, 1) := by decide +kernel
theorem dL_leads_2 : decode cL_leads 2 = .ok (.aload_n 0, 1) := by decide +kernel
theorem dL_leads_3 : decode cL_leads 3 = .ok (.iload_n 1, 1) := by decide +kernel
theorem dL_leads_4 : decode cL_leads 4 = .ok (.invokevirtual 76, 3) := by decide +kernel
theorem dL_leads_7 : decode cL_leads 7 = .ok (.i2l, 1) := by decide +kernel
theorem dL_leads_8 : decode cL_leads 8 = .ok (.lastore, 1) := by decide +kernel
theorem dL_leads_9 : decode cL_leads 9 = .ok (.goto 6, 3) := by decide +kernel
theorem dL_leads_12 : decode cL_leads 12 = .ok (.astore_n 3, 1) := by decide +kernel
theorem dL_leads_13 : decode cL_leads 13 = .ok (.iconst 1, 1) := by decide +kernel
theorem dL_leads_14 : decode cL_leads 14 = .ok (.ireturn, 1) := by decide +kernel
theorem dL_leads_15 : decode cL_leads 15 = .ok (.iconst 0, 1) := by decide +kernel
theorem dL_leads_16 : decode cL_leads 16 = .ok (.ireturn, 1) := by decide +kernel
theorem dL_isStale_0 : decode cL_isStale 0 = .ok (.aload_n 2, 1) := by decide +kernel
theorem dL_isStale_1 : decode cL_isStale 1 = .ok (.iconst 0, 1) := by decide +kernel
theorem dL_isStale_2 : decode cL_isStale 2 = .ok (.aload_n 0, 1) := by decide +kernel
theorem dL_isStale_3 : decode cL_isStale 3 = .ok (.iload_n 1, 1) := by decide +kernel
theorem dL_isStale_4 : decode cL_isStale 4 = .ok (.invokevirtual 79, 3) := by decide +kernel
theorem dL_isStale_7 : decode cL_isStale 7 = .ok (.ifCond .eq 7, 3) := by decide +kernel
theorem dL_isStale_10 : decode cL_isStale 10 = .ok (.lconst 1, 1) := by decide +kernel
theorem dL_isStale_11 : decode cL_isStale 11 = .ok (.goto 4, 3) := by decide +kernel
theorem dL_isStale_14 : decode cL_isStale 14 = .ok (.lconst 0, 1) := by decide +kernel
theorem dL_isStale_15 : decode cL_isStale 15 = .ok (.lastore, 1) := by decide +kernel
theorem dL_isStale_16 : decode cL_isStale 16 = .ok (.goto 6, 3) := by decide +kernel
theorem dL_isStale_19 : decode cL_isStale 19 = .ok (.astore_n 3, 1) := by decide +kernel
theorem dL_isStale_20 : decode cL_isStale 20 = .ok (.iconst 1, 1) := by decide +kernel
theorem dL_isStale_21 : decode cL_isStale 21 = .ok (.ireturn, 1) := by decide +kernel
theorem dL_isStale_22 : decode cL_isStale 22 = .ok (.iconst 0, 1) := by decide +kernel
theorem dL_isStale_23 : decode cL_isStale 23 = .ok (.ireturn, 1) := by decide +kernel
theorem dL_shown_0 : decode cL_shown 0 = .ok (.aload_n 3, 1) := by decide +kernel
theorem dL_shown_1 : decode cL_shown 1 = .ok (.iconst 0, 1) := by decide +kernel
theorem dL_shown_2 : decode cL_shown 2 = .ok (.aload_n 0, 1) := by decide +kernel
theorem dL_shown_3 : decode cL_shown 3 = .ok (.iload_n 1, 1) := by decide +kernel
theorem dL_shown_4 : decode cL_shown 4 = .ok (.iload_n 2, 1) := by decide +kernel
theorem dL_shown_5 : decode cL_shown 5 = .ok (.invokevirtual 83, 3) := by decide +kernel
theorem dL_shown_8 : decode cL_shown 8 = .ok (.i2l, 1) := by decide +kernel
theorem dL_shown_9 : decode cL_shown 9 = .ok (.lastore, 1) := by decide +kernel
theorem dL_shown_10 : decode cL_shown 10 = .ok (.goto 7, 3) := by decide +kernel
theorem dL_shown_13 : decode cL_shown 13 = .ok (.astore 4, 2) := by decide +kernel
theorem dL_shown_15 : decode cL_shown 15 = .ok (.iconst 1, 1) := by decide +kernel
theorem dL_shown_16 : decode cL_shown 16 = .ok (.ireturn, 1) := by decide +kernel
theorem dL_shown_17 : decode cL_shown 17 = .ok (.iconst 0, 1) := by decide +kernel
theorem dL_shown_18 : decode cL_shown 18 = .ok (.ireturn, 1) := by decide +kernel
theorem dL_shownAnew_0 : decode cL_shownAnew 0 = .ok (.aload_n 3, 1) := by decide +kernel
theorem dL_shownAnew_1 : decode cL_shownAnew 1 = .ok (.iconst 0, 1) := by decide +kernel
theorem dL_shownAnew_2 : decode cL_shownAnew 2 = .ok (.aload_n 0, 1) := by decide +kernel
theorem dL_shownAnew_3 : decode cL_shownAnew 3 = .ok (.iload_n 1, 1) := by decide +kernel
theorem dL_shownAnew_4 : decode cL_shownAnew 4 = .ok (.iload_n 2, 1) := by decide +kernel
theorem dL_shownAnew_5 : decode cL_shownAnew 5 = .ok (.invokevirtual 86, 3) := by decide +kernel
theorem dL_shownAnew_8 : decode cL_shownAnew 8 = .ok (.i2l, 1) := by decide +kernel
theorem dL_shownAnew_9 : decode cL_shownAnew 9 = .ok (.lastore, 1) := by decide +kernel
theorem dL_shownAnew_10 : decode cL_shownAnew 10 = .ok (.goto 7, 3) := by decide +kernel
theorem dL_shownAnew_13 : decode cL_shownAnew 13 = .ok (.astore 4, 2) := by decide +kernel
theorem dL_shownAnew_15 : decode cL_shownAnew 15 = .ok (.iconst 1, 1) := by decide +kernel
theorem dL_shownAnew_16 : decode cL_shownAnew 16 = .ok (.ireturn, 1) := by decide +kernel
theorem dL_shownAnew_17 : decode cL_shownAnew 17 = .ok (.iconst 0, 1) := by decide +kernel
theorem dL_shownAnew_18 : decode cL_shownAnew 18 = .ok (.ireturn, 1) := by decide +kernel
theorem dL_approvedAt_0 : decode cL_approvedAt 0 = .ok (.aload_n 3, 1) := by decide +kernel
theorem dL_approvedAt_1 : decode cL_approvedAt 1 = .ok (.iconst 0, 1) := by decide +kernel
theorem dL_approvedAt_2 : decode cL_approvedAt 2 = .ok (.aload_n 0, 1) := by decide +kernel
theorem dL_approvedAt_3 : decode cL_approvedAt 3 = .ok (.iload_n 1, 1) := by decide +kernel
theorem dL_approvedAt_4 : decode cL_approvedAt 4 = .ok (.iload_n 2, 1) := by decide +kernel
theorem dL_approvedAt_5 : decode cL_approvedAt 5 = .ok (.invokevirtual 89, 3) := by decide +kernel
theorem dL_approvedAt_8 : decode cL_approvedAt 8 = .ok (.i2l, 1) := by decide +kernel
theorem dL_approvedAt_9 : decode cL_approvedAt 9 = .ok (.lastore, 1) := by decide +kernel
theorem dL_approvedAt_10 : decode cL_approvedAt 10 = .ok (.goto 7, 3) := by decide +kernel
theorem dL_approvedAt_13 : decode cL_approvedAt 13 = .ok (.astore 4, 2) := by decide +kernel
theorem dL_approvedAt_15 : decode cL_approvedAt 15 = .ok (.iconst 1, 1) := by decide +kernel
theorem dL_approvedAt_16 : decode cL_approvedAt 16 = .ok (.ireturn, 1) := by decide +kernel
theorem dL_approvedAt_17 : decode cL_approvedAt 17 = .ok (.iconst 0, 1) := by decide +kernel
theorem dL_approvedAt_18 : decode cL_approvedAt 18 = .ok (.ireturn, 1) := by decide +kernel
theorem dL_linked_0 : decode cL_linked 0 = .ok (.aload_n 3, 1) := by decide +kernel
theorem dL_linked_1 : decode cL_linked 1 = .ok (.iconst 0, 1) := by decide +kernel
theorem dL_linked_2 : decode cL_linked 2 = .ok (.aload_n 0, 1) := by decide +kernel
theorem dL_linked_3 : decode cL_linked 3 = .ok (.iload_n 1, 1) := by decide +kernel
theorem dL_linked_4 : decode cL_linked 4 = .ok (.iload_n 2, 1) := by decide +kernel
theorem dL_linked_5 : decode cL_linked 5 = .ok (.invokevirtual 92, 3) := by decide +kernel
theorem dL_linked_8 : decode cL_linked 8 = .ok (.i2l, 1) := by decide +kernel
theorem dL_linked_9 : decode cL_linked 9 = .ok (.lastore, 1) := by decide +kernel
theorem dL_linked_10 : decode cL_linked 10 = .ok (.goto 7, 3) := by decide +kernel
theorem dL_linked_13 : decode cL_linked 13 = .ok (.astore 4, 2) := by decide +kernel
theorem dL_linked_15 : decode cL_linked 15 = .ok (.iconst 1, 1) := by decide +kernel
theorem dL_linked_16 : decode cL_linked 16 = .ok (.ireturn, 1) := by decide +kernel
theorem dL_linked_17 : decode cL_linked 17 = .ok (.iconst 0, 1) := by decide +kernel
theorem dL_linked_18 : decode cL_linked 18 = .ok (.ireturn, 1) := by decide +kernel
theorem dL_members_0 : decode cL_members 0 = .ok (.aload_n 2, 1) := by decide +kernel
theorem dL_members_1 : decode cL_members 1 = .ok (.iconst 0, 1) := by decide +kernel
theorem dL_members_2 : decode cL_members 2 = .ok (.aload_n 0, 1) := by decide +kernel
theorem dL_members_3 : decode cL_members 3 = .ok (.iload_n 1, 1) := by decide +kernel
theorem dL_members_4 : decode cL_members 4 = .ok (.invokevirtual 95, 3) := by decide +kernel
theorem dL_members_7 : decode cL_members 7 = .ok (.i2l, 1) := by decide +kernel
theorem dL_members_8 : decode cL_members 8 = .ok (.lastore, 1) := by decide +kernel
theorem dL_members_9 : decode cL_members 9 = .ok (.goto 6, 3) := by decide +kernel
theorem dL_members_12 : decode cL_members 12 = .ok (.astore_n 3, 1) := by decide +kernel
theorem dL_members_13 : decode cL_members 13 = .ok (.iconst 1, 1) := by decide +kernel
theorem dL_members_14 : decode cL_members 14 = .ok (.ireturn, 1) := by decide +kernel
theorem dL_members_15 : decode cL_members 15 = .ok (.iconst 0, 1) := by decide +kernel
theorem dL_members_16 : decode cL_members 16 = .ok (.ireturn, 1) := by decide +kernel
theorem dL_inLanguage_0 : decode cL_inLanguage 0 = .ok (.aload_n 3, 1) := by decide +kernel
theorem dL_inLanguage_1 : decode cL_inLanguage 1 = .ok (.iconst 0, 1) := by decide +kernel
theorem dL_inLanguage_2 : decode cL_inLanguage 2 = .ok (.aload_n 0, 1) := by decide +kernel
theorem dL_inLanguage_3 : decode cL_inLanguage 3 = .ok (.iload_n 1, 1) := by decide +kernel
theorem dL_inLanguage_4 : decode cL_inLanguage 4 = .ok (.iload_n 2, 1) := by decide +kernel
theorem dL_inLanguage_5 : decode cL_inLanguage 5 = .ok (.invokevirtual 98, 3) := by decide +kernel
theorem dL_inLanguage_8 : decode cL_inLanguage 8 = .ok (.i2l, 1) := by decide +kernel
theorem dL_inLanguage_9 : decode cL_inLanguage 9 = .ok (.lastore, 1) := by decide +kernel
theorem dL_inLanguage_10 : decode cL_inLanguage 10 = .ok (.goto 11, 3) := by decide +kernel
theorem dL_inLanguage_13 : decode cL_inLanguage 13 = .ok (.astore 4, 2) := by decide +kernel
theorem dL_inLanguage_15 : decode cL_inLanguage 15 = .ok (.iconst 1, 1) := by decide +kernel
theorem dL_inLanguage_16 : decode cL_inLanguage 16 = .ok (.ireturn, 1) := by decide +kernel
theorem dL_inLanguage_17 : decode cL_inLanguage 17 = .ok (.astore 4, 2) := by decide +kernel
theorem dL_inLanguage_19 : decode cL_inLanguage 19 = .ok (.iconst 2, 1) := by decide +kernel
theorem dL_inLanguage_20 : decode cL_inLanguage 20 = .ok (.ireturn, 1) := by decide +kernel
theorem dL_inLanguage_21 : decode cL_inLanguage 21 = .ok (.iconst 0, 1) := by decide +kernel
theorem dL_inLanguage_22 : decode cL_inLanguage 22 = .ok (.ireturn, 1) := by decide +kernel
theorem dL_isOutdated_0 : decode cL_isOutdated 0 = .ok (.aload_n 3, 1) := by decide +kernel
theorem dL_isOutdated_1 : decode cL_isOutdated 1 = .ok (.iconst 0, 1) := by decide +kernel
theorem dL_isOutdated_2 : decode cL_isOutdated 2 = .ok (.aload_n 0, 1) := by decide +kernel
theorem dL_isOutdated_3 : decode cL_isOutdated 3 = .ok (.iload_n 1, 1) := by decide +kernel
theorem dL_isOutdated_4 : decode cL_isOutdated 4 = .ok (.iload_n 2, 1) := by decide +kernel
theorem dL_isOutdated_5 : decode cL_isOutdated 5 = .ok (.invokevirtual 101, 3) := by decide +kernel
theorem dL_isOutdated_8 : decode cL_isOutdated 8 = .ok (.ifCond .eq 7, 3) := by decide +kernel
theorem dL_isOutdated_11 : decode cL_isOutdated 11 = .ok (.lconst 1, 1) := by decide +kernel
theorem dL_isOutdated_12 : decode cL_isOutdated 12 = .ok (.goto 4, 3) := by decide +kernel
theorem dL_isOutdated_15 : decode cL_isOutdated 15 = .ok (.lconst 0, 1) := by decide +kernel
theorem dL_isOutdated_16 : decode cL_isOutdated 16 = .ok (.lastore, 1) := by decide +kernel
theorem dL_isOutdated_17 : decode cL_isOutdated 17 = .ok (.goto 11, 3) := by decide +kernel
theorem dL_isOutdated_20 : decode cL_isOutdated 20 = .ok (.astore 4, 2) := by decide +kernel
theorem dL_isOutdated_22 : decode cL_isOutdated 22 = .ok (.iconst 1, 1) := by decide +kernel
theorem dL_isOutdated_23 : decode cL_isOutdated 23 = .ok (.ireturn, 1) := by decide +kernel
theorem dL_isOutdated_24 : decode cL_isOutdated 24 = .ok (.astore 4, 2) := by decide +kernel
theorem dL_isOutdated_26 : decode cL_isOutdated 26 = .ok (.iconst 2, 1) := by decide +kernel
theorem dL_isOutdated_27 : decode cL_isOutdated 27 = .ok (.ireturn, 1) := by decide +kernel
theorem dL_isOutdated_28 : decode cL_isOutdated 28 = .ok (.iconst 0, 1) := by decide +kernel
theorem dL_isOutdated_29 : decode cL_isOutdated 29 = .ok (.ireturn, 1) := by decide +kernel
theorem dL_law_0 : decode cL_law 0 = .ok (.new 8, 3) := by decide +kernel
theorem dL_law_3 : decode cL_law 3 = .ok (.dup, 1) := by decide +kernel
theorem dL_law_4 : decode cL_law 4 = .ok (.invokespecial 105, 3) := by decide +kernel
theorem dL_law_7 : decode cL_law 7 = .ok (.astore_n 1, 1) := by decide +kernel
theorem dL_law_8 : decode cL_law 8 = .ok (.new 106, 3) := by decide +kernel
theorem dL_law_11 : decode cL_law 11 = .ok (.dup, 1) := by decide +kernel
theorem dL_law_12 : decode cL_law 12 = .ok (.invokespecial 108, 3) := by decide +kernel
theorem dL_law_15 : decode cL_law 15 = .ok (.astore_n 2, 1) := by decide +kernel
theorem dL_law_16 : decode cL_law 16 = .ok (.iconst 1, 1) := by decide +kernel
theorem dL_law_17 : decode cL_law 17 = .ok (.newarray .long, 2) := by decide +kernel
theorem dL_law_19 : decode cL_law 19 = .ok (.astore_n 3, 1) := by decide +kernel
theorem dL_law_20 : decode cL_law 20 = .ok (.iconst 0, 1) := by decide +kernel
theorem dL_law_21 : decode cL_law 21 = .ok (.istore 4, 2) := by decide +kernel
theorem dL_law_23 : decode cL_law 23 = .ok (.iload 4, 2) := by decide +kernel
theorem dL_law_25 : decode cL_law 25 = .ok (.aload_n 0, 1) := by decide +kernel
theorem dL_law_26 : decode cL_law 26 = .ok (.arraylength, 1) := by decide +kernel
theorem dL_law_27 : decode cL_law 27 = .ok (.iconst 4, 1) := by decide +kernel
theorem dL_law_28 : decode cL_law 28 = .ok (.isub, 1) := by decide +kernel
theorem dL_law_29 : decode cL_law 29 = .ok (.if_icmp .gt 2099, 3) := by decide +kernel
theorem dL_law_32 : decode cL_law 32 = .ok (.aload_n 0, 1) := by decide +kernel
theorem dL_law_33 : decode cL_law 33 = .ok (.iload 4, 2) := by decide +kernel
theorem dL_law_35 : decode cL_law 35 = .ok (.iaload, 1) := by decide +kernel
theorem dL_law_36 : decode cL_law 36 = .ok (.bipush 31, 2) := by decide +kernel
theorem dL_law_38 : decode cL_law 38 = .ok (.iand, 1) := by decide +kernel
theorem dL_law_39 : decode cL_law 39 = .ok (.tableswitch 2083 0 31 #[141, 209, 222, 278, 346, 402, 482, 550, 618, 686, 754, 810, 890, 970, 1026, 1094, 1150, 1234, 1247, 1303, 1371, 1439, 1495, 1558, 1571, 1639, 1707, 1775, 1843, 1899, 1940, 2008], 141) := by decide +kernel
theorem dL_law_180 : decode cL_law 180 = .ok (.aload_n 1, 1) := by decide +kernel
theorem dL_law_181 : decode cL_law 181 = .ok (.aload_n 0, 1) := by decide +kernel
theorem dL_law_182 : decode cL_law 182 = .ok (.iload 4, 2) := by decide +kernel
theorem dL_law_184 : decode cL_law 184 = .ok (.iconst 1, 1) := by decide +kernel
theorem dL_law_185 : decode cL_law 185 = .ok (.iadd, 1) := by decide +kernel
theorem dL_law_186 : decode cL_law 186 = .ok (.iaload, 1) := by decide +kernel
theorem dL_law_187 : decode cL_law 187 = .ok (.aload_n 0, 1) := by decide +kernel
theorem dL_law_188 : decode cL_law 188 = .ok (.iload 4, 2) := by decide +kernel
theorem dL_law_190 : decode cL_law 190 = .ok (.iconst 2, 1) := by decide +kernel
theorem dL_law_191 : decode cL_law 191 = .ok (.iadd, 1) := by decide +kernel
theorem dL_law_192 : decode cL_law 192 = .ok (.iaload, 1) := by decide +kernel
theorem dL_law_193 : decode cL_law 193 = .ok (.aload_n 3, 1) := by decide +kernel
theorem dL_law_194 : decode cL_law 194 = .ok (.invokestatic 109, 3) := by decide +kernel
theorem dL_law_197 : decode cL_law 197 = .ok (.istore 5, 2) := by decide +kernel
theorem dL_law_199 : decode cL_law 199 = .ok (.aload_n 2, 1) := by decide +kernel
theorem dL_law_200 : decode cL_law 200 = .ok (.aload_n 0, 1) := by decide +kernel
theorem dL_law_201 : decode cL_law 201 = .ok (.iload 4, 2) := by decide +kernel
theorem dL_law_203 : decode cL_law 203 = .ok (.iconst 1, 1) := by decide +kernel
theorem dL_law_204 : decode cL_law 204 = .ok (.iadd, 1) := by decide +kernel
theorem dL_law_205 : decode cL_law 205 = .ok (.iaload, 1) := by decide +kernel
theorem dL_law_206 : decode cL_law 206 = .ok (.aload_n 0, 1) := by decide +kernel
theorem dL_law_207 : decode cL_law 207 = .ok (.iload 4, 2) := by decide +kernel
theorem dL_law_209 : decode cL_law 209 = .ok (.iconst 2, 1) := by decide +kernel
theorem dL_law_210 : decode cL_law 210 = .ok (.iadd, 1) := by decide +kernel
theorem dL_law_211 : decode cL_law 211 = .ok (.iaload, 1) := by decide +kernel
theorem dL_law_212 : decode cL_law 212 = .ok (.invokevirtual 114, 3) := by decide +kernel
theorem dL_law_215 : decode cL_law 215 = .ok (.istore 6, 2) := by decide +kernel
theorem dL_law_217 : decode cL_law 217 = .ok (.aload_n 2, 1) := by decide +kernel
theorem dL_law_218 : decode cL_law 218 = .ok (.invokevirtual 115, 3) := by decide +kernel
theorem dL_law_221 : decode cL_law 221 = .ok (.iload 5, 2) := by decide +kernel
theorem dL_law_223 : decode cL_law 223 = .ok (.if_icmp .eq 5, 3) := by decide +kernel
theorem dL_law_226 : decode cL_law 226 = .ok (.iconst 0, 1) := by decide +kernel
theorem dL_law_227 : decode cL_law 227 = .ok (.ireturn, 1) := by decide +kernel
theorem dL_law_228 : decode cL_law 228 = .ok (.iload 5, 2) := by decide +kernel
theorem dL_law_230 : decode cL_law 230 = .ok (.ifCond .ne 15, 3) := by decide +kernel
theorem dL_law_233 : decode cL_law 233 = .ok (.aload_n 3, 1) := by decide +kernel
theorem dL_law_234 : decode cL_law 234 = .ok (.iconst 0, 1) := by decide +kernel
theorem dL_law_235 : decode cL_law 235 = .ok (.laload, 1) := by decide +kernel
theorem dL_law_236 : decode cL_law 236 = .ok (.iload 6, 2) := by decide +kernel
theorem dL_law_238 : decode cL_law 238 = .ok (.i2l, 1) := by decide +kernel
theorem dL_law_239 : decode cL_law 239 = .ok (.lcmp, 1) := by decide +kernel
theorem dL_law_240 : decode cL_law 240 = .ok (.ifCond .eq 5, 3) := by decide +kernel
theorem dL_law_243 : decode cL_law 243 = .ok (.iconst 0, 1) := by decide +kernel
theorem dL_law_244 : decode cL_law 244 = .ok (.ireturn, 1) := by decide +kernel
theorem dL_law_245 : decode cL_law 245 = .ok (.goto 1877, 3) := by decide +kernel
theorem dL_law_248 : decode cL_law 248 = .ok (.aload_n 1, 1) := by decide +kernel
theorem dL_law_249 : decode cL_law 249 = .ok (.invokevirtual 119, 3) := by decide +kernel
theorem dL_law_252 : decode cL_law 252 = .ok (.aload_n 2, 1) := by decide +kernel
theorem dL_law_253 : decode cL_law 253 = .ok (.invokevirtual 122, 3) := by decide +kernel
theorem dL_law_256 : decode cL_law 256 = .ok (.if_icmp .eq 1866, 3) := by decide +kernel
theorem dL_law_259 : decode cL_law 259 = .ok (.iconst 0, 1) := by decide +kernel
theorem dL_law_260 : decode cL_law 260 = .ok (.ireturn, 1) := by decide +kernel
theorem dL_law_261 : decode cL_law 261 = .ok (.aload_n 1, 1) := by decide +kernel
theorem dL_law_262 : decode cL_law 262 = .ok (.aload_n 0, 1) := by decide +kernel
theorem dL_law_263 : decode cL_law 263 = .ok (.iload 4, 2) := by decide +kernel
theorem dL_law_265 : decode cL_law 265 = .ok (.iconst 1, 1) := by decide +kernel
theorem dL_law_266 : decode cL_law 266 = .ok (.iadd, 1) := by decide +kernel
theorem dL_law_267 : decode cL_law 267 = .ok (.iaload, 1) := by decide +kernel
theorem dL_law_268 : decode cL_law 268 = .ok (.aload_n 3, 1) := by decide +kernel
theorem dL_law_269 : decode cL_law 269 = .ok (.invokestatic 123, 3) := by decide +kernel
theorem dL_law_272 : decode cL_law 272 = .ok (.istore 5, 2) := by decide +kernel
theorem dL_law_274 : decode cL_law 274 = .ok (.aload_n 2, 1) := by decide +kernel
theorem dL_law_275 : decode cL_law 275 = .ok (.aload_n 0, 1) := by decide +kernel
theorem dL_law_276 : decode cL_law 276 = .ok (.iload 4, 2) := by decide +kernel
theorem dL_law_278 : decode cL_law 278 = .ok (.iconst 1, 1) := by decide +kernel
theorem dL_law_279 : decode cL_law 279 = .ok (.iadd, 1) := by decide +kernel
theorem dL_law_280 : decode cL_law 280 = .ok (.iaload, 1) := by decide +kernel
theorem dL_law_281 : decode cL_law 281 = .ok (.invokevirtual 126, 3) := by decide +kernel
theorem dL_law_284 : decode cL_law 284 = .ok (.istore 6, 2) := by decide +kernel
theorem dL_law_286 : decode cL_law 286 = .ok (.aload_n 2, 1) := by decide +kernel
theorem dL_law_287 : decode cL_law 287 = .ok (.invokevirtual 115, 3) := by decide +kernel
theorem dL_law_290 : decode cL_law 290 = .ok (.iload 5, 2) := by decide +kernel
theorem dL_law_292 : decode cL_law 292 = .ok (.if_icmp .eq 5, 3) := by decide +kernel
theorem dL_law_295 : decode cL_law 295 = .ok (.iconst 0, 1) := by decide +kernel
theorem dL_law_296 : decode cL_law 296 = .ok (.ireturn, 1) := by decide +kernel
theorem dL_law_297 : decode cL_law 297 = .ok (.iload 5, 2) := by decide +kernel
theorem dL_law_299 : decode cL_law 299 = .ok (.ifCond .ne 15, 3) := by decide +kernel
theorem dL_law_302 : decode cL_law 302 = .ok (.aload_n 3, 1) := by decide +kernel
theorem dL_law_303 : decode cL_law 303 = .ok (.iconst 0, 1) := by decide +kernel
theorem dL_law_304 : decode cL_law 304 = .ok (.laload, 1) := by decide +kernel
theorem dL_law_305 : decode cL_law 305 = .ok (.iload 6, 2) := by decide +kernel
theorem dL_law_307 : decode cL_law 307 = .ok (.i2l, 1) := by decide +kernel
theorem dL_law_308 : decode cL_law 308 = .ok (.lcmp, 1) := by decide +kernel
theorem dL_law_309 : decode cL_law 309 = .ok (.ifCond .eq 5, 3) := by decide +kernel
theorem dL_law_312 : decode cL_law 312 = .ok (.iconst 0, 1) := by decide +kernel
theorem dL_law_313 : decode cL_law 313 = .ok (.ireturn, 1) := by decide +kernel
theorem dL_law_314 : decode cL_law 314 = .ok (.goto 1808, 3) := by decide +kernel
theorem dL_law_317 : decode cL_law 317 = .ok (.aload_n 1, 1) := by decide +kernel
theorem dL_law_318 : decode cL_law 318 = .ok (.aload_n 0, 1) := by decide +kernel
theorem dL_law_319 : decode cL_law 319 = .ok (.iload 4, 2) := by decide +kernel
theorem dL_law_321 : decode cL_law 321 = .ok (.iconst 1, 1) := by decide +kernel
theorem dL_law_322 : decode cL_law 322 = .ok (.iadd, 1) := by decide +kernel
theorem dL_law_323 : decode cL_law 323 = .ok (.iaload, 1) := by decide +kernel
theorem dL_law_324 : decode cL_law 324 = .ok (.aload_n 0, 1) := by decide +kernel
theorem dL_law_325 : decode cL_law 325 = .ok (.iload 4, 2) := by decide +kernel
theorem dL_law_327 : decode cL_law 327 = .ok (.iconst 2, 1) := by decide +kernel
theorem dL_law_328 : decode cL_law 328 = .ok (.iadd, 1) := by decide +kernel
theorem dL_law_329 : decode cL_law 329 = .ok (.iaload, 1) := by decide +kernel
theorem dL_law_330 : decode cL_law 330 = .ok (.aload_n 3, 1) := by decide +kernel
theorem dL_law_331 : decode cL_law 331 = .ok (.invokestatic 127, 3) := by decide +kernel
theorem dL_law_334 : decode cL_law 334 = .ok (.istore 5, 2) := by decide +kernel
theorem dL_law_336 : decode cL_law 336 = .ok (.aload_n 2, 1) := by decide +kernel
theorem dL_law_337 : decode cL_law 337 = .ok (.aload_n 0, 1) := by decide +kernel
theorem dL_law_338 : decode cL_law 338 = .ok (.iload 4, 2) := by decide +kernel
theorem dL_law_340 : decode cL_law 340 = .ok (.iconst 1, 1) := by decide +kernel
theorem dL_law_341 : decode cL_law 341 = .ok (.iadd, 1) := by decide +kernel
theorem dL_law_342 : decode cL_law 342 = .ok (.iaload, 1) := by decide +kernel
theorem dL_law_343 : decode cL_law 343 = .ok (.aload_n 0, 1) := by decide +kernel
theorem dL_law_344 : decode cL_law 344 = .ok (.iload 4, 2) := by decide +kernel
theorem dL_law_346 : decode cL_law 346 = .ok (.iconst 2, 1) := by decide +kernel
theorem dL_law_347 : decode cL_law 347 = .ok (.iadd, 1) := by decide +kernel
theorem dL_law_348 : decode cL_law 348 = .ok (.iaload, 1) := by decide +kernel
theorem dL_law_349 : decode cL_law 349 = .ok (.invokevirtual 129, 3) := by decide +kernel
theorem dL_law_352 : decode cL_law 352 = .ok (.istore 6, 2) := by decide +kernel
theorem dL_law_354 : decode cL_law 354 = .ok (.aload_n 2, 1) := by decide +kernel
theorem dL_law_355 : decode cL_law 355 = .ok (.invokevirtual 115, 3) := by decide +kernel
theorem dL_law_358 : decode cL_law 358 = .ok (.iload 5, 2) := by decide +kernel
theorem dL_law_360 : decode cL_law 360 = .ok (.if_icmp .eq 5, 3) := by decide +kernel
theorem dL_law_363 : decode cL_law 363 = .ok (.iconst 0, 1) := by decide +kernel
theorem dL_law_364 : decode cL_law 364 = .ok (.ireturn, 1) := by decide +kernel
theorem dL_law_365 : decode cL_law 365 = .ok (.iload 5, 2) := by decide +kernel
theorem dL_law_367 : decode cL_law 367 = .ok (.ifCond .ne 15, 3) := by decide +kernel
theorem dL_law_370 : decode cL_law 370 = .ok (.aload_n 3, 1) := by decide +kernel
theorem dL_law_371 : decode cL_law 371 = .ok (.iconst 0, 1) := by decide +kernel
theorem dL_law_372 : decode cL_law 372 = .ok (.laload, 1) := by decide +kernel
theorem dL_law_373 : decode cL_law 373 = .ok (.iload 6, 2) := by decide +kernel
theorem dL_law_375 : decode cL_law 375 = .ok (.i2l, 1) := by decide +kernel
theorem dL_law_376 : decode cL_law 376 = .ok (.lcmp, 1) := by decide +kernel
theorem dL_law_377 : decode cL_law 377 = .ok (.ifCond .eq 5, 3) := by decide +kernel
theorem dL_law_380 : decode cL_law 380 = .ok (.iconst 0, 1) := by decide +kernel
theorem dL_law_381 : decode cL_law 381 = .ok (.ireturn, 1) := by decide +kernel
theorem dL_law_382 : decode cL_law 382 = .ok (.goto 1740, 3) := by decide +kernel
theorem dL_law_385 : decode cL_law 385 = .ok (.aload_n 1, 1) := by decide +kernel
theorem dL_law_386 : decode cL_law 386 = .ok (.aload_n 0, 1) := by decide +kernel
theorem dL_law_387 : decode cL_law 387 = .ok (.iload 4, 2) := by decide +kernel
theorem dL_law_389 : decode cL_law 389 = .ok (.iconst 1, 1) := by decide +kernel
theorem dL_law_390 : decode cL_law 390 = .ok (.iadd, 1) := by decide +kernel
theorem dL_law_391 : decode cL_law 391 = .ok (.iaload, 1) := by decide +kernel
theorem dL_law_392 : decode cL_law 392 = .ok (.aload_n 3, 1) := by decide +kernel
theorem dL_law_393 : decode cL_law 393 = .ok (.invokestatic 130, 3) := by decide +kernel
theorem dL_law_396 : decode cL_law 396 = .ok (.istore 5, 2) := by decide +kernel
theorem dL_law_398 : decode cL_law 398 = .ok (.aload_n 2, 1) := by decide +kernel
theorem dL_law_399 : decode cL_law 399 = .ok (.aload_n 0, 1) := by decide +kernel
theorem dL_law_400 : decode cL_law 400 = .ok (.iload 4, 2) := by decide +kernel
theorem dL_law_402 : decode cL_law 402 = .ok (.iconst 1, 1) := by decide +kernel
theorem dL_law_403 : decode cL_law 403 = .ok (.iadd, 1) := by decide +kernel
theorem dL_law_404 : decode cL_law 404 = .ok (.iaload, 1) := by decide +kernel
theorem dL_law_405 : decode cL_law 405 = .ok (.invokevirtual 132, 3) := by decide +kernel
theorem dL_law_408 : decode cL_law 408 = .ok (.istore 6, 2) := by decide +kernel
theorem dL_law_410 : decode cL_law 410 = .ok (.aload_n 2, 1) := by decide +kernel
theorem dL_law_411 : decode cL_law 411 = .ok (.invokevirtual 115, 3) := by decide +kernel
theorem dL_law_414 : decode cL_law 414 = .ok (.iload 5, 2) := by decide +kernel
theorem dL_law_416 : decode cL_law 416 = .ok (.if_icmp .eq 5, 3) := by decide +kernel
theorem dL_law_419 : decode cL_law 419 = .ok (.iconst 0, 1) := by decide +kernel
theorem dL_law_420 : decode cL_law 420 = .ok (.ireturn, 1) := by decide +kernel
theorem dL_law_421 : decode cL_law 421 = .ok (.iload 5, 2) := by decide +kernel
theorem dL_law_423 : decode cL_law 423 = .ok (.ifCond .ne 15, 3) := by decide +kernel
theorem dL_law_426 : decode cL_law 426 = .ok (.aload_n 3, 1) := by decide +kernel
theorem dL_law_427 : decode cL_law 427 = .ok (.iconst 0, 1) := by decide +kernel
theorem dL_law_428 : decode cL_law 428 = .ok (.laload, 1) := by decide +kernel
theorem dL_law_429 : decode cL_law 429 = .ok (.iload 6, 2) := by decide +kernel
theorem dL_law_431 : decode cL_law 431 = .ok (.i2l, 1) := by decide +kernel
theorem dL_law_432 : decode cL_law 432 = .ok (.lcmp, 1) := by decide +kernel
theorem dL_law_433 : decode cL_law 433 = .ok (.ifCond .eq 5, 3) := by decide +kernel
theorem dL_law_436 : decode cL_law 436 = .ok (.iconst 0, 1) := by decide +kernel
theorem dL_law_437 : decode cL_law 437 = .ok (.ireturn, 1) := by decide +kernel
theorem dL_law_438 : decode cL_law 438 = .ok (.goto 1684, 3) := by decide +kernel
theorem dL_law_441 : decode cL_law 441 = .ok (.aload_n 1, 1) := by decide +kernel
theorem dL_law_442 : decode cL_law 442 = .ok (.aload_n 0, 1) := by decide +kernel
theorem dL_law_443 : decode cL_law 443 = .ok (.iload 4, 2) := by decide +kernel
theorem dL_law_445 : decode cL_law 445 = .ok (.iconst 1, 1) := by decide +kernel
theorem dL_law_446 : decode cL_law 446 = .ok (.iadd, 1) := by decide +kernel
theorem dL_law_447 : decode cL_law 447 = .ok (.iaload, 1) := by decide +kernel
theorem dL_law_448 : decode cL_law 448 = .ok (.aload_n 0, 1) := by decide +kernel
theorem dL_law_449 : decode cL_law 449 = .ok (.iload 4, 2) := by decide +kernel
theorem dL_law_451 : decode cL_law 451 = .ok (.iconst 2, 1) := by decide +kernel
theorem dL_law_452 : decode cL_law 452 = .ok (.iadd, 1) := by decide +kernel
theorem dL_law_453 : decode cL_law 453 = .ok (.iaload, 1) := by decide +kernel
theorem dL_law_454 : decode cL_law 454 = .ok (.aload_n 0, 1) := by decide +kernel
theorem dL_law_455 : decode cL_law 455 = .ok (.iload 4, 2) := by decide +kernel
theorem dL_law_457 : decode cL_law 457 = .ok (.iconst 3, 1) := by decide +kernel
theorem dL_law_458 : decode cL_law 458 = .ok (.iadd, 1) := by decide +kernel
theorem dL_law_459 : decode cL_law 459 = .ok (.iaload, 1) := by decide +kernel
theorem dL_law_460 : decode cL_law 460 = .ok (.aload_n 3, 1) := by decide +kernel
theorem dL_law_461 : decode cL_law 461 = .ok (.invokestatic 133, 3) := by decide +kernel
theorem dL_law_464 : decode cL_law 464 = .ok (.istore 5, 2) := by decide +kernel
theorem dL_law_466 : decode cL_law 466 = .ok (.aload_n 2, 1) := by decide +kernel
theorem dL_law_467 : decode cL_law 467 = .ok (.aload_n 0, 1) := by decide +kernel
theorem dL_law_468 : decode cL_law 468 = .ok (.iload 4, 2) := by decide +kernel
theorem dL_law_470 : decode cL_law 470 = .ok (.iconst 1, 1) := by decide +kernel
theorem dL_law_471 : decode cL_law 471 = .ok (.iadd, 1) := by decide +kernel
theorem dL_law_472 : decode cL_law 472 = .ok (.iaload, 1) := by decide +kernel
theorem dL_law_473 : decode cL_law 473 = .ok (.aload_n 0, 1) := by decide +kernel
theorem dL_law_474 : decode cL_law 474 = .ok (.iload 4, 2) := by decide +kernel
theorem dL_law_476 : decode cL_law 476 = .ok (.iconst 2, 1) := by decide +kernel
theorem dL_law_477 : decode cL_law 477 = .ok (.iadd, 1) := by decide +kernel
theorem dL_law_478 : decode cL_law 478 = .ok (.iaload, 1) := by decide +kernel
theorem dL_law_479 : decode cL_law 479 = .ok (.aload_n 0, 1) := by decide +kernel
theorem dL_law_480 : decode cL_law 480 = .ok (.iload 4, 2) := by decide +kernel
theorem dL_law_482 : decode cL_law 482 = .ok (.iconst 3, 1) := by decide +kernel
theorem dL_law_483 : decode cL_law 483 = .ok (.iadd, 1) := by decide +kernel
theorem dL_law_484 : decode cL_law 484 = .ok (.iaload, 1) := by decide +kernel
theorem dL_law_485 : decode cL_law 485 = .ok (.invokevirtual 136, 3) := by decide +kernel
theorem dL_law_488 : decode cL_law 488 = .ok (.istore 6, 2) := by decide +kernel
theorem dL_law_490 : decode cL_law 490 = .ok (.aload_n 2, 1) := by decide +kernel
theorem dL_law_491 : decode cL_law 491 = .ok (.invokevirtual 115, 3) := by decide +kernel
theorem dL_law_494 : decode cL_law 494 = .ok (.iload 5, 2) := by decide +kernel
theorem dL_law_496 : decode cL_law 496 = .ok (.if_icmp .eq 5, 3) := by decide +kernel
theorem dL_law_499 : decode cL_law 499 = .ok (.iconst 0, 1) := by decide +kernel
theorem dL_law_500 : decode cL_law 500 = .ok (.ireturn, 1) := by decide +kernel
theorem dL_law_501 : decode cL_law 501 = .ok (.iload 5, 2) := by decide +kernel
theorem dL_law_503 : decode cL_law 503 = .ok (.ifCond .ne 15, 3) := by decide +kernel
theorem dL_law_506 : decode cL_law 506 = .ok (.aload_n 3, 1) := by decide +kernel
theorem dL_law_507 : decode cL_law 507 = .ok (.iconst 0, 1) := by decide +kernel
theorem dL_law_508 : decode cL_law 508 = .ok (.laload, 1) := by decide +kernel
theorem dL_law_509 : decode cL_law 509 = .ok (.iload 6, 2) := by decide +kernel
theorem dL_law_511 : decode cL_law 511 = .ok (.i2l, 1) := by decide +kernel
theorem dL_law_512 : decode cL_law 512 = .ok (.lcmp, 1) := by decide +kernel
theorem dL_law_513 : decode cL_law 513 = .ok (.ifCond .eq 5, 3) := by decide +kernel
theorem dL_law_516 : decode cL_law 516 = .ok (.iconst 0, 1) := by decide +kernel
theorem dL_law_517 : decode cL_law 517 = .ok (.ireturn, 1) := by decide +kernel
theorem dL_law_518 : decode cL_law 518 = .ok (.goto 1604, 3) := by decide +kernel
theorem dL_law_521 : decode cL_law 521 = .ok (.aload_n 1, 1) := by decide +kernel
theorem dL_law_522 : decode cL_law 522 = .ok (.aload_n 0, 1) := by decide +kernel
theorem dL_law_523 : decode cL_law 523 = .ok (.iload 4, 2) := by decide +kernel
theorem dL_law_525 : decode cL_law 525 = .ok (.iconst 1, 1) := by decide +kernel
theorem dL_law_526 : decode cL_law 526 = .ok (.iadd, 1) := by decide +kernel
theorem dL_law_527 : decode cL_law 527 = .ok (.iaload, 1) := by decide +kernel
theorem dL_law_528 : decode cL_law 528 = .ok (.aload_n 0, 1) := by decide +kernel
theorem dL_law_529 : decode cL_law 529 = .ok (.iload 4, 2) := by decide +kernel
theorem dL_law_531 : decode cL_law 531 = .ok (.iconst 2, 1) := by decide +kernel
theorem dL_law_532 : decode cL_law 532 = .ok (.iadd, 1) := by decide +kernel
theorem dL_law_533 : decode cL_law 533 = .ok (.iaload, 1) := by decide +kernel
theorem dL_law_534 : decode cL_law 534 = .ok (.aload_n 3, 1) := by decide +kernel
theorem dL_law_535 : decode cL_law 535 = .ok (.invokestatic 137, 3) := by decide +kernel
theorem dL_law_538 : decode cL_law 538 = .ok (.istore 5, 2) := by decide +kernel
theorem dL_law_540 : decode cL_law 540 = .ok (.aload_n 2, 1) := by decide +kernel
theorem dL_law_541 : decode cL_law 541 = .ok (.aload_n 0, 1) := by decide +kernel
theorem dL_law_542 : decode cL_law 542 = .ok (.iload 4, 2) := by decide +kernel
theorem dL_law_544 : decode cL_law 544 = .ok (.iconst 1, 1) := by decide +kernel
