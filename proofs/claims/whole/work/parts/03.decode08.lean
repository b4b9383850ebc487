theorem dX12_move_21 : decode cX12_move 21 = .ok (.iconst (-1), 1) := by decide +kernel
theorem dX12_move_22 : decode cX12_move 22 = .ok (.if_icmp .ne 7, 3) := by decide +kernel
theorem dX12_move_25 : decode cX12_move 25 = .ok (.iconst 1, 1) := by decide +kernel
theorem dX12_move_26 : decode cX12_move 26 = .ok (.goto 43, 3) := by decide +kernel
theorem dX12_move_29 : decode cX12_move 29 = .ok (.aload_n 0, 1) := by decide +kernel
theorem dX12_move_30 : decode cX12_move 30 = .ok (.getfield 19, 3) := by decide +kernel
theorem dX12_move_33 : decode cX12_move 33 = .ok (.iload_n 2, 1) := by decide +kernel
theorem dX12_move_34 : decode cX12_move 34 = .ok (.iaload, 1) := by decide +kernel
theorem dX12_move_35 : decode cX12_move 35 = .ok (.iconst (-1), 1) := by decide +kernel
theorem dX12_move_36 : decode cX12_move 36 = .ok (.if_icmp .ne 28, 3) := by decide +kernel
theorem dX12_move_39 : decode cX12_move 39 = .ok (.aload_n 0, 1) := by decide +kernel
theorem dX12_move_40 : decode cX12_move 40 = .ok (.iload_n 1, 1) := by decide +kernel
theorem dX12_move_41 : decode cX12_move 41 = .ok (.invokevirtual 393, 3) := by decide +kernel
theorem dX12_move_44 : decode cX12_move 44 = .ok (.ifCond .eq 20, 3) := by decide +kernel
theorem dX12_move_47 : decode cX12_move 47 = .ok (.aload_n 0, 1) := by decide +kernel
theorem dX12_move_48 : decode cX12_move 48 = .ok (.iload_n 2, 1) := by decide +kernel
theorem dX12_move_49 : decode cX12_move 49 = .ok (.invokevirtual 393, 3) := by decide +kernel
theorem dX12_move_52 : decode cX12_move 52 = .ok (.ifCond .eq 12, 3) := by decide +kernel
theorem dX12_move_55 : decode cX12_move 55 = .ok (.aload_n 0, 1) := by decide +kernel
theorem dX12_move_56 : decode cX12_move 56 = .ok (.getfield 192, 3) := by decide +kernel
theorem dX12_move_59 : decode cX12_move 59 = .ok (.bipush 120, 2) := by decide +kernel
theorem dX12_move_61 : decode cX12_move 61 = .ok (.if_icmp .ne 7, 3) := by decide +kernel
theorem dX12_move_64 : decode cX12_move 64 = .ok (.iconst 2, 1) := by decide +kernel
theorem dX12_move_65 : decode cX12_move 65 = .ok (.goto 4, 3) := by decide +kernel
theorem dX12_move_68 : decode cX12_move 68 = .ok (.iconst 0, 1) := by decide +kernel
theorem dX12_move_69 : decode cX12_move 69 = .ok (.putfield 180, 3) := by decide +kernel
theorem dX12_move_72 : decode cX12_move 72 = .ok (.aload_n 0, 1) := by decide +kernel
theorem dX12_move_73 : decode cX12_move 73 = .ok (.getfield 180, 3) := by decide +kernel
theorem dX12_move_76 : decode cX12_move 76 = .ok (.ifCond .le 5, 3) := by decide +kernel
theorem dX12_move_79 : decode cX12_move 79 = .ok (.iconst 0, 1) := by decide +kernel
theorem dX12_move_80 : decode cX12_move 80 = .ok (.ireturn, 1) := by decide +kernel
theorem dX12_move_81 : decode cX12_move 81 = .ok (.aload_n 0, 1) := by decide +kernel
theorem dX12_move_82 : decode cX12_move 82 = .ok (.iload_n 1, 1) := by decide +kernel
theorem dX12_move_83 : decode cX12_move 83 = .ok (.invokevirtual 460, 3) := by decide +kernel
theorem dX12_move_86 : decode cX12_move 86 = .ok (.aload_n 0, 1) := by decide +kernel
theorem dX12_move_87 : decode cX12_move 87 = .ok (.getfield 19, 3) := by decide +kernel
theorem dX12_move_90 : decode cX12_move 90 = .ok (.iload_n 2, 1) := by decide +kernel
theorem dX12_move_91 : decode cX12_move 91 = .ok (.aload_n 0, 1) := by decide +kernel
theorem dX12_move_92 : decode cX12_move 92 = .ok (.getfield 19, 3) := by decide +kernel
theorem dX12_move_95 : decode cX12_move 95 = .ok (.iload_n 1, 1) := by decide +kernel
theorem dX12_move_96 : decode cX12_move 96 = .ok (.iaload, 1) := by decide +kernel
theorem dX12_move_97 : decode cX12_move 97 = .ok (.iastore, 1) := by decide +kernel
theorem dX12_move_98 : decode cX12_move 98 = .ok (.aload_n 0, 1) := by decide +kernel
theorem dX12_move_99 : decode cX12_move 99 = .ok (.getfield 177, 3) := by decide +kernel
theorem dX12_move_102 : decode cX12_move 102 = .ok (.iconst 0, 1) := by decide +kernel
theorem dX12_move_103 : decode cX12_move 103 = .ok (.sipush 12000, 3) := by decide +kernel
theorem dX12_move_106 : decode cX12_move 106 = .ok (.iload_n 2, 1) := by decide +kernel
theorem dX12_move_107 : decode cX12_move 107 = .ok (.iadd, 1) := by decide +kernel
theorem dX12_move_108 : decode cX12_move 108 = .ok (.iastore, 1) := by decide +kernel
theorem dX12_move_109 : decode cX12_move 109 = .ok (.aload_n 0, 1) := by decide +kernel
theorem dX12_move_110 : decode cX12_move 110 = .ok (.aload_n 0, 1) := by decide +kernel
theorem dX12_move_111 : decode cX12_move 111 = .ok (.iload_n 1, 1) := by decide +kernel
theorem dX12_move_112 : decode cX12_move 112 = .ok (.invokevirtual 403, 3) := by decide +kernel
theorem dX12_move_115 : decode cX12_move 115 = .ok (.aload_n 0, 1) := by decide +kernel
theorem dX12_move_116 : decode cX12_move 116 = .ok (.getfield 177, 3) := by decide +kernel
theorem dX12_move_119 : decode cX12_move 119 = .ok (.iconst 0, 1) := by decide +kernel
theorem dX12_move_120 : decode cX12_move 120 = .ok (.iconst 1, 1) := by decide +kernel
theorem dX12_move_121 : decode cX12_move 121 = .ok (.invokevirtual 450, 3) := by decide +kernel
theorem dX12_move_124 : decode cX12_move 124 = .ok (.istore_n 3, 1) := by decide +kernel
theorem dX12_move_125 : decode cX12_move 125 = .ok (.aload_n 0, 1) := by decide +kernel
theorem dX12_move_126 : decode cX12_move 126 = .ok (.invokevirtual 396, 3) := by decide +kernel
theorem dX12_move_129 : decode cX12_move 129 = .ok (.iload_n 3, 1) := by decide +kernel
theorem dX12_move_130 : decode cX12_move 130 = .ok (.ireturn, 1) := by decide +kernel
theorem dX12_leadsOn_0 : decode cX12_leadsOn 0 = .ok (.iload_n 0, 1) := by decide +kernel
theorem dX12_leadsOn_1 : decode cX12_leadsOn 1 = .ok (.iconst 1, 1) := by decide +kernel
theorem dX12_leadsOn_2 : decode cX12_leadsOn 2 = .ok (.if_icmp .eq 14, 3) := by decide +kernel
theorem dX12_leadsOn_5 : decode cX12_leadsOn 5 = .ok (.iload_n 0, 1) := by decide +kernel
theorem dX12_leadsOn_6 : decode cX12_leadsOn 6 = .ok (.iconst 2, 1) := by decide +kernel
theorem dX12_leadsOn_7 : decode cX12_leadsOn 7 = .ok (.if_icmp .eq 9, 3) := by decide +kernel
theorem dX12_leadsOn_10 : decode cX12_leadsOn 10 = .ok (.iload_n 0, 1) := by decide +kernel
theorem dX12_leadsOn_11 : decode cX12_leadsOn 11 = .ok (.bipush 12, 2) := by decide +kernel
theorem dX12_leadsOn_13 : decode cX12_leadsOn 13 = .ok (.if_icmp .ne 7, 3) := by decide +kernel
theorem dX12_leadsOn_16 : decode cX12_leadsOn 16 = .ok (.iconst 1, 1) := by decide +kernel
theorem dX12_leadsOn_17 : decode cX12_leadsOn 17 = .ok (.goto 4, 3) := by decide +kernel
theorem dX12_leadsOn_20 : decode cX12_leadsOn 20 = .ok (.iconst 0, 1) := by decide +kernel
theorem dX12_leadsOn_21 : decode cX12_leadsOn 21 = .ok (.ireturn, 1) := by decide +kernel
theorem dX12_turns_0 : decode cX12_turns 0 = .ok (.aload_n 0, 1) := by decide +kernel
theorem dX12_turns_1 : decode cX12_turns 1 = .ok (.iload_n 1, 1) := by decide +kernel
theorem dX12_turns_2 : decode cX12_turns 2 = .ok (.invokevirtual 209, 3) := by decide +kernel
theorem dX12_turns_5 : decode cX12_turns 5 = .ok (.istore 5, 2) := by decide +kernel
theorem dX12_turns_7 : decode cX12_turns 7 = .ok (.iconst 0, 1) := by decide +kernel
theorem dX12_turns_8 : decode cX12_turns 8 = .ok (.istore 6, 2) := by decide +kernel
theorem dX12_turns_10 : decode cX12_turns 10 = .ok (.aload_n 0, 1) := by decide +kernel
theorem dX12_turns_11 : decode cX12_turns 11 = .ok (.iconst 0, 1) := by decide +kernel
theorem dX12_turns_12 : decode cX12_turns 12 = .ok (.putfield 409, 3) := by decide +kernel
theorem dX12_turns_15 : decode cX12_turns 15 = .ok (.aload_n 0, 1) := by decide +kernel
theorem dX12_turns_16 : decode cX12_turns 16 = .ok (.aload_n 0, 1) := by decide +kernel
theorem dX12_turns_17 : decode cX12_turns 17 = .ok (.getfield 22, 3) := by decide +kernel
theorem dX12_turns_20 : decode cX12_turns 20 = .ok (.bipush 30, 2) := by decide +kernel
theorem dX12_turns_22 : decode cX12_turns 22 = .ok (.iload 5, 2) := by decide +kernel
theorem dX12_turns_24 : decode cX12_turns 24 = .ok (.imul, 1) := by decide +kernel
theorem dX12_turns_25 : decode cX12_turns 25 = .ok (.bipush 30, 2) := by decide +kernel
theorem dX12_turns_27 : decode cX12_turns 27 = .ok (.iload 5, 2) := by decide +kernel
theorem dX12_turns_29 : decode cX12_turns 29 = .ok (.imul, 1) := by decide +kernel
theorem dX12_turns_30 : decode cX12_turns 30 = .ok (.aload_n 0, 1) := by decide +kernel
theorem dX12_turns_31 : decode cX12_turns 31 = .ok (.getfield 25, 3) := by decide +kernel
theorem dX12_turns_34 : decode cX12_turns 34 = .ok (.iload 5, 2) := by decide +kernel
theorem dX12_turns_36 : decode cX12_turns 36 = .ok (.iaload, 1) := by decide +kernel
theorem dX12_turns_37 : decode cX12_turns 37 = .ok (.iadd, 1) := by decide +kernel
theorem dX12_turns_38 : decode cX12_turns 38 = .ok (.invokevirtual 412, 3) := by decide +kernel
theorem dX12_turns_41 : decode cX12_turns 41 = .ok (.iconst 0, 1) := by decide +kernel
theorem dX12_turns_42 : decode cX12_turns 42 = .ok (.istore 7, 2) := by decide +kernel
theorem dX12_turns_44 : decode cX12_turns 44 = .ok (.iload 7, 2) := by decide +kernel
theorem dX12_turns_46 : decode cX12_turns 46 = .ok (.aload_n 0, 1) := by decide +kernel
theorem dX12_turns_47 : decode cX12_turns 47 = .ok (.getfield 409, 3) := by decide +kernel
theorem dX12_turns_50 : decode cX12_turns 50 = .ok (.if_icmp .ge 78, 3) := by decide +kernel
theorem dX12_turns_53 : decode cX12_turns 53 = .ok (.aload_n 0, 1) := by decide +kernel
theorem dX12_turns_54 : decode cX12_turns 54 = .ok (.getfield 174, 3) := by decide +kernel
theorem dX12_turns_57 : decode cX12_turns 57 = .ok (.iload 7, 2) := by decide +kernel
theorem dX12_turns_59 : decode cX12_turns 59 = .ok (.iaload, 1) := by decide +kernel
theorem dX12_turns_60 : decode cX12_turns 60 = .ok (.sipush 1000, 3) := by decide +kernel
theorem dX12_turns_63 : decode cX12_turns 63 = .ok (.irem, 1) := by decide +kernel
theorem dX12_turns_64 : decode cX12_turns 64 = .ok (.istore 8, 2) := by decide +kernel
theorem dX12_turns_66 : decode cX12_turns 66 = .ok (.aload_n 0, 1) := by decide +kernel
theorem dX12_turns_67 : decode cX12_turns 67 = .ok (.getfield 174, 3) := by decide +kernel
theorem dX12_turns_70 : decode cX12_turns 70 = .ok (.iload 7, 2) := by decide +kernel
theorem dX12_turns_72 : decode cX12_turns 72 = .ok (.iaload, 1) := by decide +kernel
theorem dX12_turns_73 : decode cX12_turns 73 = .ok (.sipush 1000, 3) := by decide +kernel
theorem dX12_turns_76 : decode cX12_turns 76 = .ok (.idiv, 1) := by decide +kernel
theorem dX12_turns_77 : decode cX12_turns 77 = .ok (.invokestatic 463, 3) := by decide +kernel
theorem dX12_turns_80 : decode cX12_turns 80 = .ok (.ifCond .eq 42, 3) := by decide +kernel
theorem dX12_turns_83 : decode cX12_turns 83 = .ok (.iload 8, 2) := by decide +kernel
theorem dX12_turns_85 : decode cX12_turns 85 = .ok (.iconst 4, 1) := by decide +kernel
theorem dX12_turns_86 : decode cX12_turns 86 = .ok (.idiv, 1) := by decide +kernel
theorem dX12_turns_87 : decode cX12_turns 87 = .ok (.iload_n 2, 1) := by decide +kernel
theorem dX12_turns_88 : decode cX12_turns 88 = .ok (.if_icmp .ne 34, 3) := by decide +kernel
theorem dX12_turns_91 : decode cX12_turns 91 = .ok (.iload 4, 2) := by decide +kernel
theorem dX12_turns_93 : decode cX12_turns 93 = .ok (.iload 8, 2) := by decide +kernel
theorem dX12_turns_95 : decode cX12_turns 95 = .ok (.iconst 4, 1) := by decide +kernel
theorem dX12_turns_96 : decode cX12_turns 96 = .ok (.irem, 1) := by decide +kernel
theorem dX12_turns_97 : decode cX12_turns 97 = .ok (.ishr, 1) := by decide +kernel
theorem dX12_turns_98 : decode cX12_turns 98 = .ok (.iconst 1, 1) := by decide +kernel
theorem dX12_turns_99 : decode cX12_turns 99 = .ok (.iand, 1) := by decide +kernel
theorem dX12_turns_100 : decode cX12_turns 100 = .ok (.iconst 1, 1) := by decide +kernel
theorem dX12_turns_101 : decode cX12_turns 101 = .ok (.if_icmp .ne 21, 3) := by decide +kernel
theorem dX12_turns_104 : decode cX12_turns 104 = .ok (.aload_n 0, 1) := by decide +kernel
theorem dX12_turns_105 : decode cX12_turns 105 = .ok (.getfield 174, 3) := by decide +kernel
theorem dX12_turns_108 : decode cX12_turns 108 = .ok (.iload 7, 2) := by decide +kernel
theorem dX12_turns_110 : decode cX12_turns 110 = .ok (.dup2, 1) := by decide +kernel
theorem dX12_turns_111 : decode cX12_turns 111 = .ok (.iaload, 1) := by decide +kernel
theorem dX12_turns_112 : decode cX12_turns 112 = .ok (.iconst 4, 1) := by decide +kernel
theorem dX12_turns_113 : decode cX12_turns 113 = .ok (.iload_n 3, 1) := by decide +kernel
theorem dX12_turns_114 : decode cX12_turns 114 = .ok (.iload_n 2, 1) := by decide +kernel
theorem dX12_turns_115 : decode cX12_turns 115 = .ok (.isub, 1) := by decide +kernel
theorem dX12_turns_116 : decode cX12_turns 116 = .ok (.imul, 1) := by decide +kernel
theorem dX12_turns_117 : decode cX12_turns 117 = .ok (.iadd, 1) := by decide +kernel
theorem dX12_turns_118 : decode cX12_turns 118 = .ok (.iastore, 1) := by decide +kernel
theorem dX12_turns_119 : decode cX12_turns 119 = .ok (.iconst 1, 1) := by decide +kernel
theorem dX12_turns_120 : decode cX12_turns 120 = .ok (.istore 6, 2) := by decide +kernel
theorem dX12_turns_122 : decode cX12_turns 122 = .ok (.iinc 7 1, 3) := by decide +kernel
theorem dX12_turns_125 : decode cX12_turns 125 = .ok (.goto (-81), 3) := by decide +kernel
theorem dX12_turns_128 : decode cX12_turns 128 = .ok (.iload 6, 2) := by decide +kernel
theorem dX12_turns_130 : decode cX12_turns 130 = .ok (.ireturn, 1) := by decide +kernel
theorem dX12_moveTree_0 : decode cX12_moveTree 0 = .ok (.aload_n 0, 1) := by decide +kernel
theorem dX12_moveTree_1 : decode cX12_moveTree 1 = .ok (.iload_n 1, 1) := by decide +kernel
theorem dX12_moveTree_2 : decode cX12_moveTree 2 = .ok (.iconst 0, 1) := by decide +kernel
theorem dX12_moveTree_3 : decode cX12_moveTree 3 = .ok (.iconst 5, 1) := by decide +kernel
theorem dX12_moveTree_4 : decode cX12_moveTree 4 = .ok (.invokestatic 184, 3) := by decide +kernel
theorem dX12_moveTree_7 : decode cX12_moveTree 7 = .ok (.ifCond .eq 16, 3) := by decide +kernel
theorem dX12_moveTree_10 : decode cX12_moveTree 10 = .ok (.iload_n 2, 1) := by decide +kernel
theorem dX12_moveTree_11 : decode cX12_moveTree 11 = .ok (.iconst 0, 1) := by decide +kernel
theorem dX12_moveTree_12 : decode cX12_moveTree 12 = .ok (.iconst 5, 1) := by decide +kernel
theorem dX12_moveTree_13 : decode cX12_moveTree 13 = .ok (.invokestatic 184, 3) := by decide +kernel
theorem dX12_moveTree_16 : decode cX12_moveTree 16 = .ok (.ifCond .eq 7, 3) := by decide +kernel
theorem dX12_moveTree_19 : decode cX12_moveTree 19 = .ok (.iconst 0, 1) := by decide +kernel
theorem dX12_moveTree_20 : decode cX12_moveTree 20 = .ok (.goto 4, 3) := by decide +kernel
theorem dX12_moveTree_23 : decode cX12_moveTree 23 = .ok (.iconst 1, 1) := by decide +kernel
theorem dX12_moveTree_24 : decode cX12_moveTree 24 = .ok (.putfield 180, 3) := by decide +kernel
theorem dX12_moveTree_27 : decode cX12_moveTree 27 = .ok (.iconst 0, 1) := by decide +kernel
theorem dX12_moveTree_28 : decode cX12_moveTree 28 = .ok (.istore_n 3, 1) := by decide +kernel
theorem dX12_moveTree_29 : decode cX12_moveTree 29 = .ok (.iconst 1, 1) := by decide +kernel
theorem dX12_moveTree_30 : decode cX12_moveTree 30 = .ok (.istore 4, 2) := by decide +kernel
theorem dX12_moveTree_32 : decode cX12_moveTree 32 = .ok (.iconst 0, 1) := by decide +kernel
theorem dX12_moveTree_33 : decode cX12_moveTree 33 = .ok (.istore 5, 2) := by decide +kernel
theorem dX12_moveTree_35 : decode cX12_moveTree 35 = .ok (.iload 5, 2) := by decide +kernel
theorem dX12_moveTree_37 : decode cX12_moveTree 37 = .ok (.iconst 4, 1) := by decide +kernel
theorem dX12_moveTree_38 : decode cX12_moveTree 38 = .ok (.if_icmp .ge 95, 3) := by decide +kernel
theorem dX12_moveTree_41 : decode cX12_moveTree 41 = .ok (.aload_n 0, 1) := by decide +kernel
theorem dX12_moveTree_42 : decode cX12_moveTree 42 = .ok (.getfield 180, 3) := by decide +kernel
theorem dX12_moveTree_45 : decode cX12_moveTree 45 = .ok (.ifCond .ne 88, 3) := by decide +kernel
theorem dX12_moveTree_48 : decode cX12_moveTree 48 = .ok (.iload_n 3, 1) := by decide +kernel
theorem dX12_moveTree_49 : decode cX12_moveTree 49 = .ok (.aload_n 0, 1) := by decide +kernel
theorem dX12_moveTree_50 : decode cX12_moveTree 50 = .ok (.getfield 19, 3) := by decide +kernel
theorem dX12_moveTree_53 : decode cX12_moveTree 53 = .ok (.iconst 4, 1) := by decide +kernel
theorem dX12_moveTree_54 : decode cX12_moveTree 54 = .ok (.iload_n 1, 1) := by decide +kernel
theorem dX12_moveTree_55 : decode cX12_moveTree 55 = .ok (.imul, 1) := by decide +kernel
theorem dX12_moveTree_56 : decode cX12_moveTree 56 = .ok (.iload 5, 2) := by decide +kernel
theorem dX12_moveTree_58 : decode cX12_moveTree 58 = .ok (.iadd, 1) := by decide +kernel
theorem dX12_moveTree_59 : decode cX12_moveTree 59 = .ok (.iaload, 1) := by decide +kernel
theorem dX12_moveTree_60 : decode cX12_moveTree 60 = .ok (.iconst (-1), 1) := by decide +kernel
theorem dX12_moveTree_61 : decode cX12_moveTree 61 = .ok (.if_icmp .ne 7, 3) := by decide +kernel
theorem dX12_moveTree_64 : decode cX12_moveTree 64 = .ok (.iconst 0, 1) := by decide +kernel
theorem dX12_moveTree_65 : decode cX12_moveTree 65 = .ok (.goto 7, 3) := by decide +kernel
theorem dX12_moveTree_68 : decode cX12_moveTree 68 = .ok (.iconst 1, 1) := by decide +kernel
theorem dX12_moveTree_69 : decode cX12_moveTree 69 = .ok (.iload 5, 2) := by decide +kernel
theorem dX12_moveTree_71 : decode cX12_moveTree 71 = .ok (.ishl, 1) := by decide +kernel
theorem dX12_moveTree_72 : decode cX12_moveTree 72 = .ok (.ior, 1) := by decide +kernel
theorem dX12_moveTree_73 : decode cX12_moveTree 73 = .ok (.istore_n 3, 1) := by decide +kernel
theorem dX12_moveTree_74 : decode cX12_moveTree 74 = .ok (.iload 4, 2) := by decide +kernel
theorem dX12_moveTree_76 : decode cX12_moveTree 76 = .ok (.ifCond .eq 48, 3) := by decide +kernel
theorem dX12_moveTree_79 : decode cX12_moveTree 79 = .ok (.aload_n 0, 1) := by decide +kernel
theorem dX12_moveTree_80 : decode cX12_moveTree 80 = .ok (.getfield 19, 3) := by decide +kernel
theorem dX12_moveTree_83 : decode cX12_moveTree 83 = .ok (.iconst 4, 1) := by decide +kernel
theorem dX12_moveTree_84 : decode cX12_moveTree 84 = .ok (.iload_n 2, 1) := by decide +kernel
theorem dX12_moveTree_85 : decode cX12_moveTree 85 = .ok (.imul, 1) := by decide +kernel
theorem dX12_moveTree_86 : decode cX12_moveTree 86 = .ok (.iload 5, 2) := by decide +kernel
theorem dX12_moveTree_88 : decode cX12_moveTree 88 = .ok (.iadd, 1) := by decide +kernel
theorem dX12_moveTree_89 : decode cX12_moveTree 89 = .ok (.iaload, 1) := by decide +kernel
theorem dX12_moveTree_90 : decode cX12_moveTree 90 = .ok (.iconst (-1), 1) := by decide +kernel
theorem dX12_moveTree_91 : decode cX12_moveTree 91 = .ok (.if_icmp .ne 33, 3) := by decide +kernel
theorem dX12_moveTree_94 : decode cX12_moveTree 94 = .ok (.aload_n 0, 1) := by decide +kernel
theorem dX12_moveTree_95 : decode cX12_moveTree 95 = .ok (.iconst 4, 1) := by decide +kernel
theorem dX12_moveTree_96 : decode cX12_moveTree 96 = .ok (.iload_n 1, 1) := by decide +kernel
theorem dX12_moveTree_97 : decode cX12_moveTree 97 = .ok (.imul, 1) := by decide +kernel
theorem dX12_moveTree_98 : decode cX12_moveTree 98 = .ok (.iload 5, 2) := by decide +kernel
theorem dX12_moveTree_100 : decode cX12_moveTree 100 = .ok (.iadd, 1) := by decide +kernel
theorem dX12_moveTree_101 : decode cX12_moveTree 101 = .ok (.invokevirtual 393, 3) := by decide +kernel
theorem dX12_moveTree_104 : decode cX12_moveTree 104 = .ok (.ifCond .eq 20, 3) := by decide +kernel
theorem dX12_moveTree_107 : decode cX12_moveTree 107 = .ok (.aload_n 0, 1) := by decide +kernel
theorem dX12_moveTree_108 : decode cX12_moveTree 108 = .ok (.iconst 4, 1) := by decide +kernel
theorem dX12_moveTree_109 : decode cX12_moveTree 109 = .ok (.iload_n 2, 1) := by decide +kernel
theorem dX12_moveTree_110 : decode cX12_moveTree 110 = .ok (.imul, 1) := by decide +kernel
theorem dX12_moveTree_111 : decode cX12_moveTree 111 = .ok (.iload 5, 2) := by decide +kernel
theorem dX12_moveTree_113 : decode cX12_moveTree 113 = .ok (.iadd, 1) := by decide +kernel
theorem dX12_moveTree_114 : decode cX12_moveTree 114 = .ok (.invokevirtual 393, 3) := by decide +kernel
theorem dX12_moveTree_117 : decode cX12_moveTree 117 = .ok (.ifCond .eq 7, 3) := by decide +kernel
theorem dX12_moveTree_120 : decode cX12_moveTree 120 = .ok (.iconst 1, 1) := by decide +kernel
theorem dX12_moveTree_121 : decode cX12_moveTree 121 = .ok (.goto 4, 3) := by decide +kernel
theorem dX12_moveTree_124 : decode cX12_moveTree 124 = .ok (.iconst 0, 1) := by decide +kernel
theorem dX12_moveTree_125 : decode cX12_moveTree 125 = .ok (.istore 4, 2) := by decide +kernel
theorem dX12_moveTree_127 : decode cX12_moveTree 127 = .ok (.iinc 5 1, 3) := by decide +kernel
theorem dX12_moveTree_130 : decode cX12_moveTree 130 = .ok (.goto (-95), 3) := by decide +kernel
theorem dX12_moveTree_133 : decode cX12_moveTree 133 = .ok (.iconst 0, 1) := by decide +kernel
theorem dX12_moveTree_134 : decode cX12_moveTree 134 = .ok (.istore 5, 2) := by decide +kernel
theorem dX12_moveTree_136 : decode cX12_moveTree 136 = .ok (.iconst 0, 1) := by decide +kernel
theorem dX12_moveTree_137 : decode cX12_moveTree 137 = .ok (.istore 6, 2) := by decide +kernel
theorem dX12_moveTree_139 : decode cX12_moveTree 139 = .ok (.iload 6, 2) := by decide +kernel
theorem dX12_moveTree_141 : decode cX12_moveTree 141 = .ok (.bipush 24, 2) := by decide +kernel
theorem dX12_moveTree_143 : decode cX12_moveTree 143 = .ok (.if_icmp .ge 49, 3) := by decide +kernel
theorem dX12_moveTree_146 : decode cX12_moveTree 146 = .ok (.aload_n 0, 1) := by decide +kernel
theorem dX12_moveTree_147 : decode cX12_moveTree 147 = .ok (.getfield 180, 3) := by decide +kernel
theorem dX12_moveTree_150 : decode cX12_moveTree 150 = .ok (.ifCond .ne 42, 3) := by decide +kernel
theorem dX12_moveTree_153 : decode cX12_moveTree 153 = .ok (.iload 5, 2) := by decide +kernel
theorem dX12_moveTree_155 : decode cX12_moveTree 155 = .ok (.aload_n 0, 1) := by decide +kernel
theorem dX12_moveTree_156 : decode cX12_moveTree 156 = .ok (.getfield 19, 3) := by decide +kernel
theorem dX12_moveTree_159 : decode cX12_moveTree 159 = .ok (.iload 6, 2) := by decide +kernel
theorem dX12_moveTree_161 : decode cX12_moveTree 161 = .ok (.iaload, 1) := by decide +kernel
theorem dX12_moveTree_162 : decode cX12_moveTree 162 = .ok (.iconst (-1), 1) := by decide +kernel
theorem dX12_moveTree_163 : decode cX12_moveTree 163 = .ok (.if_icmp .eq 19, 3) := by decide +kernel
theorem dX12_moveTree_166 : decode cX12_moveTree 166 = .ok (.aload_n 0, 1) := by decide +kernel
theorem dX12_moveTree_167 : decode cX12_moveTree 167 = .ok (.iload 6, 2) := by decide +kernel
theorem dX12_moveTree_169 : decode cX12_moveTree 169 = .ok (.iload_n 1, 1) := by decide +kernel
theorem dX12_moveTree_170 : decode cX12_moveTree 170 = .ok (.iload_n 2, 1) := by decide +kernel
theorem dX12_moveTree_171 : decode cX12_moveTree 171 = .ok (.iload_n 3, 1) := by decide +kernel
theorem dX12_moveTree_172 : decode cX12_moveTree 172 = .ok (.invokevirtual 466, 3) := by decide +kernel
theorem dX12_moveTree_175 : decode cX12_moveTree 175 = .ok (.ifCond .eq 7, 3) := by decide +kernel
theorem dX12_moveTree_178 : decode cX12_moveTree 178 = .ok (.iconst 1, 1) := by decide +kernel
theorem dX12_moveTree_179 : decode cX12_moveTree 179 = .ok (.goto 4, 3) := by decide +kernel
theorem dX12_moveTree_182 : decode cX12_moveTree 182 = .ok (.iconst 0, 1) := by decide +kernel
theorem dX12_moveTree_183 : decode cX12_moveTree 183 = .ok (.iadd, 1) := by decide +kernel
theorem dX12_moveTree_184 : decode cX12_moveTree 184 = .ok (.istore 5, 2) := by decide +kernel
theorem dX12_moveTree_186 : decode cX12_moveTree 186 = .ok (.iinc 6 1, 3) := by decide +kernel
theorem dX12_moveTree_189 : decode cX12_moveTree 189 = .ok (.goto (-50), 3) := by decide +kernel
theorem dX12_moveTree_192 : decode cX12_moveTree 192 = .ok (.aload_n 0, 1) := by decide +kernel
theorem dX12_moveTree_193 : decode cX12_moveTree 193 = .ok (.aload_n 0, 1) := by decide +kernel
theorem dX12_moveTree_194 : decode cX12_moveTree 194 = .ok (.getfield 180, 3) := by decide +kernel
theorem dX12_moveTree_197 : decode cX12_moveTree 197 = .ok (.ifCond .ne 28, 3) := by decide +kernel
theorem dX12_moveTree_200 : decode cX12_moveTree 200 = .ok (.iload 4, 2) := by decide +kernel
theorem dX12_moveTree_202 : decode cX12_moveTree 202 = .ok (.ifCond .eq 19, 3) := by decide +kernel
theorem dX12_moveTree_205 : decode cX12_moveTree 205 = .ok (.iload_n 3, 1) := by decide +kernel
theorem dX12_moveTree_206 : decode cX12_moveTree 206 = .ok (.ifCond .eq 15, 3) := by decide +kernel
theorem dX12_moveTree_209 : decode cX12_moveTree 209 = .ok (.aload_n 0, 1) := by decide +kernel
theorem dX12_moveTree_210 : decode cX12_moveTree 210 = .ok (.getfield 192, 3) := by decide +kernel
theorem dX12_moveTree_213 : decode cX12_moveTree 213 = .ok (.iload 5, 2) := by decide +kernel
theorem dX12_moveTree_215 : decode cX12_moveTree 215 = .ok (.iadd, 1) := by decide +kernel
theorem dX12_moveTree_216 : decode cX12_moveTree 216 = .ok (.bipush 120, 2) := by decide +kernel
theorem dX12_moveTree_218 : decode cX12_moveTree 218 = .ok (.if_icmp .le 7, 3) := by decide +kernel
theorem dX12_moveTree_221 : decode cX12_moveTree 221 = .ok (.iconst 2, 1) := by decide +kernel
theorem dX12_moveTree_222 : decode cX12_moveTree 222 = .ok (.goto 7, 3) := by decide +kernel
theorem dX12_moveTree_225 : decode cX12_moveTree 225 = .ok (.aload_n 0, 1) := by decide +kernel
theorem dX12_moveTree_226 : decode cX12_moveTree 226 = .ok (.getfield 180, 3) := by decide +kernel
theorem dX12_moveTree_229 : decode cX12_moveTree 229 = .ok (.putfield 180, 3) := by decide +kernel
theorem dX12_moveTree_232 : decode cX12_moveTree 232 = .ok (.aload_n 0, 1) := by decide +kernel
theorem dX12_moveTree_233 : decode cX12_moveTree 233 = .ok (.getfield 180, 3) := by decide +kernel
theorem dX12_moveTree_236 : decode cX12_moveTree 236 = .ok (.ifCond .le 5, 3) := by decide +kernel
theorem dX12_moveTree_239 : decode cX12_moveTree 239 = .ok (.iconst 0, 1) := by decide +kernel
theorem dX12_moveTree_240 : decode cX12_moveTree 240 = .ok (.ireturn, 1) := by decide +kernel
theorem dX12_moveTree_241 : decode cX12_moveTree 241 = .ok (.iconst 0, 1) := by decide +kernel
theorem dX12_moveTree_242 : decode cX12_moveTree 242 = .ok (.istore 6, 2) := by decide +kernel
theorem dX12_moveTree_244 : decode cX12_moveTree 244 = .ok (.iload 6, 2) := by decide +kernel
theorem dX12_moveTree_246 : decode cX12_moveTree 246 = .ok (.iconst 4, 1) := by decide +kernel
theorem dX12_moveTree_247 : decode cX12_moveTree 247 = .ok (.if_icmp .ge 53, 3) := by decide +kernel
theorem dX12_moveTree_250 : decode cX12_moveTree 250 = .ok (.aload_n 0, 1) := by decide +kernel
theorem dX12_moveTree_251 : decode cX12_moveTree 251 = .ok (.iconst 4, 1) := by decide +kernel
theorem dX12_moveTree_252 : decode cX12_moveTree 252 = .ok (.iload_n 1, 1) := by decide +kernel
theorem dX12_moveTree_253 : decode cX12_moveTree 253 = .ok (.imul, 1) := by decide +kernel
theorem dX12_moveTree_254 : decode cX12_moveTree 254 = .ok (.iload 6, 2) := by decide +kernel
theorem dX12_moveTree_256 : decode cX12_moveTree 256 = .ok (.iadd, 1) := by decide +kernel
theorem dX12_moveTree_257 : decode cX12_moveTree 257 = .ok (.invokevirtual 460, 3) := by decide +kernel
theorem dX12_moveTree_260 : decode cX12_moveTree 260 = .ok (.aload_n 0, 1) := by decide +kernel
theorem dX12_moveTree_261 : decode cX12_moveTree 261 = .ok (.getfield 19, 3) := by decide +kernel
theorem dX12_moveTree_264 : decode cX12_moveTree 264 = .ok (.iconst 4, 1) := by decide +kernel
theorem dX12_moveTree_265 : decode cX12_moveTree 265 = .ok (.iload_n 2, 1) := by decide +kernel
theorem dX12_moveTree_266 : decode cX12_moveTree 266 = .ok (.imul, 1) := by decide +kernel
theorem dX12_moveTree_267 : decode cX12_moveTree 267 = .ok (.iload 6, 2) := by decide +kernel
theorem dX12_moveTree_269 : decode cX12_moveTree 269 = .ok (.iadd, 1) := by decide +kernel
theorem dX12_moveTree_270 : decode cX12_moveTree 270 = .ok (.aload_n 0, 1) := by decide +kernel
theorem dX12_moveTree_271 : decode cX12_moveTree 271 = .ok (.getfield 19, 3) := by decide +kernel
theorem dX12_moveTree_274 : decode cX12_moveTree 274 = .ok (.iconst 4, 1) := by decide +kernel
theorem dX12_moveTree_275 : decode cX12_moveTree 275 = .ok (.iload_n 1, 1) := by decide +kernel
theorem dX12_moveTree_276 : decode cX12_moveTree 276 = .ok (.imul, 1) := by decide +kernel
theorem dX12_moveTree_277 : decode cX12_moveTree 277 = .ok (.iload 6, 2) := by decide +kernel
theorem dX12_moveTree_279 : decode cX12_moveTree 279 = .ok (.iadd, 1) := by decide +kernel
theorem dX12_moveTree_280 : decode cX12_moveTree 280 = .ok (.iaload, 1) := by decide +kernel
theorem dX12_moveTree_281 : decode cX12_moveTree 281 = .ok (.iastore, 1) := by decide +kernel
theorem dX12_moveTree_282 : decode cX12_moveTree 282 = .ok (.aload_n 0, 1) := by decide +kernel
theorem dX12_moveTree_283 : decode cX12_moveTree 283 = .ok (.getfield 19, 3) := by decide +kernel
theorem dX12_moveTree_286 : decode cX12_moveTree 286 = .ok (.iconst 4, 1) := by decide +kernel
theorem dX12_moveTree_287 : decode cX12_moveTree 287 = .ok (.iload_n 1, 1) := by decide +kernel
theorem dX12_moveTree_288 : decode cX12_moveTree 288 = .ok (.imul, 1) := by decide +kernel
theorem dX12_moveTree_289 : decode cX12_moveTree 289 = .ok (.iload 6, 2) := by decide +kernel
theorem dX12_moveTree_291 : decode cX12_moveTree 291 = .ok (.iadd, 1) := by decide +kernel
theorem dX12_moveTree_292 : decode cX12_moveTree 292 = .ok (.iconst (-1), 1) := by decide +kernel
theorem dX12_moveTree_293 : decode cX12_moveTree 293 = .ok (.iastore, 1) := by decide +kernel
theorem dX12_moveTree_294 : decode cX12_moveTree 294 = .ok (.iinc 6 1, 3) := by decide +kernel
theorem dX12_moveTree_297 : decode cX12_moveTree 297 = .ok (.goto (-53), 3) := by decide +kernel
theorem dX12_moveTree_300 : decode cX12_moveTree 300 = .ok (.aload_n 0, 1) := by decide +kernel
theorem dX12_moveTree_301 : decode cX12_moveTree 301 = .ok (.invokevirtual 396, 3) := by decide +kernel
theorem dX12_moveTree_304 : decode cX12_moveTree 304 = .ok (.iconst 0, 1) := by decide +kernel
theorem dX12_moveTree_305 : decode cX12_moveTree 305 = .ok (.istore 6, 2) := by decide +kernel
theorem dX12_moveTree_307 : decode cX12_moveTree 307 = .ok (.iload 6, 2) := by decide +kernel
theorem dX12_moveTree_309 : decode cX12_moveTree 309 = .ok (.bipush 24, 2) := by decide +kernel
theorem dX12_moveTree_311 : decode cX12_moveTree 311 = .ok (.if_icmp .ge 54, 3) := by decide +kernel
theorem dX12_moveTree_314 : decode cX12_moveTree 314 = .ok (.aload_n 0, 1) := by decide +kernel
theorem dX12_moveTree_315 : decode cX12_moveTree 315 = .ok (.getfield 19, 3) := by decide +kernel
theorem dX12_moveTree_318 : decode cX12_moveTree 318 = .ok (.iload 6, 2) := by decide +kernel
theorem dX12_moveTree_320 : decode cX12_moveTree 320 = .ok (.iaload, 1) := by decide +kernel
theorem dX12_moveTree_321 : decode cX12_moveTree 321 = .ok (.iconst (-1), 1) := by decide +kernel
theorem dX12_moveTree_322 : decode cX12_moveTree 322 = .ok (.if_icmp .eq 37, 3) := by decide +kernel
theorem dX12_moveTree_325 : decode cX12_moveTree 325 = .ok (.aload_n 0, 1) := by decide +kernel
theorem dX12_moveTree_326 : decode cX12_moveTree 326 = .ok (.iload 6, 2) := by decide +kernel
theorem dX12_moveTree_328 : decode cX12_moveTree 328 = .ok (.iload_n 1, 1) := by decide +kernel
theorem dX12_moveTree_329 : decode cX12_moveTree 329 = .ok (.iload_n 2, 1) := by decide +kernel
theorem dX12_moveTree_330 : decode cX12_moveTree 330 = .ok (.iload_n 3, 1) := by decide +kernel
theorem dX12_moveTree_331 : decode cX12_moveTree 331 = .ok (.invokevirtual 466, 3) := by decide +kernel
theorem dX12_moveTree_334 : decode cX12_moveTree 334 = .ok (.ifCond .eq 25, 3) := by decide +kernel
theorem dX12_moveTree_337 : decode cX12_moveTree 337 = .ok (.aload_n 0, 1) := by decide +kernel
theorem dX12_moveTree_338 : decode cX12_moveTree 338 = .ok (.aload_n 0, 1) := by decide +kernel
theorem dX12_moveTree_339 : decode cX12_moveTree 339 = .ok (.getfield 19, 3) := by decide +kernel
theorem dX12_moveTree_342 : decode cX12_moveTree 342 = .ok (.iload 6, 2) := by decide +kernel
theorem dX12_moveTree_344 : decode cX12_moveTree 344 = .ok (.iaload, 1) := by decide +kernel
theorem dX12_moveTree_345 : decode cX12_moveTree 345 = .ok (.aload_n 0, 1) := by decide +kernel
theorem dX12_moveTree_346 : decode cX12_moveTree 346 = .ok (.getfield 174, 3) := by decide +kernel
theorem dX12_moveTree_349 : decode cX12_moveTree 349 = .ok (.iconst 0, 1) := by decide +kernel
theorem dX12_moveTree_350 : decode cX12_moveTree 350 = .ok (.aload_n 0, 1) := by decide +kernel
theorem dX12_moveTree_351 : decode cX12_moveTree 351 = .ok (.getfield 409, 3) := by decide +kernel
theorem dX12_moveTree_354 : decode cX12_moveTree 354 = .ok (.invokevirtual 450, 3) := by decide +kernel
theorem dX12_moveTree_357 : decode cX12_moveTree 357 = .ok (.istore 7, 2) := by decide +kernel
theorem dX12_moveTree_359 : decode cX12_moveTree 359 = .ok (.iinc 6 1, 3) := by decide +kernel
theorem dX12_moveTree_362 : decode cX12_moveTree 362 = .ok (.goto (-55), 3) := by decide +kernel
theorem dX12_moveTree_365 : decode cX12_moveTree 365 = .ok (.aload_n 0, 1) := by decide +kernel
theorem dX12_moveTree_366 : decode cX12_moveTree 366 = .ok (.invokevirtual 396, 3) := by decide +kernel
theorem dX12_moveTree_369 : decode cX12_moveTree 369 = .ok (.iload 5, 2) := by decide +kernel
theorem dX12_moveTree_371 : decode cX12_moveTree 371 = .ok (.ireturn, 1) := by decide +kernel
theorem dX12_approve_0 : decode cX12_approve 0 = .ok (.aload_n 0, 1) := by decide +kernel
theorem dX12_approve_1 : decode cX12_approve 1 = .ok (.aload_n 0, 1) := by decide +kernel
theorem dX12_approve_2 : decode cX12_approve 2 = .ok (.iload_n 1, 1) := by decide +kernel
theorem dX12_approve_3 : decode cX12_approve 3 = .ok (.invokevirtual 381, 3) := by decide +kernel
theorem dX12_approve_6 : decode cX12_approve 6 = .ok (.ifCond .ne 7, 3) := by decide +kernel
theorem dX12_approve_9 : decode cX12_approve 9 = .ok (.iconst 1, 1) := by decide +kernel
theorem dX12_approve_10 : decode cX12_approve 10 = .ok (.goto 16, 3) := by decide +kernel
theorem dX12_approve_13 : decode cX12_approve 13 = .ok (.aload_n 0, 1) := by decide +kernel
theorem dX12_approve_14 : decode cX12_approve 14 = .ok (.iload_n 1, 1) := by decide +kernel
theorem dX12_approve_15 : decode cX12_approve 15 = .ok (.invokevirtual 393, 3) := by decide +kernel
theorem dX12_approve_18 : decode cX12_approve 18 = .ok (.ifCond .ne 7, 3) := by decide +kernel
theorem dX12_approve_21 : decode cX12_approve 21 = .ok (.iconst 2, 1) := by decide +kernel
theorem dX12_approve_22 : decode cX12_approve 22 = .ok (.goto 4, 3) := by decide +kernel
theorem dX12_approve_25 : decode cX12_approve 25 = .ok (.iconst 0, 1) := by decide +kernel
theorem dX12_approve_26 : decode cX12_approve 26 = .ok (.putfield 180, 3) := by decide +kernel
theorem dX12_approve_29 : decode cX12_approve 29 = .ok (.aload_n 0, 1) := by decide +kernel
theorem dX12_approve_30 : decode cX12_approve 30 = .ok (.getfield 180, 3) := by decide +kernel
theorem dX12_approve_33 : decode cX12_approve 33 = .ok (.ifCond .le 5, 3) := by decide +kernel
theorem dX12_approve_36 : decode cX12_approve 36 = .ok (.iconst 0, 1) := by decide +kernel
theorem dX12_approve_37 : decode cX12_approve 37 = .ok (.ireturn, 1) := by decide +kernel
theorem dX12_approve_38 : decode cX12_approve 38 = .ok (.aload_n 0, 1) := by decide +kernel
theorem dX12_approve_39 : decode cX12_approve 39 = .ok (.dup, 1) := by decide +kernel
theorem dX12_approve_40 : decode cX12_approve 40 = .ok (.getfield 215, 3) := by decide +kernel
theorem dX12_approve_43 : decode cX12_approve 43 = .ok (.iconst 1, 1) := by decide +kernel
theorem dX12_approve_44 : decode cX12_approve 44 = .ok (.iadd, 1) := by decide +kernel
theorem dX12_approve_45 : decode cX12_approve 45 = .ok (.putfield 215, 3) := by decide +kernel
theorem dX12_approve_48 : decode cX12_approve 48 = .ok (.aload_n 0, 1) := by decide +kernel
theorem dX12_approve_49 : decode cX12_approve 49 = .ok (.getfield 34, 3) := by decide +kernel
theorem dX12_approve_52 : decode cX12_approve 52 = .ok (.aload_n 0, 1) := by decide +kernel
theorem dX12_approve_53 : decode cX12_approve 53 = .ok (.getfield 229, 3) := by decide +kernel
theorem dX12_approve_56 : decode cX12_approve 56 = .ok (.aload_n 0, 1) := by decide +kernel
theorem dX12_approve_57 : decode cX12_approve 57 = .ok (.getfield 19, 3) := by decide +kernel
theorem dX12_approve_60 : decode cX12_approve 60 = .ok (.iload_n 1, 1) := by decide +kernel
theorem dX12_approve_61 : decode cX12_approve 61 = .ok (.iaload, 1) := by decide +kernel
theorem dX12_approve_62 : decode cX12_approve 62 = .ok (.iastore, 1) := by decide +kernel
theorem dX12_approve_63 : decode cX12_approve 63 = .ok (.aload_n 0, 1) := by decide +kernel
theorem dX12_approve_64 : decode cX12_approve 64 = .ok (.getfield 37, 3) := by decide +kernel
theorem dX12_approve_67 : decode cX12_approve 67 = .ok (.aload_n 0, 1) := by decide +kernel
theorem dX12_approve_68 : decode cX12_approve 68 = .ok (.getfield 229, 3) := by decide +kernel
theorem dX12_approve_71 : decode cX12_approve 71 = .ok (.aload_n 0, 1) := by decide +kernel
theorem dX12_approve_72 : decode cX12_approve 72 = .ok (.getfield 215, 3) := by decide +kernel
theorem dX12_approve_75 : decode cX12_approve 75 = .ok (.iastore, 1) := by decide +kernel
theorem dX12_approve_76 : decode cX12_approve 76 = .ok (.aload_n 0, 1) := by decide +kernel
theorem dX12_approve_77 : decode cX12_approve 77 = .ok (.getfield 40, 3) := by decide +kernel
theorem dX12_approve_80 : decode cX12_approve 80 = .ok (.aload_n 0, 1) := by decide +kernel
theorem dX12_approve_81 : decode cX12_approve 81 = .ok (.getfield 229, 3) := by decide +kernel
theorem dX12_approve_84 : decode cX12_approve 84 = .ok (.aload_n 0, 1) := by decide +kernel
theorem dX12_approve_85 : decode cX12_approve 85 = .ok (.iload_n 1, 1) := by decide +kernel
theorem dX12_approve_86 : decode cX12_approve 86 = .ok (.invokevirtual 209, 3) := by decide +kernel
theorem dX12_approve_89 : decode cX12_approve 89 = .ok (.iastore, 1) := by decide +kernel
theorem dX12_approve_90 : decode cX12_approve 90 = .ok (.aload_n 0, 1) := by decide +kernel
theorem dX12_approve_91 : decode cX12_approve 91 = .ok (.dup, 1) := by decide +kernel
theorem dX12_approve_92 : decode cX12_approve 92 = .ok (.getfield 229, 3) := by decide +kernel
theorem dX12_approve_95 : decode cX12_approve 95 = .ok (.iconst 1, 1) := by decide +kernel
theorem dX12_approve_96 : decode cX12_approve 96 = .ok (.iadd, 1) := by decide +kernel
theorem dX12_approve_97 : decode cX12_approve 97 = .ok (.putfield 229, 3) := by decide +kernel
theorem dX12_approve_100 : decode cX12_approve 100 = .ok (.aload_n 0, 1) := by decide +kernel
theorem dX12_approve_101 : decode cX12_approve 101 = .ok (.getfield 215, 3) := by decide +kernel
theorem dX12_approve_104 : decode cX12_approve 104 = .ok (.ireturn, 1) := by decide +kernel
theorem dX12_translate_0 : decode cX12_translate 0 = .ok (.aload_n 0, 1) := by decide +kernel
theorem dX12_translate_1 : decode cX12_translate 1 = .ok (.iload_n 1, 1) := by decide +kernel
theorem dX12_translate_2 : decode cX12_translate 2 = .ok (.invokestatic 188, 3) := by decide +kernel
theorem dX12_translate_5 : decode cX12_translate 5 = .ok (.ifCond .eq 20, 3) := by decide +kernel
theorem dX12_translate_8 : decode cX12_translate 8 = .ok (.iload_n 3, 1) := by decide +kernel
theorem dX12_translate_9 : decode cX12_translate 9 = .ok (.invokestatic 188, 3) := by decide +kernel
theorem dX12_translate_12 : decode cX12_translate 12 = .ok (.ifCond .eq 13, 3) := by decide +kernel
theorem dX12_translate_15 : decode cX12_translate 15 = .ok (.aload_n 0, 1) := by decide +kernel
theorem dX12_translate_16 : decode cX12_translate 16 = .ok (.getfield 19, 3) := by decide +kernel
theorem dX12_translate_19 : decode cX12_translate 19 = .ok (.iload_n 1, 1) := by decide +kernel
theorem dX12_translate_20 : decode cX12_translate 20 = .ok (.iaload, 1) := by decide +kernel
theorem dX12_translate_21 : decode cX12_translate 21 = .ok (.iconst (-1), 1) := by decide +kernel
theorem dX12_translate_22 : decode cX12_translate 22 = .ok (.if_icmp .ne 7, 3) := by decide +kernel
theorem dX12_translate_25 : decode cX12_translate 25 = .ok (.iconst 1, 1) := by decide +kernel
theorem dX12_translate_26 : decode cX12_translate 26 = .ok (.goto 22, 3) := by decide +kernel
theorem dX12_translate_29 : decode cX12_translate 29 = .ok (.iload_n 2, 1) := by decide +kernel
theorem dX12_translate_30 : decode cX12_translate 30 = .ok (.iconst 1, 1) := by decide +kernel
theorem dX12_translate_31 : decode cX12_translate 31 = .ok (.iconst 2, 1) := by decide +kernel
theorem dX12_translate_32 : decode cX12_translate 32 = .ok (.invokestatic 184, 3) := by decide +kernel
theorem dX12_translate_35 : decode cX12_translate 35 = .ok (.ifCond .eq 8, 3) := by decide +kernel
theorem dX12_translate_38 : decode cX12_translate 38 = .ok (.iload_n 1, 1) := by decide +kernel
theorem dX12_translate_39 : decode cX12_translate 39 = .ok (.iload_n 3, 1) := by decide +kernel
theorem dX12_translate_40 : decode cX12_translate 40 = .ok (.if_icmp .ne 7, 3) := by decide +kernel
theorem dX12_translate_43 : decode cX12_translate 43 = .ok (.iconst 2, 1) := by decide +kernel
theorem dX12_translate_44 : decode cX12_translate 44 = .ok (.goto 4, 3) := by decide +kernel
theorem dX12_translate_47 : decode cX12_translate 47 = .ok (.iconst 0, 1) := by decide +kernel
theorem dX12_translate_48 : decode cX12_translate 48 = .ok (.putfield 180, 3) := by decide +kernel
theorem dX12_translate_51 : decode cX12_translate 51 = .ok (.aload_n 0, 1) := by decide +kernel
theorem dX12_translate_52 : decode cX12_translate 52 = .ok (.getfield 180, 3) := by decide +kernel
theorem dX12_translate_55 : decode cX12_translate 55 = .ok (.ifCond .le 5, 3) := by decide +kernel
theorem dX12_translate_58 : decode cX12_translate 58 = .ok (.iconst 0, 1) := by decide +kernel
theorem dX12_translate_59 : decode cX12_translate 59 = .ok (.ireturn, 1) := by decide +kernel
theorem dX12_translate_60 : decode cX12_translate 60 = .ok (.bipush 24, 2) := by decide +kernel
theorem dX12_translate_62 : decode cX12_translate 62 = .ok (.iload_n 2, 1) := by decide +kernel
theorem dX12_translate_63 : decode cX12_translate 63 = .ok (.iconst 1, 1) := by decide +kernel
theorem dX12_translate_64 : decode cX12_translate 64 = .ok (.isub, 1) := by decide +kernel
theorem dX12_translate_65 : decode cX12_translate 65 = .ok (.imul, 1) := by decide +kernel
theorem dX12_translate_66 : decode cX12_translate 66 = .ok (.iload_n 1, 1) := by decide +kernel
theorem dX12_translate_67 : decode cX12_translate 67 = .ok (.iadd, 1) := by decide +kernel
theorem dX12_translate_68 : decode cX12_translate 68 = .ok (.istore 4, 2) := by decide +kernel
theorem dX12_translate_70 : decode cX12_translate 70 = .ok (.aload_n 0, 1) := by decide +kernel
theorem dX12_translate_71 : decode cX12_translate 71 = .ok (.getfield 43, 3) := by decide +kernel
theorem dX12_translate_74 : decode cX12_translate 74 = .ok (.iload 4, 2) := by decide +kernel
theorem dX12_translate_76 : decode cX12_translate 76 = .ok (.iaload, 1) := by decide +kernel
theorem dX12_translate_77 : decode cX12_translate 77 = .ok (.istore 5, 2) := by decide +kernel
theorem dX12_translate_79 : decode cX12_translate 79 = .ok (.aload_n 0, 1) := by decide +kernel
theorem dX12_translate_80 : decode cX12_translate 80 = .ok (.getfield 43, 3) := by decide +kernel
theorem dX12_translate_83 : decode cX12_translate 83 = .ok (.iload 4, 2) := by decide +kernel
theorem dX12_translate_85 : decode cX12_translate 85 = .ok (.iload_n 3, 1) := by decide +kernel
theorem dX12_translate_86 : decode cX12_translate 86 = .ok (.iastore, 1) := by decide +kernel
theorem dX12_translate_87 : decode cX12_translate 87 = .ok (.aload_n 0, 1) := by decide +kernel
theorem dX12_translate_88 : decode cX12_translate 88 = .ok (.getfield 46, 3) := by decide +kernel
theorem dX12_translate_91 : decode cX12_translate 91 = .ok (.iload 4, 2) := by decide +kernel
theorem dX12_translate_93 : decode cX12_translate 93 = .ok (.aload_n 0, 1) := by decide +kernel
theorem dX12_translate_94 : decode cX12_translate 94 = .ok (.iload_n 1, 1) := by decide +kernel
theorem dX12_translate_95 : decode cX12_translate 95 = .ok (.invokevirtual 209, 3) := by decide +kernel
theorem dX12_translate_98 : decode cX12_translate 98 = .ok (.iastore, 1) := by decide +kernel
theorem dX12_translate_99 : decode cX12_translate 99 = .ok (.iload 5, 2) := by decide +kernel
theorem dX12_translate_101 : decode cX12_translate 101 = .ok (.ireturn, 1) := by decide +kernel
theorem dX12_instruct_0 : decode cX12_instruct 0 = .ok (.iload_n 2, 1) := by decide +kernel
theorem dX12_instruct_1 : decode cX12_instruct 1 = .ok (.ifCond .ne 9, 3) := by decide +kernel
theorem dX12_instruct_4 : decode cX12_instruct 4 = .ok (.sipush 999, 3) := by decide +kernel
theorem dX12_instruct_7 : decode cX12_instruct 7 = .ok (.goto 31, 3) := by decide +kernel
theorem dX12_instruct_10 : decode cX12_instruct 10 = .ok (.iload_n 2, 1) := by decide +kernel
theorem dX12_instruct_11 : decode cX12_instruct 11 = .ok (.iconst 1, 1) := by decide +kernel
theorem dX12_instruct_12 : decode cX12_instruct 12 = .ok (.if_icmp .ne 8, 3) := by decide +kernel
theorem dX12_instruct_15 : decode cX12_instruct 15 = .ok (.bipush 8, 2) := by decide +kernel
theorem dX12_instruct_17 : decode cX12_instruct 17 = .ok (.goto 21, 3) := by decide +kernel
theorem dX12_instruct_20 : decode cX12_instruct 20 = .ok (.iload_n 2, 1) := by decide +kernel
theorem dX12_instruct_21 : decode cX12_instruct 21 = .ok (.bipush 6, 2) := by decide +kernel
theorem dX12_instruct_23 : decode cX12_instruct 23 = .ok (.if_icmp .eq 9, 3) := by decide +kernel
theorem dX12_instruct_26 : decode cX12_instruct 26 = .ok (.iload_n 2, 1) := by decide +kernel
theorem dX12_instruct_27 : decode cX12_instruct 27 = .ok (.bipush 7, 2) := by decide +kernel
theorem dX12_instruct_29 : decode cX12_instruct 29 = .ok (.if_icmp .ne 8, 3) := by decide +kernel
theorem dX12_instruct_32 : decode cX12_instruct 32 = .ok (.bipush 15, 2) := by decide +kernel
theorem dX12_instruct_34 : decode cX12_instruct 34 = .ok (.goto 4, 3) := by decide +kernel
theorem dX12_instruct_37 : decode cX12_instruct 37 = .ok (.iconst 0, 1) := by decide +kernel
theorem dX12_instruct_38 : decode cX12_instruct 38 = .ok (.istore 4, 2) := by decide +kernel
theorem dX12_instruct_40 : decode cX12_instruct 40 = .ok (.aload_n 0, 1) := by decide +kernel
theorem dX12_instruct_41 : decode cX12_instruct 41 = .ok (.iload_n 1, 1) := by decide +kernel
theorem dX12_instruct_42 : decode cX12_instruct 42 = .ok (.iconst 0, 1) := by decide +kernel
theorem dX12_instruct_43 : decode cX12_instruct 43 = .ok (.iconst 3, 1) := by decide +kernel
theorem dX12_instruct_44 : decode cX12_instruct 44 = .ok (.invokestatic 184, 3) := by decide +kernel
theorem dX12_instruct_47 : decode cX12_instruct 47 = .ok (.ifCond .ne 7, 3) := by decide +kernel
theorem dX12_instruct_50 : decode cX12_instruct 50 = .ok (.iconst 1, 1) := by decide +kernel
theorem dX12_instruct_51 : decode cX12_instruct 51 = .ok (.goto 43, 3) := by decide +kernel
theorem dX12_instruct_54 : decode cX12_instruct 54 = .ok (.iload_n 2, 1) := by decide +kernel
theorem dX12_instruct_55 : decode cX12_instruct 55 = .ok (.iconst 0, 1) := by decide +kernel
theorem dX12_instruct_56 : decode cX12_instruct 56 = .ok (.bipush 8, 2) := by decide +kernel
theorem dX12_instruct_58 : decode cX12_instruct 58 = .ok (.invokestatic 184, 3) := by decide +kernel
theorem dX12_instruct_61 : decode cX12_instruct 61 = .ok (.ifCond .eq 13, 3) := by decide +kernel
theorem dX12_instruct_64 : decode cX12_instruct 64 = .ok (.iload_n 3, 1) := by decide +kernel
theorem dX12_instruct_65 : decode cX12_instruct 65 = .ok (.iconst 0, 1) := by decide +kernel
theorem dX12_instruct_66 : decode cX12_instruct 66 = .ok (.iload 4, 2) := by decide +kernel
theorem dX12_instruct_68 : decode cX12_instruct 68 = .ok (.invokestatic 184, 3) := by decide +kernel
theorem dX12_instruct_71 : decode cX12_instruct 71 = .ok (.ifCond .ne 7, 3) := by decide +kernel
theorem dX12_instruct_74 : decode cX12_instruct 74 = .ok (.iconst 2, 1) := by decide +kernel
theorem dX12_instruct_75 : decode cX12_instruct 75 = .ok (.goto 19, 3) := by decide +kernel
theorem dX12_instruct_78 : decode cX12_instruct 78 = .ok (.aload_n 0, 1) := by decide +kernel
theorem dX12_instruct_79 : decode cX12_instruct 79 = .ok (.getfield 55, 3) := by decide +kernel
theorem dX12_instruct_82 : decode cX12_instruct 82 = .ok (.iload_n 1, 1) := by decide +kernel
theorem dX12_instruct_83 : decode cX12_instruct 83 = .ok (.iaload, 1) := by decide +kernel
theorem dX12_instruct_84 : decode cX12_instruct 84 = .ok (.bipush 16, 2) := by decide +kernel
theorem dX12_instruct_86 : decode cX12_instruct 86 = .ok (.if_icmp .ne 7, 3) := by decide +kernel
theorem dX12_instruct_89 : decode cX12_instruct 89 = .ok (.iconst 3, 1) := by decide +kernel
theorem dX12_instruct_90 : decode cX12_instruct 90 = .ok (.goto 4, 3) := by decide +kernel
theorem dX12_instruct_93 : decode cX12_instruct 93 = .ok (.iconst 0, 1) := by decide +kernel
theorem dX12_instruct_94 : decode cX12_instruct 94 = .ok (.putfield 180, 3) := by decide +kernel
theorem dX12_instruct_97 : decode cX12_instruct 97 = .ok (.aload_n 0, 1) := by decide +kernel
theorem dX12_instruct_98 : decode cX12_instruct 98 = .ok (.getfield 180, 3) := by decide +kernel
theorem dX12_instruct_101 : decode cX12_instruct 101 = .ok (.ifCond .le 5, 3) := by decide +kernel
theorem dX12_instruct_104 : decode cX12_instruct 104 = .ok (.iconst 0, 1) := by decide +kernel
theorem dX12_instruct_105 : decode cX12_instruct 105 = .ok (.ireturn, 1) := by decide +kernel
theorem dX12_instruct_106 : decode cX12_instruct 106 = .ok (.aload_n 0, 1) := by decide +kernel
theorem dX12_instruct_107 : decode cX12_instruct 107 = .ok (.getfield 49, 3) := by decide +kernel
theorem dX12_instruct_110 : decode cX12_instruct 110 = .ok (.bipush 16, 2) := by decide +kernel
theorem dX12_instruct_112 : decode cX12_instruct 112 = .ok (.iload_n 1, 1) := by decide +kernel
theorem dX12_instruct_113 : decode cX12_instruct 113 = .ok (.imul, 1) := by decide +kernel
theorem dX12_instruct_114 : decode cX12_instruct 114 = .ok (.aload_n 0, 1) := by decide +kernel
theorem dX12_instruct_115 : decode cX12_instruct 115 = .ok (.getfield 55, 3) := by decide +kernel
theorem dX12_instruct_118 : decode cX12_instruct 118 = .ok (.iload_n 1, 1) := by decide +kernel
theorem dX12_instruct_119 : decode cX12_instruct 119 = .ok (.iaload, 1) := by decide +kernel
theorem dX12_instruct_120 : decode cX12_instruct 120 = .ok (.iadd, 1) := by decide +kernel
theorem dX12_instruct_121 : decode cX12_instruct 121 = .ok (.iload_n 2, 1) := by decide +kernel
theorem dX12_instruct_122 : decode cX12_instruct 122 = .ok (.iastore, 1) := by decide +kernel
theorem dX12_instruct_123 : decode cX12_instruct 123 = .ok (.aload_n 0, 1) := by decide +kernel
theorem dX12_instruct_124 : decode cX12_instruct 124 = .ok (.getfield 52, 3) := by decide +kernel
theorem dX12_instruct_127 : decode cX12_instruct 127 = .ok (.bipush 16, 2) := by decide +kernel
theorem dX12_instruct_129 : decode cX12_instruct 129 = .ok (.iload_n 1, 1) := by decide +kernel
theorem dX12_instruct_130 : decode cX12_instruct 130 = .ok (.imul, 1) := by decide +kernel
theorem dX12_instruct_131 : decode cX12_instruct 131 = .ok (.aload_n 0, 1) := by decide +kernel
theorem dX12_instruct_132 : decode cX12_instruct 132 = .ok (.getfield 55, 3) := by decide +kernel
theorem dX12_instruct_135 : decode cX12_instruct 135 = .ok (.iload_n 1, 1) := by decide +kernel
theorem dX12_instruct_136 : decode cX12_instruct 136 = .ok (.iaload, 1) := by decide +kernel
theorem dX12_instruct_137 : decode cX12_instruct 137 = .ok (.iadd, 1) := by decide +kernel
theorem dX12_instruct_138 : decode cX12_instruct 138 = .ok (.iload_n 3, 1) := by decide +kernel
theorem dX12_instruct_139 : decode cX12_instruct 139 = .ok (.iastore, 1) := by decide +kernel
theorem dX12_instruct_140 : decode cX12_instruct 140 = .ok (.aload_n 0, 1) := by decide +kernel
theorem dX12_instruct_141 : decode cX12_instruct 141 = .ok (.getfield 55, 3) := by decide +kernel
theorem dX12_instruct_144 : decode cX12_instruct 144 = .ok (.iload_n 1, 1) := by decide +kernel
theorem dX12_instruct_145 : decode cX12_instruct 145 = .ok (.dup2, 1) := by decide +kernel
theorem dX12_instruct_146 : decode cX12_instruct 146 = .ok (.iaload, 1) := by decide +kernel
theorem dX12_instruct_147 : decode cX12_instruct 147 = .ok (.iconst 1, 1) := by decide +kernel
theorem dX12_instruct_148 : decode cX12_instruct 148 = .ok (.iadd, 1) := by decide +kernel
theorem dX12_instruct_149 : decode cX12_instruct 149 = .ok (.iastore, 1) := by decide +kernel
theorem dX12_instruct_150 : decode cX12_instruct 150 = .ok (.aload_n 0, 1) := by decide +kernel
theorem dX12_instruct_151 : decode cX12_instruct 151 = .ok (.dup, 1) := by decide +kernel
theorem dX12_instruct_152 : decode cX12_instruct 152 = .ok (.getfield 212, 3) := by decide +kernel
theorem dX12_instruct_155 : decode cX12_instruct 155 = .ok (.iconst 1, 1) := by decide +kernel
theorem dX12_instruct_156 : decode cX12_instruct 156 = .ok (.iadd, 1) := by decide +kernel
theorem dX12_instruct_157 : decode cX12_instruct 157 = .ok (.putfield 212, 3) := by decide +kernel
theorem dX12_instruct_160 : decode cX12_instruct 160 = .ok (.aload_n 0, 1) := by decide +kernel
theorem dX12_instruct_161 : decode cX12_instruct 161 = .ok (.getfield 64, 3) := by decide +kernel
theorem dX12_instruct_164 : decode cX12_instruct 164 = .ok (.iload_n 1, 1) := by decide +kernel
theorem dX12_instruct_165 : decode cX12_instruct 165 = .ok (.aload_n 0, 1) := by decide +kernel
theorem dX12_instruct_166 : decode cX12_instruct 166 = .ok (.getfield 212, 3) := by decide +kernel
theorem dX12_instruct_169 : decode cX12_instruct 169 = .ok (.iastore, 1) := by decide +kernel
theorem dX12_instruct_170 : decode cX12_instruct 170 = .ok (.aload_n 0, 1) := by decide +kernel
theorem dX12_instruct_171 : decode cX12_instruct 171 = .ok (.getfield 55, 3) := by decide +kernel
theorem dX12_instruct_174 : decode cX12_instruct 174 = .ok (.iload_n 1, 1) := by decide +kernel
theorem dX12_instruct_175 : decode cX12_instruct 175 = .ok (.iaload, 1) := by decide +kernel
theorem dX12_instruct_176 : decode cX12_instruct 176 = .ok (.ireturn, 1) := by decide +kernel
theorem dX12_empty_0 : decode cX12_empty 0 = .ok (.aload_n 0, 1) := by decide +kernel
theorem dX12_empty_1 : decode cX12_empty 1 = .ok (.iload_n 1, 1) := by decide +kernel
theorem dX12_empty_2 : decode cX12_empty 2 = .ok (.iconst 0, 1) := by decide +kernel
theorem dX12_empty_3 : decode cX12_empty 3 = .ok (.iconst 3, 1) := by decide +kernel
theorem dX12_empty_4 : decode cX12_empty 4 = .ok (.invokestatic 184, 3) := by decide +kernel
theorem dX12_empty_7 : decode cX12_empty 7 = .ok (.ifCond .eq 7, 3) := by decide +kernel
theorem dX12_empty_10 : decode cX12_empty 10 = .ok (.iconst 0, 1) := by decide +kernel
theorem dX12_empty_11 : decode cX12_empty 11 = .ok (.goto 4, 3) := by decide +kernel
theorem dX12_empty_14 : decode cX12_empty 14 = .ok (.iconst 1, 1) := by decide +kernel
theorem dX12_empty_15 : decode cX12_empty 15 = .ok (.putfield 180, 3) := by decide +kernel
theorem dX12_empty_18 : decode cX12_empty 18 = .ok (.aload_n 0, 1) := by decide +kernel
theorem dX12_empty_19 : decode cX12_empty 19 = .ok (.getfield 180, 3) := by decide +kernel
theorem dX12_empty_22 : decode cX12_empty 22 = .ok (.ifCond .le 5, 3) := by decide +kernel
theorem dX12_empty_25 : decode cX12_empty 25 = .ok (.iconst 0, 1) := by decide +kernel
theorem dX12_empty_26 : decode cX12_empty 26 = .ok (.ireturn, 1) := by decide +kernel
theorem dX12_empty_27 : decode cX12_empty 27 = .ok (.aload_n 0, 1) := by decide +kernel
theorem dX12_empty_28 : decode cX12_empty 28 = .ok (.getfield 55, 3) := by decide +kernel
theorem dX12_empty_31 : decode cX12_empty 31 = .ok (.iload_n 1, 1) := by decide +kernel
theorem dX12_empty_32 : decode cX12_empty 32 = .ok (.iaload, 1) := by decide +kernel
theorem dX12_empty_33 : decode cX12_empty 33 = .ok (.istore_n 2, 1) := by decide +kernel
theorem dX12_empty_34 : decode cX12_empty 34 = .ok (.aload_n 0, 1) := by decide +kernel
theorem dX12_empty_35 : decode cX12_empty 35 = .ok (.getfield 55, 3) := by decide +kernel
theorem dX12_empty_38 : decode cX12_empty 38 = .ok (.iload_n 1, 1) := by decide +kernel
theorem dX12_empty_39 : decode cX12_empty 39 = .ok (.iconst 0, 1) := by decide +kernel
theorem dX12_empty_40 : decode cX12_empty 40 = .ok (.iastore, 1) := by decide +kernel
theorem dX12_empty_41 : decode cX12_empty 41 = .ok (.iload_n 2, 1) := by decide +kernel
theorem dX12_empty_42 : decode cX12_empty 42 = .ok (.ifCond .le 23, 3) := by decide +kernel
theorem dX12_empty_45 : decode cX12_empty 45 = .ok (.aload_n 0, 1) := by decide +kernel
theorem dX12_empty_46 : decode cX12_empty 46 = .ok (.dup, 1) := by decide +kernel
theorem dX12_empty_47 : decode cX12_empty 47 = .ok (.getfield 212, 3) := by decide +kernel
theorem dX12_empty_50 : decode cX12_empty 50 = .ok (.iconst 1, 1) := by decide +kernel
theorem dX12_empty_51 : decode cX12_empty 51 = .ok (.iadd, 1) := by decide +kernel
theorem dX12_empty_52 : decode cX12_empty 52 = .ok (.putfield 212, 3) := by decide +kernel
theorem dX12_empty_55 : decode cX12_empty 55 = .ok (.aload_n 0, 1) := by decide +kernel
theorem dX12_empty_56 : decode cX12_empty 56 = .ok (.getfield 64, 3) := by decide +kernel
theorem dX12_empty_59 : decode cX12_empty 59 = .ok (.iload_n 1, 1) := by decide +kernel
theorem dX12_empty_60 : decode cX12_empty 60 = .ok (.aload_n 0, 1) := by decide +kernel
theorem dX12_empty_61 : decode cX12_empty 61 = .ok (.getfield 212, 3) := by decide +kernel
theorem dX12_empty_64 : decode cX12_empty 64 = .ok (.iastore, 1) := by decide +kernel
theorem dX12_empty_65 : decode cX12_empty 65 = .ok (.iload_n 2, 1) := by decide +kernel
theorem dX12_empty_66 : decode cX12_empty 66 = .ok (.ireturn, 1) := by decide +kernel
theorem dX12_rank_0 : decode cX12_rank 0 = .ok (.aload_n 0, 1) := by decide +kernel
theorem dX12_rank_1 : decode cX12_rank 1 = .ok (.iload_n 1, 1) := by decide +kernel
theorem dX12_rank_2 : decode cX12_rank 2 = .ok (.invokestatic 188, 3) := by decide +kernel
theorem dX12_rank_5 : decode cX12_rank 5 = .ok (.ifCond .ne 7, 3) := by decide +kernel
theorem dX12_rank_8 : decode cX12_rank 8 = .ok (.iconst 1, 1) := by decide +kernel
theorem dX12_rank_9 : decode cX12_rank 9 = .ok (.goto 18, 3) := by decide +kernel
theorem dX12_rank_12 : decode cX12_rank 12 = .ok (.iload_n 2, 1) := by decide +kernel
theorem dX12_rank_13 : decode cX12_rank 13 = .ok (.iconst 0, 1) := by decide +kernel
theorem dX12_rank_14 : decode cX12_rank 14 = .ok (.bipush 99, 2) := by decide +kernel
theorem dX12_rank_16 : decode cX12_rank 16 = .ok (.invokestatic 184, 3) := by decide +kernel
theorem dX12_rank_19 : decode cX12_rank 19 = .ok (.ifCond .ne 7, 3) := by decide +kernel
theorem dX12_rank_22 : decode cX12_rank 22 = .ok (.iconst 2, 1) := by decide +kernel
theorem dX12_rank_23 : decode cX12_rank 23 = .ok (.goto 4, 3) := by decide +kernel
theorem dX12_rank_26 : decode cX12_rank 26 = .ok (.iconst 0, 1) := by decide +kernel
theorem dX12_rank_27 : decode cX12_rank 27 = .ok (.putfield 180, 3) := by decide +kernel
theorem dX12_rank_30 : decode cX12_rank 30 = .ok (.aload_n 0, 1) := by decide +kernel
theorem dX12_rank_31 : decode cX12_rank 31 = .ok (.getfield 180, 3) := by decide +kernel
theorem dX12_rank_34 : decode cX12_rank 34 = .ok (.ifCond .le 5, 3) := by decide +kernel
theorem dX12_rank_37 : decode cX12_rank 37 = .ok (.iconst 0, 1) := by decide +kernel
theorem dX12_rank_38 : decode cX12_rank 38 = .ok (.ireturn, 1) := by decide +kernel
theorem dX12_rank_39 : decode cX12_rank 39 = .ok (.aload_n 0, 1) := by decide +kernel
theorem dX12_rank_40 : decode cX12_rank 40 = .ok (.getfield 16, 3) := by decide +kernel
theorem dX12_rank_43 : decode cX12_rank 43 = .ok (.iload_n 1, 1) := by decide +kernel
theorem dX12_rank_44 : decode cX12_rank 44 = .ok (.iaload, 1) := by decide +kernel
theorem dX12_rank_45 : decode cX12_rank 45 = .ok (.istore_n 3, 1) := by decide +kernel
theorem dX12_rank_46 : decode cX12_rank 46 = .ok (.aload_n 0, 1) := by decide +kernel
theorem dX12_rank_47 : decode cX12_rank 47 = .ok (.getfield 16, 3) := by decide +kernel
theorem dX12_rank_50 : decode cX12_rank 50 = .ok (.iload_n 1, 1) := by decide +kernel
theorem dX12_rank_51 : decode cX12_rank 51 = .ok (.iload_n 2, 1) := by decide +kernel
theorem dX12_rank_52 : decode cX12_rank 52 = .ok (.iastore, 1) := by decide +kernel
theorem dX12_rank_53 : decode cX12_rank 53 = .ok (.iload_n 3, 1) := by decide +kernel
theorem dX12_rank_54 : decode cX12_rank 54 = .ok (.ireturn, 1) := by decide +kernel
theorem dX12_clock_0 : decode cX12_clock 0 = .ok (.aload_n 0, 1) := by decide +kernel
theorem dX12_clock_1 : decode cX12_clock 1 = .ok (.iconst 0, 1) := by decide +kernel
theorem dX12_clock_2 : decode cX12_clock 2 = .ok (.putfield 180, 3) := by decide +kernel
theorem dX12_clock_5 : decode cX12_clock 5 = .ok (.aload_n 0, 1) := by decide +kernel
theorem dX12_clock_6 : decode cX12_clock 6 = .ok (.getfield 215, 3) := by decide +kernel
theorem dX12_clock_9 : decode cX12_clock 9 = .ok (.ireturn, 1) := by decide +kernel
theorem dX12_asksFor_0 : decode cX12_asksFor 0 = .ok (.aload_n 0, 1) := by decide +kernel
theorem dX12_asksFor_1 : decode cX12_asksFor 1 = .ok (.iload_n 1, 1) := by decide +kernel
theorem dX12_asksFor_2 : decode cX12_asksFor 2 = .ok (.invokestatic 188, 3) := by decide +kernel
theorem dX12_asksFor_5 : decode cX12_asksFor 5 = .ok (.ifCond .eq 7, 3) := by decide +kernel
theorem dX12_asksFor_8 : decode cX12_asksFor 8 = .ok (.iconst 0, 1) := by decide +kernel
theorem dX12_asksFor_9 : decode cX12_asksFor 9 = .ok (.goto 4, 3) := by decide +kernel
theorem dX12_asksFor_12 : decode cX12_asksFor 12 = .ok (.iconst 1, 1) := by decide +kernel
theorem dX12_asksFor_13 : decode cX12_asksFor 13 = .ok (.putfield 180, 3) := by decide +kernel
theorem dX12_asksFor_16 : decode cX12_asksFor 16 = .ok (.aload_n 0, 1) := by decide +kernel
theorem dX12_asksFor_17 : decode cX12_asksFor 17 = .ok (.getfield 180, 3) := by decide +kernel
theorem dX12_asksFor_20 : decode cX12_asksFor 20 = .ok (.ifCond .ne 7, 3) := by decide +kernel
theorem dX12_asksFor_23 : decode cX12_asksFor 23 = .ok (.iconst 1, 1) := by decide +kernel
theorem dX12_asksFor_24 : decode cX12_asksFor 24 = .ok (.goto 4, 3) := by decide +kernel
theorem dX12_asksFor_27 : decode cX12_asksFor 27 = .ok (.iconst 0, 1) := by decide +kernel
theorem dX12_asksFor_28 : decode cX12_asksFor 28 = .ok (.ireturn, 1) := by decide +kernel
theorem dX12_versions_0 : decode cX12_versions 0 = .ok (.aload_n 0, 1) := by decide +kernel
theorem dX12_versions_1 : decode cX12_versions 1 = .ok (.iload_n 1, 1) := by decide +kernel
theorem dX12_versions_2 : decode cX12_versions 2 = .ok (.invokevirtual 470, 3) := by decide +kernel
theorem dX12_versions_5 : decode cX12_versions 5 = .ok (.ifCond .eq 26, 3) := by decide +kernel
theorem dX12_versions_8 : decode cX12_versions 8 = .ok (.aload_n 0, 1) := by decide +kernel
theorem dX12_versions_9 : decode cX12_versions 9 = .ok (.getfield 19, 3) := by decide +kernel
theorem dX12_versions_12 : decode cX12_versions 12 = .ok (.iload_n 1, 1) := by decide +kernel
theorem dX12_versions_13 : decode cX12_versions 13 = .ok (.iaload, 1) := by decide +kernel
theorem dX12_versions_14 : decode cX12_versions 14 = .ok (.iconst (-1), 1) := by decide +kernel
theorem dX12_versions_15 : decode cX12_versions 15 = .ok (.if_icmp .eq 16, 3) := by decide +kernel
theorem dX12_versions_18 : decode cX12_versions 18 = .ok (.aload_n 0, 1) := by decide +kernel
theorem dX12_versions_19 : decode cX12_versions 19 = .ok (.aload_n 0, 1) := by decide +kernel
theorem dX12_versions_20 : decode cX12_versions 20 = .ok (.getfield 19, 3) := by decide +kernel
theorem dX12_versions_23 : decode cX12_versions 23 = .ok (.iload_n 1, 1) := by decide +kernel
theorem dX12_versions_24 : decode cX12_versions 24 = .ok (.iaload, 1) := by decide +kernel
theorem dX12_versions_25 : decode cX12_versions 25 = .ok (.invokevirtual 473, 3) := by decide +kernel
theorem dX12_versions_28 : decode cX12_versions 28 = .ok (.goto 4, 3) := by decide +kernel
theorem dX12_versions_31 : decode cX12_versions 31 = .ok (.iconst 0, 1) := by decide +kernel
theorem dX12_versions_32 : decode cX12_versions 32 = .ok (.ireturn, 1) := by decide +kernel
theorem dX12_versionAt_0 : decode cX12_versionAt 0 = .ok (.aload_n 0, 1) := by decide +kernel
theorem dX12_versionAt_1 : decode cX12_versionAt 1 = .ok (.iload_n 1, 1) := by decide +kernel
theorem dX12_versionAt_2 : decode cX12_versionAt 2 = .ok (.invokevirtual 381, 3) := by decide +kernel
theorem dX12_versionAt_5 : decode cX12_versionAt 5 = .ok (.ifCond .eq 21, 3) := by decide +kernel
theorem dX12_versionAt_8 : decode cX12_versionAt 8 = .ok (.iload_n 2, 1) := by decide +kernel
theorem dX12_versionAt_9 : decode cX12_versionAt 9 = .ok (.ifCond .lt 17, 3) := by decide +kernel
theorem dX12_versionAt_12 : decode cX12_versionAt 12 = .ok (.aload_n 0, 1) := by decide +kernel
theorem dX12_versionAt_13 : decode cX12_versionAt 13 = .ok (.aload_n 0, 1) := by decide +kernel
theorem dX12_versionAt_14 : decode cX12_versionAt 14 = .ok (.getfield 19, 3) := by decide +kernel
theorem dX12_versionAt_17 : decode cX12_versionAt 17 = .ok (.iload_n 1, 1) := by decide +kernel
theorem dX12_versionAt_18 : decode cX12_versionAt 18 = .ok (.iaload, 1) := by decide +kernel
theorem dX12_versionAt_19 : decode cX12_versionAt 19 = .ok (.iload_n 2, 1) := by decide +kernel
theorem dX12_versionAt_20 : decode cX12_versionAt 20 = .ok (.invokevirtual 454, 3) := by decide +kernel
theorem dX12_versionAt_23 : decode cX12_versionAt 23 = .ok (.goto 4, 3) := by decide +kernel
theorem dX12_versionAt_26 : decode cX12_versionAt 26 = .ok (.iconst (-1), 1) := by decide +kernel
theorem dX12_versionAt_27 : decode cX12_versionAt 27 = .ok (.istore_n 3, 1) := by decide +kernel
theorem dX12_versionAt_28 : decode cX12_versionAt 28 = .ok (.aload_n 0, 1) := by decide +kernel
theorem dX12_versionAt_29 : decode cX12_versionAt 29 = .ok (.iload_n 3, 1) := by decide +kernel
theorem dX12_versionAt_30 : decode cX12_versionAt 30 = .ok (.iconst (-1), 1) := by decide +kernel
theorem dX12_versionAt_31 : decode cX12_versionAt 31 = .ok (.if_icmp .ne 7, 3) := by decide +kernel
theorem dX12_versionAt_34 : decode cX12_versionAt 34 = .ok (.iconst 1, 1) := by decide +kernel
theorem dX12_versionAt_35 : decode cX12_versionAt 35 = .ok (.goto 4, 3) := by decide +kernel
theorem dX12_versionAt_38 : decode cX12_versionAt 38 = .ok (.iconst 0, 1) := by decide +kernel
theorem dX12_versionAt_39 : decode cX12_versionAt 39 = .ok (.putfield 180, 3) := by decide +kernel
theorem dX12_versionAt_42 : decode cX12_versionAt 42 = .ok (.aload_n 0, 1) := by decide +kernel
theorem dX12_versionAt_43 : decode cX12_versionAt 43 = .ok (.getfield 180, 3) := by decide +kernel
theorem dX12_versionAt_46 : decode cX12_versionAt 46 = .ok (.ifCond .ne 7, 3) := by decide +kernel
theorem dX12_versionAt_49 : decode cX12_versionAt 49 = .ok (.iload_n 3, 1) := by decide +kernel
theorem dX12_versionAt_50 : decode cX12_versionAt 50 = .ok (.goto 4, 3) := by decide +kernel
theorem dX12_versionAt_53 : decode cX12_versionAt 53 = .ok (.iconst 0, 1) := by decide +kernel
theorem dX12_versionAt_54 : decode cX12_versionAt 54 = .ok (.ireturn, 1) := by decide +kernel
theorem dX12_hasIndex_0 : decode cX12_hasIndex 0 = .ok (.aload_n 0, 1) := by decide +kernel
theorem dX12_hasIndex_1 : decode cX12_hasIndex 1 = .ok (.aload_n 0, 1) := by decide +kernel
theorem dX12_hasIndex_2 : decode cX12_hasIndex 2 = .ok (.iload_n 1, 1) := by decide +kernel
theorem dX12_hasIndex_3 : decode cX12_hasIndex 3 = .ok (.invokevirtual 381, 3) := by decide +kernel
theorem dX12_hasIndex_6 : decode cX12_hasIndex 6 = .ok (.ifCond .eq 11, 3) := by decide +kernel
theorem dX12_hasIndex_9 : decode cX12_hasIndex 9 = .ok (.iload_n 2, 1) := by decide +kernel
theorem dX12_hasIndex_10 : decode cX12_hasIndex 10 = .ok (.ifCond .lt 7, 3) := by decide +kernel
theorem dX12_hasIndex_13 : decode cX12_hasIndex 13 = .ok (.iconst 0, 1) := by decide +kernel
theorem dX12_hasIndex_14 : decode cX12_hasIndex 14 = .ok (.goto 4, 3) := by decide +kernel
theorem dX12_hasIndex_17 : decode cX12_hasIndex 17 = .ok (.iconst 1, 1) := by decide +kernel
theorem dX12_hasIndex_18 : decode cX12_hasIndex 18 = .ok (.putfield 180, 3) := by decide +kernel
theorem dX12_hasIndex_21 : decode cX12_hasIndex 21 = .ok (.aload_n 0, 1) := by decide +kernel
theorem dX12_hasIndex_22 : decode cX12_hasIndex 22 = .ok (.getfield 180, 3) := by decide +kernel
theorem dX12_hasIndex_25 : decode cX12_hasIndex 25 = .ok (.ifCond .ne 7, 3) := by decide +kernel
theorem dX12_hasIndex_28 : decode cX12_hasIndex 28 = .ok (.iconst 1, 1) := by decide +kernel
theorem dX12_hasIndex_29 : decode cX12_hasIndex 29 = .ok (.goto 4, 3) := by decide +kernel
theorem dX12_hasIndex_32 : decode cX12_hasIndex 32 = .ok (.iconst 0, 1) := by decide +kernel
theorem dX12_hasIndex_33 : decode cX12_hasIndex 33 = .ok (.ireturn, 1) := by decide +kernel
theorem dX12_tokenAt_0 : decode cX12_tokenAt 0 = .ok (.aload_n 0, 1) := by decide +kernel
theorem dX12_tokenAt_1 : decode cX12_tokenAt 1 = .ok (.iload_n 1, 1) := by decide +kernel
theorem dX12_tokenAt_2 : decode cX12_tokenAt 2 = .ok (.iload_n 2, 1) := by decide +kernel
theorem dX12_tokenAt_3 : decode cX12_tokenAt 3 = .ok (.invokevirtual 476, 3) := by decide +kernel
theorem dX12_tokenAt_6 : decode cX12_tokenAt 6 = .ok (.ifCond .ne 5, 3) := by decide +kernel
theorem dX12_tokenAt_9 : decode cX12_tokenAt 9 = .ok (.iconst 0, 1) := by decide +kernel
theorem dX12_tokenAt_10 : decode cX12_tokenAt 10 = .ok (.ireturn, 1) := by decide +kernel
theorem dX12_tokenAt_11 : decode cX12_tokenAt 11 = .ok (.aload_n 0, 1) := by decide +kernel
theorem dX12_tokenAt_12 : decode cX12_tokenAt 12 = .ok (.iload_n 1, 1) := by decide +kernel
theorem dX12_tokenAt_13 : decode cX12_tokenAt 13 = .ok (.invokevirtual 209, 3) := by decide +kernel
theorem dX12_tokenAt_16 : decode cX12_tokenAt 16 = .ok (.istore_n 3, 1) := by decide +kernel
theorem dX12_tokenAt_17 : decode cX12_tokenAt 17 = .ok (.iload_n 2, 1) := by decide +kernel
theorem dX12_tokenAt_18 : decode cX12_tokenAt 18 = .ok (.aload_n 0, 1) := by decide +kernel
theorem dX12_tokenAt_19 : decode cX12_tokenAt 19 = .ok (.getfield 25, 3) := by decide +kernel
theorem dX12_tokenAt_22 : decode cX12_tokenAt 22 = .ok (.iload_n 3, 1) := by decide +kernel
theorem dX12_tokenAt_23 : decode cX12_tokenAt 23 = .ok (.iaload, 1) := by decide +kernel
theorem dX12_tokenAt_24 : decode cX12_tokenAt 24 = .ok (.if_icmp .ge 17, 3) := by decide +kernel
theorem dX12_tokenAt_27 : decode cX12_tokenAt 27 = .ok (.aload_n 0, 1) := by decide +kernel
theorem dX12_tokenAt_28 : decode cX12_tokenAt 28 = .ok (.getfield 22, 3) := by decide +kernel
theorem dX12_tokenAt_31 : decode cX12_tokenAt 31 = .ok (.bipush 30, 2) := by decide +kernel
theorem dX12_tokenAt_33 : decode cX12_tokenAt 33 = .ok (.iload_n 3, 1) := by decide +kernel
theorem dX12_tokenAt_34 : decode cX12_tokenAt 34 = .ok (.imul, 1) := by decide +kernel
theorem dX12_tokenAt_35 : decode cX12_tokenAt 35 = .ok (.iload_n 2, 1) := by decide +kernel
theorem dX12_tokenAt_36 : decode cX12_tokenAt 36 = .ok (.iadd, 1) := by decide +kernel
theorem dX12_tokenAt_37 : decode cX12_tokenAt 37 = .ok (.iaload, 1) := by decide +kernel
theorem dX12_tokenAt_38 : decode cX12_tokenAt 38 = .ok (.goto 4, 3) := by decide +kernel
theorem dX12_tokenAt_41 : decode cX12_tokenAt 41 = .ok (.iconst (-1), 1) := by decide +kernel
theorem dX12_tokenAt_42 : decode cX12_tokenAt 42 = .ok (.ireturn, 1) := by decide +kernel
theorem dX12_leadsTo_0 : decode cX12_leadsTo 0 = .ok (.aload_n 0, 1) := by decide +kernel
theorem dX12_leadsTo_1 : decode cX12_leadsTo 1 = .ok (.iconst (-1), 1) := by decide +kernel
theorem dX12_leadsTo_2 : decode cX12_leadsTo 2 = .ok (.putfield 232, 3) := by decide +kernel
theorem dX12_leadsTo_5 : decode cX12_leadsTo 5 = .ok (.aload_n 0, 1) := by decide +kernel
theorem dX12_leadsTo_6 : decode cX12_leadsTo 6 = .ok (.iload_n 1, 1) := by decide +kernel
theorem dX12_leadsTo_7 : decode cX12_leadsTo 7 = .ok (.invokevirtual 273, 3) := by decide +kernel
theorem dX12_leadsTo_10 : decode cX12_leadsTo 10 = .ok (.ireturn, 1) := by decide +kernel
theorem dX12_leads_0 : decode cX12_leads 0 = .ok (.aload_n 0, 1) := by decide +kernel
theorem dX12_leads_1 : decode cX12_leads 1 = .ok (.iload_n 1, 1) := by decide +kernel
theorem dX12_leads_2 : decode cX12_leads 2 = .ok (.invokevirtual 470, 3) := by decide +kernel
theorem dX12_leads_5 : decode cX12_leads 5 = .ok (.ifCond .eq 11, 3) := by decide +kernel
theorem dX12_leads_8 : decode cX12_leads 8 = .ok (.aload_n 0, 1) := by decide +kernel
theorem dX12_leads_9 : decode cX12_leads 9 = .ok (.iload_n 1, 1) := by decide +kernel
theorem dX12_leads_10 : decode cX12_leads 10 = .ok (.invokevirtual 479, 3) := by decide +kernel
theorem dX12_leads_13 : decode cX12_leads 13 = .ok (.goto 4, 3) := by decide +kernel
theorem dX12_leads_16 : decode cX12_leads 16 = .ok (.iconst 0, 1) := by decide +kernel
theorem dX12_leads_17 : decode cX12_leads 17 = .ok (.ireturn, 1) := by decide +kernel
theorem dX12_isStale_0 : decode cX12_isStale 0 = .ok (.aload_n 0, 1) := by decide +kernel
theorem dX12_isStale_1 : decode cX12_isStale 1 = .ok (.aload_n 0, 1) := by decide +kernel
theorem dX12_isStale_2 : decode cX12_isStale 2 = .ok (.iload_n 1, 1) := by decide +kernel
theorem dX12_isStale_3 : decode cX12_isStale 3 = .ok (.invokevirtual 381, 3) := by decide +kernel
theorem dX12_isStale_6 : decode cX12_isStale 6 = .ok (.ifCond .eq 7, 3) := by decide +kernel
theorem dX12_isStale_9 : decode cX12_isStale 9 = .ok (.iconst 0, 1) := by decide +kernel
theorem dX12_isStale_10 : decode cX12_isStale 10 = .ok (.goto 4, 3) := by decide +kernel
theorem dX12_isStale_13 : decode cX12_isStale 13 = .ok (.iconst 1, 1) := by decide +kernel
theorem dX12_isStale_14 : decode cX12_isStale 14 = .ok (.putfield 180, 3) := by decide +kernel
theorem dX12_isStale_17 : decode cX12_isStale 17 = .ok (.aload_n 0, 1) := by decide +kernel
theorem dX12_isStale_18 : decode cX12_isStale 18 = .ok (.getfield 180, 3) := by decide +kernel
theorem dX12_isStale_21 : decode cX12_isStale 21 = .ok (.ifCond .ne 15, 3) := by decide +kernel
theorem dX12_isStale_24 : decode cX12_isStale 24 = .ok (.aload_n 0, 1) := by decide +kernel
theorem dX12_isStale_25 : decode cX12_isStale 25 = .ok (.iload_n 1, 1) := by decide +kernel
theorem dX12_isStale_26 : decode cX12_isStale 26 = .ok (.invokevirtual 372, 3) := by decide +kernel
theorem dX12_isStale_29 : decode cX12_isStale 29 = .ok (.ifCond .eq 7, 3) := by decide +kernel
theorem dX12_isStale_32 : decode cX12_isStale 32 = .ok (.iconst 1, 1) := by decide +kernel
theorem dX12_isStale_33 : decode cX12_isStale 33 = .ok (.goto 4, 3) := by decide +kernel
theorem dX12_isStale_36 : decode cX12_isStale 36 = .ok (.iconst 0, 1) := by decide +kernel
theorem dX12_isStale_37 : decode cX12_isStale 37 = .ok (.ireturn, 1) := by decide +kernel
theorem dX12_queued_0 : decode cX12_queued 0 = .ok (.aload_n 0, 1) := by decide +kernel
theorem dX12_queued_1 : decode cX12_queued 1 = .ok (.iconst 0, 1) := by decide +kernel
theorem dX12_queued_2 : decode cX12_queued 2 = .ok (.putfield 180, 3) := by decide +kernel
theorem dX12_queued_5 : decode cX12_queued 5 = .ok (.iconst 0, 1) := by decide +kernel
theorem dX12_queued_6 : decode cX12_queued 6 = .ok (.istore_n 1, 1) := by decide +kernel
theorem dX12_queued_7 : decode cX12_queued 7 = .ok (.iconst 0, 1) := by decide +kernel
theorem dX12_queued_8 : decode cX12_queued 8 = .ok (.istore_n 2, 1) := by decide +kernel
theorem dX12_queued_9 : decode cX12_queued 9 = .ok (.iload_n 2, 1) := by decide +kernel
theorem dX12_queued_10 : decode cX12_queued 10 = .ok (.bipush 24, 2) := by decide +kernel
theorem dX12_queued_12 : decode cX12_queued 12 = .ok (.if_icmp .ge 35, 3) := by decide +kernel
theorem dX12_queued_15 : decode cX12_queued 15 = .ok (.iload_n 1, 1) := by decide +kernel
theorem dX12_queued_16 : decode cX12_queued 16 = .ok (.aload_n 0, 1) := by decide +kernel
theorem dX12_queued_17 : decode cX12_queued 17 = .ok (.getfield 19, 3) := by decide +kernel
theorem dX12_queued_20 : decode cX12_queued 20 = .ok (.iload_n 2, 1) := by decide +kernel
theorem dX12_queued_21 : decode cX12_queued 21 = .ok (.iaload, 1) := by decide +kernel
theorem dX12_queued_22 : decode cX12_queued 22 = .ok (.iconst (-1), 1) := by decide +kernel
theorem dX12_queued_23 : decode cX12_queued 23 = .ok (.if_icmp .eq 15, 3) := by decide +kernel
theorem dX12_queued_26 : decode cX12_queued 26 = .ok (.aload_n 0, 1) := by decide +kernel
theorem dX12_queued_27 : decode cX12_queued 27 = .ok (.iload_n 2, 1) := by decide +kernel
theorem dX12_queued_28 : decode cX12_queued 28 = .ok (.invokevirtual 372, 3) := by decide +kernel
theorem dX12_queued_31 : decode cX12_queued 31 = .ok (.ifCond .eq 7, 3) := by decide +kernel
theorem dX12_queued_34 : decode cX12_queued 34 = .ok (.iconst 1, 1) := by decide +kernel
theorem dX12_queued_35 : decode cX12_queued 35 = .ok (.goto 4, 3) := by decide +kernel
theorem dX12_queued_38 : decode cX12_queued 38 = .ok (.iconst 0, 1) := by decide +kernel
theorem dX12_queued_39 : decode cX12_queued 39 = .ok (.iadd, 1) := by decide +kernel
theorem dX12_queued_40 : decode cX12_queued 40 = .ok (.istore_n 1, 1) := by decide +kernel
theorem dX12_queued_41 : decode cX12_queued 41 = .ok (.iinc 2 1, 3) := by decide +kernel
theorem dX12_queued_44 : decode cX12_queued 44 = .ok (.goto (-35), 3) := by decide +kernel
theorem dX12_queued_47 : decode cX12_queued 47 = .ok (.iload_n 1, 1) := by decide +kernel
theorem dX12_queued_48 : decode cX12_queued 48 = .ok (.ireturn, 1) := by decide +kernel
theorem dX12_shown_0 : decode cX12_shown 0 = .ok (.aload_n 0, 1) := by decide +kernel
theorem dX12_shown_1 : decode cX12_shown 1 = .ok (.iload_n 1, 1) := by decide +kernel
theorem dX12_shown_2 : decode cX12_shown 2 = .ok (.iload_n 2, 1) := by decide +kernel
theorem dX12_shown_3 : decode cX12_shown 3 = .ok (.invokevirtual 476, 3) := by decide +kernel
theorem dX12_shown_6 : decode cX12_shown 6 = .ok (.ifCond .ne 7, 3) := by decide +kernel
theorem dX12_shown_9 : decode cX12_shown 9 = .ok (.iconst 0, 1) := by decide +kernel
theorem dX12_shown_10 : decode cX12_shown 10 = .ok (.goto 38, 3) := by decide +kernel
theorem dX12_shown_13 : decode cX12_shown 13 = .ok (.aload_n 0, 1) := by decide +kernel
theorem dX12_shown_14 : decode cX12_shown 14 = .ok (.getfield 70, 3) := by decide +kernel
theorem dX12_shown_17 : decode cX12_shown 17 = .ok (.iload_n 1, 1) := by decide +kernel
theorem dX12_shown_18 : decode cX12_shown 18 = .ok (.baload, 1) := by decide +kernel
theorem dX12_shown_19 : decode cX12_shown 19 = .ok (.ifCond .eq 28, 3) := by decide +kernel
theorem dX12_shown_22 : decode cX12_shown 22 = .ok (.iload_n 2, 1) := by decide +kernel
theorem dX12_shown_23 : decode cX12_shown 23 = .ok (.aload_n 0, 1) := by decide +kernel
theorem dX12_shown_24 : decode cX12_shown 24 = .ok (.getfield 80, 3) := by decide +kernel
theorem dX12_shown_27 : decode cX12_shown 27 = .ok (.iload_n 1, 1) := by decide +kernel
theorem dX12_shown_28 : decode cX12_shown 28 = .ok (.iaload, 1) := by decide +kernel
theorem dX12_shown_29 : decode cX12_shown 29 = .ok (.if_icmp .ge 18, 3) := by decide +kernel
theorem dX12_shown_32 : decode cX12_shown 32 = .ok (.aload_n 0, 1) := by decide +kernel
theorem dX12_shown_33 : decode cX12_shown 33 = .ok (.getfield 77, 3) := by decide +kernel
theorem dX12_shown_36 : decode cX12_shown 36 = .ok (.sipush 150, 3) := by decide +kernel
theorem dX12_shown_39 : decode cX12_shown 39 = .ok (.iload_n 1, 1) := by decide +kernel
theorem dX12_shown_40 : decode cX12_shown 40 = .ok (.imul, 1) := by decide +kernel
theorem dX12_shown_41 : decode cX12_shown 41 = .ok (.iload_n 2, 1) := by decide +kernel
theorem dX12_shown_42 : decode cX12_shown 42 = .ok (.iadd, 1) := by decide +kernel
theorem dX12_shown_43 : decode cX12_shown 43 = .ok (.iaload, 1) := by decide +kernel
theorem dX12_shown_44 : decode cX12_shown 44 = .ok (.goto 4, 3) := by decide +kernel
theorem dX12_shown_47 : decode cX12_shown 47 = .ok (.iconst (-1), 1) := by decide +kernel
theorem dX12_shown_48 : decode cX12_shown 48 = .ok (.ireturn, 1) := by decide +kernel
theorem dX12_shownAnew_0 : decode cX12_shownAnew 0 = .ok (.aload_n 0, 1) := by decide +kernel
theorem dX12_shownAnew_1 : decode cX12_shownAnew 1 = .ok (.iload_n 1, 1) := by decide +kernel
theorem dX12_shownAnew_2 : decode cX12_shownAnew 2 = .ok (.iload_n 2, 1) := by decide +kernel
theorem dX12_shownAnew_3 : decode cX12_shownAnew 3 = .ok (.invokevirtual 476, 3) := by decide +kernel
theorem dX12_shownAnew_6 : decode cX12_shownAnew 6 = .ok (.ifCond .ne 5, 3) := by decide +kernel
theorem dX12_shownAnew_9 : decode cX12_shownAnew 9 = .ok (.iconst 0, 1) := by decide +kernel
theorem dX12_shownAnew_10 : decode cX12_shownAnew 10 = .ok (.ireturn, 1) := by decide +kernel
theorem dX12_shownAnew_11 : decode cX12_shownAnew 11 = .ok (.aload_n 0, 1) := by decide +kernel
theorem dX12_shownAnew_12 : decode cX12_shownAnew 12 = .ok (.iconst (-1), 1) := by decide +kernel
theorem dX12_shownAnew_13 : decode cX12_shownAnew 13 = .ok (.putfield 232, 3) := by decide +kernel
theorem dX12_shownAnew_16 : decode cX12_shownAnew 16 = .ok (.aload_n 0, 1) := by decide +kernel
theorem dX12_shownAnew_17 : decode cX12_shownAnew 17 = .ok (.iload_n 1, 1) := by decide +kernel
theorem dX12_shownAnew_18 : decode cX12_shownAnew 18 = .ok (.aload_n 0, 1) := by decide +kernel
theorem dX12_shownAnew_19 : decode cX12_shownAnew 19 = .ok (.iload_n 1, 1) := by decide +kernel
theorem dX12_shownAnew_20 : decode cX12_shownAnew 20 = .ok (.invokevirtual 209, 3) := by decide +kernel
theorem dX12_shownAnew_23 : decode cX12_shownAnew 23 = .ok (.invokevirtual 369, 3) := by decide +kernel
theorem dX12_shownAnew_26 : decode cX12_shownAnew 26 = .ok (.iload_n 2, 1) := by decide +kernel
theorem dX12_shownAnew_27 : decode cX12_shownAnew 27 = .ok (.aload_n 0, 1) := by decide +kernel
theorem dX12_shownAnew_28 : decode cX12_shownAnew 28 = .ok (.getfield 125, 3) := by decide +kernel
theorem dX12_shownAnew_31 : decode cX12_shownAnew 31 = .ok (.iconst 0, 1) := by decide +kernel
theorem dX12_shownAnew_32 : decode cX12_shownAnew 32 = .ok (.iaload, 1) := by decide +kernel
theorem dX12_shownAnew_33 : decode cX12_shownAnew 33 = .ok (.if_icmp .ge 12, 3) := by decide +kernel
theorem dX12_shownAnew_36 : decode cX12_shownAnew 36 = .ok (.aload_n 0, 1) := by decide +kernel
theorem dX12_shownAnew_37 : decode cX12_shownAnew 37 = .ok (.getfield 129, 3) := by decide +kernel
theorem dX12_shownAnew_40 : decode cX12_shownAnew 40 = .ok (.iload_n 2, 1) := by decide +kernel
theorem dX12_shownAnew_41 : decode cX12_shownAnew 41 = .ok (.iaload, 1) := by decide +kernel
theorem dX12_shownAnew_42 : decode cX12_shownAnew 42 = .ok (.goto 4, 3) := by decide +kernel
theorem dX12_shownAnew_45 : decode cX12_shownAnew 45 = .ok (.iconst (-1), 1) := by decide +kernel
theorem dX12_shownAnew_46 : decode cX12_shownAnew 46 = .ok (.ireturn, 1) := by decide +kernel
theorem dX12_approvedAt_0 : decode cX12_approvedAt 0 = .ok (.aload_n 0, 1) := by decide +kernel
theorem dX12_approvedAt_1 : decode cX12_approvedAt 1 = .ok (.iload_n 1, 1) := by decide +kernel
theorem dX12_approvedAt_2 : decode cX12_approvedAt 2 = .ok (.iload_n 2, 1) := by decide +kernel
theorem dX12_approvedAt_3 : decode cX12_approvedAt 3 = .ok (.invokevirtual 476, 3) := by decide +kernel
theorem dX12_approvedAt_6 : decode cX12_approvedAt 6 = .ok (.ifCond .ne 5, 3) := by decide +kernel
theorem dX12_approvedAt_9 : decode cX12_approvedAt 9 = .ok (.iconst 0, 1) := by decide +kernel
theorem dX12_approvedAt_10 : decode cX12_approvedAt 10 = .ok (.ireturn, 1) := by decide +kernel
theorem dX12_approvedAt_11 : decode cX12_approvedAt 11 = .ok (.aload_n 0, 1) := by decide +kernel
theorem dX12_approvedAt_12 : decode cX12_approvedAt 12 = .ok (.iconst (-1), 1) := by decide +kernel
theorem dX12_approvedAt_13 : decode cX12_approvedAt 13 = .ok (.putfield 232, 3) := by decide +kernel
theorem dX12_approvedAt_16 : decode cX12_approvedAt 16 = .ok (.iconst (-1), 1) := by decide +kernel
theorem dX12_approvedAt_17 : decode cX12_approvedAt 17 = .ok (.istore_n 3, 1) := by decide +kernel
theorem dX12_approvedAt_18 : decode cX12_approvedAt 18 = .ok (.iconst 0, 1) := by decide +kernel
theorem dX12_approvedAt_19 : decode cX12_approvedAt 19 = .ok (.istore 4, 2) := by decide +kernel
theorem dX12_approvedAt_21 : decode cX12_approvedAt 21 = .ok (.iload 4, 2) := by decide +kernel
theorem dX12_approvedAt_23 : decode cX12_approvedAt 23 = .ok (.aload_n 0, 1) := by decide +kernel
theorem dX12_approvedAt_24 : decode cX12_approvedAt 24 = .ok (.getfield 229, 3) := by decide +kernel
theorem dX12_approvedAt_27 : decode cX12_approvedAt 27 = .ok (.if_icmp .ge 44, 3) := by decide +kernel
theorem dX12_approvedAt_30 : decode cX12_approvedAt 30 = .ok (.aload_n 0, 1) := by decide +kernel
theorem dX12_approvedAt_31 : decode cX12_approvedAt 31 = .ok (.getfield 34, 3) := by decide +kernel
theorem dX12_approvedAt_34 : decode cX12_approvedAt 34 = .ok (.iload 4, 2) := by decide +kernel
theorem dX12_approvedAt_36 : decode cX12_approvedAt 36 = .ok (.iaload, 1) := by decide +kernel
theorem dX12_approvedAt_37 : decode cX12_approvedAt 37 = .ok (.aload_n 0, 1) := by decide +kernel
theorem dX12_approvedAt_38 : decode cX12_approvedAt 38 = .ok (.getfield 19, 3) := by decide +kernel
theorem dX12_approvedAt_41 : decode cX12_approvedAt 41 = .ok (.iload_n 1, 1) := by decide +kernel
theorem dX12_approvedAt_42 : decode cX12_approvedAt 42 = .ok (.iaload, 1) := by decide +kernel
theorem dX12_approvedAt_43 : decode cX12_approvedAt 43 = .ok (.if_icmp .ne 22, 3) := by decide +kernel
theorem dX12_approvedAt_46 : decode cX12_approvedAt 46 = .ok (.aload_n 0, 1) := by decide +kernel
theorem dX12_approvedAt_47 : decode cX12_approvedAt 47 = .ok (.aload_n 0, 1) := by decide +kernel
theorem dX12_approvedAt_48 : decode cX12_approvedAt 48 = .ok (.getfield 37, 3) := by decide +kernel
theorem dX12_approvedAt_51 : decode cX12_approvedAt 51 = .ok (.iload 4, 2) := by decide +kernel
theorem dX12_approvedAt_53 : decode cX12_approvedAt 53 = .ok (.iaload, 1) := by decide +kernel
theorem dX12_approvedAt_54 : decode cX12_approvedAt 54 = .ok (.putfield 232, 3) := by decide +kernel
theorem dX12_approvedAt_57 : decode cX12_approvedAt 57 = .ok (.aload_n 0, 1) := by decide +kernel
theorem dX12_approvedAt_58 : decode cX12_approvedAt 58 = .ok (.getfield 40, 3) := by decide +kernel
theorem dX12_approvedAt_61 : decode cX12_approvedAt 61 = .ok (.iload 4, 2) := by decide +kernel
theorem dX12_approvedAt_63 : decode cX12_approvedAt 63 = .ok (.iaload, 1) := by decide +kernel
theorem dX12_approvedAt_64 : decode cX12_approvedAt 64 = .ok (.istore_n 3, 1) := by decide +kernel
theorem dX12_approvedAt_65 : decode cX12_approvedAt 65 = .ok (.iinc 4 1, 3) := by decide +kernel
theorem dX12_approvedAt_68 : decode cX12_approvedAt 68 = .ok (.goto (-47), 3) := by decide +kernel
theorem dX12_approvedAt_71 : decode cX12_approvedAt 71 = .ok (.iload_n 3, 1) := by decide +kernel
theorem dX12_approvedAt_72 : decode cX12_approvedAt 72 = .ok (.iconst (-1), 1) := by decide +kernel
theorem dX12_approvedAt_73 : decode cX12_approvedAt 73 = .ok (.if_icmp .ne 5, 3) := by decide +kernel
theorem dX12_approvedAt_76 : decode cX12_approvedAt 76 = .ok (.iconst (-1), 1) := by decide +kernel
theorem dX12_approvedAt_77 : decode cX12_approvedAt 77 = .ok (.ireturn, 1) := by decide +kernel
theorem dX12_approvedAt_78 : decode cX12_approvedAt 78 = .ok (.aload_n 0, 1) := by decide +kernel
theorem dX12_approvedAt_79 : decode cX12_approvedAt 79 = .ok (.iload_n 1, 1) := by decide +kernel
theorem dX12_approvedAt_80 : decode cX12_approvedAt 80 = .ok (.iload_n 3, 1) := by decide +kernel
theorem dX12_approvedAt_81 : decode cX12_approvedAt 81 = .ok (.invokevirtual 369, 3) := by decide +kernel
theorem dX12_approvedAt_84 : decode cX12_approvedAt 84 = .ok (.iload_n 2, 1) := by decide +kernel
theorem dX12_approvedAt_85 : decode cX12_approvedAt 85 = .ok (.aload_n 0, 1) := by decide +kernel
theorem dX12_approvedAt_86 : decode cX12_approvedAt 86 = .ok (.getfield 125, 3) := by decide +kernel
theorem dX12_approvedAt_89 : decode cX12_approvedAt 89 = .ok (.iconst 0, 1) := by decide +kernel
theorem dX12_approvedAt_90 : decode cX12_approvedAt 90 = .ok (.iaload, 1) := by decide +kernel
theorem dX12_approvedAt_91 : decode cX12_approvedAt 91 = .ok (.if_icmp .ge 12, 3) := by decide +kernel
theorem dX12_approvedAt_94 : decode cX12_approvedAt 94 = .ok (.aload_n 0, 1) := by decide +kernel
theorem dX12_approvedAt_95 : decode cX12_approvedAt 95 = .ok (.getfield 129, 3) := by decide +kernel
theorem dX12_approvedAt_98 : decode cX12_approvedAt 98 = .ok (.iload_n 2, 1) := by decide +kernel
theorem dX12_approvedAt_99 : decode cX12_approvedAt 99 = .ok (.iaload, 1) := by decide +kernel
theorem dX12_approvedAt_100 : decode cX12_approvedAt 100 = .ok (.goto 4, 3) := by decide +kernel
theorem dX12_approvedAt_103 : decode cX12_approvedAt 103 = .ok (.iconst (-1), 1) := by decide +kernel
theorem dX12_approvedAt_104 : decode cX12_approvedAt 104 = .ok (.ireturn, 1) := by decide +kernel
theorem dX12_linked_0 : decode cX12_linked 0 = .ok (.aload_n 0, 1) := by decide +kernel
theorem dX12_linked_1 : decode cX12_linked 1 = .ok (.iload_n 1, 1) := by decide +kernel
theorem dX12_linked_2 : decode cX12_linked 2 = .ok (.invokestatic 188, 3) := by decide +kernel
theorem dX12_linked_5 : decode cX12_linked 5 = .ok (.ifCond .eq 16, 3) := by decide +kernel
theorem dX12_linked_8 : decode cX12_linked 8 = .ok (.iload_n 2, 1) := by decide +kernel
theorem dX12_linked_9 : decode cX12_linked 9 = .ok (.iconst 0, 1) := by decide +kernel
theorem dX12_linked_10 : decode cX12_linked 10 = .ok (.iconst 2, 1) := by decide +kernel
theorem dX12_linked_11 : decode cX12_linked 11 = .ok (.invokestatic 184, 3) := by decide +kernel
theorem dX12_linked_14 : decode cX12_linked 14 = .ok (.ifCond .eq 7, 3) := by decide +kernel
theorem dX12_linked_17 : decode cX12_linked 17 = .ok (.iconst 0, 1) := by decide +kernel
theorem dX12_linked_18 : decode cX12_linked 18 = .ok (.goto 4, 3) := by decide +kernel
theorem dX12_linked_21 : decode cX12_linked 21 = .ok (.iconst 1, 1) := by decide +kernel
theorem dX12_linked_22 : decode cX12_linked 22 = .ok (.putfield 180, 3) := by decide +kernel
theorem dX12_linked_25 : decode cX12_linked 25 = .ok (.aload_n 0, 1) := by decide +kernel
theorem dX12_linked_26 : decode cX12_linked 26 = .ok (.getfield 180, 3) := by decide +kernel
theorem dX12_linked_29 : decode cX12_linked 29 = .ok (.ifCond .le 5, 3) := by decide +kernel
theorem dX12_linked_32 : decode cX12_linked 32 = .ok (.iconst 0, 1) := by decide +kernel
theorem dX12_linked_33 : decode cX12_linked 33 = .ok (.ireturn, 1) := by decide +kernel
theorem dX12_linked_34 : decode cX12_linked 34 = .ok (.iconst 0, 1) := by decide +kernel
theorem dX12_linked_35 : decode cX12_linked 35 = .ok (.istore_n 3, 1) := by decide +kernel
theorem dX12_linked_36 : decode cX12_linked 36 = .ok (.iconst 0, 1) := by decide +kernel
theorem dX12_linked_37 : decode cX12_linked 37 = .ok (.istore 4, 2) := by decide +kernel
theorem dX12_linked_39 : decode cX12_linked 39 = .ok (.iload 4, 2) := by decide +kernel
theorem dX12_linked_41 : decode cX12_linked 41 = .ok (.bipush 24, 2) := by decide +kernel
theorem dX12_linked_43 : decode cX12_linked 43 = .ok (.if_icmp .ge 40, 3) := by decide +kernel
theorem dX12_linked_46 : decode cX12_linked 46 = .ok (.iload_n 3, 1) := by decide +kernel
theorem dX12_linked_47 : decode cX12_linked 47 = .ok (.aload_n 0, 1) := by decide +kernel
theorem dX12_linked_48 : decode cX12_linked 48 = .ok (.getfield 70, 3) := by decide +kernel
theorem dX12_linked_51 : decode cX12_linked 51 = .ok (.iload 4, 2) := by decide +kernel
theorem dX12_linked_53 : decode cX12_linked 53 = .ok (.baload, 1) := by decide +kernel
theorem dX12_linked_54 : decode cX12_linked 54 = .ok (.ifCond .eq 20, 3) := by decide +kernel
theorem dX12_linked_57 : decode cX12_linked 57 = .ok (.aload_n 0, 1) := by decide +kernel
theorem dX12_linked_58 : decode cX12_linked 58 = .ok (.getfield 83, 3) := by decide +kernel
theorem dX12_linked_61 : decode cX12_linked 61 = .ok (.iload 4, 2) := by decide +kernel
theorem dX12_linked_63 : decode cX12_linked 63 = .ok (.iaload, 1) := by decide +kernel
theorem dX12_linked_64 : decode cX12_linked 64 = .ok (.iload_n 1, 1) := by decide +kernel
theorem dX12_linked_65 : decode cX12_linked 65 = .ok (.ishr, 1) := by decide +kernel
theorem dX12_linked_66 : decode cX12_linked 66 = .ok (.iconst 1, 1) := by decide +kernel
