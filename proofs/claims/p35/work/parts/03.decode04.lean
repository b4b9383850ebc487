theorem dL_present_47 : decode cL_present 47 = .ok (.iconst 0, 1) := by decide +kernel
theorem dL_present_48 : decode cL_present 48 = .ok (.istore 6, 2) := by decide +kernel
theorem dL_present_50 : decode cL_present 50 = .ok (.iload 6, 2) := by decide +kernel
theorem dL_present_52 : decode cL_present 52 = .ok (.ifCond .eq 32, 3) := by decide +kernel
theorem dL_present_55 : decode cL_present 55 = .ok (.iload 4, 2) := by decide +kernel
theorem dL_present_57 : decode cL_present 57 = .ok (.ifCond .lt 22, 3) := by decide +kernel
theorem dL_present_60 : decode cL_present 60 = .ok (.aload_n 2, 1) := by decide +kernel
theorem dL_present_61 : decode cL_present 61 = .ok (.iconst 2, 1) := by decide +kernel
theorem dL_present_62 : decode cL_present 62 = .ok (.iload 5, 2) := by decide +kernel
theorem dL_present_64 : decode cL_present 64 = .ok (.imul, 1) := by decide +kernel
theorem dL_present_65 : decode cL_present 65 = .ok (.iconst 1, 1) := by decide +kernel
theorem dL_present_66 : decode cL_present 66 = .ok (.iadd, 1) := by decide +kernel
theorem dL_present_67 : decode cL_present 67 = .ok (.iaload, 1) := by decide +kernel
theorem dL_present_68 : decode cL_present 68 = .ok (.aload_n 2, 1) := by decide +kernel
theorem dL_present_69 : decode cL_present 69 = .ok (.iconst 2, 1) := by decide +kernel
theorem dL_present_70 : decode cL_present 70 = .ok (.iload 4, 2) := by decide +kernel
theorem dL_present_72 : decode cL_present 72 = .ok (.imul, 1) := by decide +kernel
theorem dL_present_73 : decode cL_present 73 = .ok (.iconst 1, 1) := by decide +kernel
theorem dL_present_74 : decode cL_present 74 = .ok (.iadd, 1) := by decide +kernel
theorem dL_present_75 : decode cL_present 75 = .ok (.iaload, 1) := by decide +kernel
theorem dL_present_76 : decode cL_present 76 = .ok (.if_icmp .lt 8, 3) := by decide +kernel
theorem dL_present_79 : decode cL_present 79 = .ok (.iload 5, 2) := by decide +kernel
theorem dL_present_81 : decode cL_present 81 = .ok (.goto 5, 3) := by decide +kernel
theorem dL_present_84 : decode cL_present 84 = .ok (.iload 4, 2) := by decide +kernel
theorem dL_present_86 : decode cL_present 86 = .ok (.istore 4, 2) := by decide +kernel
theorem dL_present_88 : decode cL_present 88 = .ok (.iinc 5 1, 3) := by decide +kernel
theorem dL_present_91 : decode cL_present 91 = .ok (.goto (-85), 3) := by decide +kernel
theorem dL_present_94 : decode cL_present 94 = .ok (.iload 4, 2) := by decide +kernel
theorem dL_present_96 : decode cL_present 96 = .ok (.ireturn, 1) := by decide +kernel
theorem dL_way_0 : decode cL_way 0 = .ok (.iload 5, 2) := by decide +kernel
theorem dL_way_2 : decode cL_way 2 = .ok (.istore 6, 2) := by decide +kernel
theorem dL_way_4 : decode cL_way 4 = .ok (.iconst 0, 1) := by decide +kernel
theorem dL_way_5 : decode cL_way 5 = .ok (.istore 7, 2) := by decide +kernel
theorem dL_way_7 : decode cL_way 7 = .ok (.iload 7, 2) := by decide +kernel
theorem dL_way_9 : decode cL_way 9 = .ok (.iconst 5, 1) := by decide +kernel
theorem dL_way_10 : decode cL_way 10 = .ok (.if_icmp .ge 76, 3) := by decide +kernel
theorem dL_way_13 : decode cL_way 13 = .ok (.aload 4, 2) := by decide +kernel
theorem dL_way_15 : decode cL_way 15 = .ok (.iconst 1, 1) := by decide +kernel
theorem dL_way_16 : decode cL_way 16 = .ok (.dup2, 1) := by decide +kernel
theorem dL_way_17 : decode cL_way 17 = .ok (.iaload, 1) := by decide +kernel
theorem dL_way_18 : decode cL_way 18 = .ok (.iconst 1, 1) := by decide +kernel
theorem dL_way_19 : decode cL_way 19 = .ok (.iload 6, 2) := by decide +kernel
theorem dL_way_21 : decode cL_way 21 = .ok (.ishl, 1) := by decide +kernel
theorem dL_way_22 : decode cL_way 22 = .ok (.ior, 1) := by decide +kernel
theorem dL_way_23 : decode cL_way 23 = .ok (.iastore, 1) := by decide +kernel
theorem dL_way_24 : decode cL_way 24 = .ok (.aload_n 0, 1) := by decide +kernel
theorem dL_way_25 : decode cL_way 25 = .ok (.aload_n 1, 1) := by decide +kernel
theorem dL_way_26 : decode cL_way 26 = .ok (.aload_n 2, 1) := by decide +kernel
theorem dL_way_27 : decode cL_way 27 = .ok (.iload 6, 2) := by decide +kernel
theorem dL_way_29 : decode cL_way 29 = .ok (.invokestatic 15, 3) := by decide +kernel
theorem dL_way_32 : decode cL_way 32 = .ok (.istore 8, 2) := by decide +kernel
theorem dL_way_34 : decode cL_way 34 = .ok (.iload 8, 2) := by decide +kernel
theorem dL_way_36 : decode cL_way 36 = .ok (.ifCond .lt 19, 3) := by decide +kernel
theorem dL_way_39 : decode cL_way 39 = .ok (.aload_n 3, 1) := by decide +kernel
theorem dL_way_40 : decode cL_way 40 = .ok (.iload 8, 2) := by decide +kernel
theorem dL_way_42 : decode cL_way 42 = .ok (.laload, 1) := by decide +kernel
theorem dL_way_43 : decode cL_way 43 = .ok (.iconst 0, 1) := by decide +kernel
theorem dL_way_44 : decode cL_way 44 = .ok (.invokestatic 19, 3) := by decide +kernel
theorem dL_way_47 : decode cL_way 47 = .ok (.bipush 16, 2) := by decide +kernel
theorem dL_way_49 : decode cL_way 49 = .ok (.irem, 1) := by decide +kernel
theorem dL_way_50 : decode cL_way 50 = .ok (.bipush 10, 2) := by decide +kernel
theorem dL_way_52 : decode cL_way 52 = .ok (.if_icmp .eq 15, 3) := by decide +kernel
theorem dL_way_55 : decode cL_way 55 = .ok (.iload 8, 2) := by decide +kernel
theorem dL_way_57 : decode cL_way 57 = .ok (.ifCond .ge 7, 3) := by decide +kernel
theorem dL_way_60 : decode cL_way 60 = .ok (.iconst (-1), 1) := by decide +kernel
theorem dL_way_61 : decode cL_way 61 = .ok (.goto 5, 3) := by decide +kernel
theorem dL_way_64 : decode cL_way 64 = .ok (.iload 6, 2) := by decide +kernel
theorem dL_way_66 : decode cL_way 66 = .ok (.ireturn, 1) := by decide +kernel
theorem dL_way_67 : decode cL_way 67 = .ok (.aload_n 3, 1) := by decide +kernel
theorem dL_way_68 : decode cL_way 68 = .ok (.iload 8, 2) := by decide +kernel
theorem dL_way_70 : decode cL_way 70 = .ok (.laload, 1) := by decide +kernel
theorem dL_way_71 : decode cL_way 71 = .ok (.iconst 0, 1) := by decide +kernel
theorem dL_way_72 : decode cL_way 72 = .ok (.invokestatic 19, 3) := by decide +kernel
theorem dL_way_75 : decode cL_way 75 = .ok (.bipush 16, 2) := by decide +kernel
theorem dL_way_77 : decode cL_way 77 = .ok (.idiv, 1) := by decide +kernel
theorem dL_way_78 : decode cL_way 78 = .ok (.istore 6, 2) := by decide +kernel
theorem dL_way_80 : decode cL_way 80 = .ok (.iinc 7 1, 3) := by decide +kernel
theorem dL_way_83 : decode cL_way 83 = .ok (.goto (-76), 3) := by decide +kernel
theorem dL_way_86 : decode cL_way 86 = .ok (.iconst (-1), 1) := by decide +kernel
theorem dL_way_87 : decode cL_way 87 = .ok (.ireturn, 1) := by decide +kernel
theorem dL_members_0 : decode cL_members 0 = .ok (.iconst 0, 1) := by decide +kernel
theorem dL_members_1 : decode cL_members 1 = .ok (.istore_n 2, 1) := by decide +kernel
theorem dL_members_2 : decode cL_members 2 = .ok (.iconst 0, 1) := by decide +kernel
theorem dL_members_3 : decode cL_members 3 = .ok (.istore_n 3, 1) := by decide +kernel
theorem dL_members_4 : decode cL_members 4 = .ok (.iload_n 3, 1) := by decide +kernel
theorem dL_members_5 : decode cL_members 5 = .ok (.bipush 8, 2) := by decide +kernel
theorem dL_members_7 : decode cL_members 7 = .ok (.if_icmp .ge 39, 3) := by decide +kernel
theorem dL_members_10 : decode cL_members 10 = .ok (.iload_n 2, 1) := by decide +kernel
theorem dL_members_11 : decode cL_members 11 = .ok (.aload_n 0, 1) := by decide +kernel
theorem dL_members_12 : decode cL_members 12 = .ok (.bipush 7, 2) := by decide +kernel
theorem dL_members_14 : decode cL_members 14 = .ok (.iload_n 3, 1) := by decide +kernel
theorem dL_members_15 : decode cL_members 15 = .ok (.imul, 1) := by decide +kernel
theorem dL_members_16 : decode cL_members 16 = .ok (.iaload, 1) := by decide +kernel
theorem dL_members_17 : decode cL_members 17 = .ok (.ifCond .le 18, 3) := by decide +kernel
theorem dL_members_20 : decode cL_members 20 = .ok (.aload_n 0, 1) := by decide +kernel
theorem dL_members_21 : decode cL_members 21 = .ok (.bipush 7, 2) := by decide +kernel
theorem dL_members_23 : decode cL_members 23 = .ok (.iload_n 3, 1) := by decide +kernel
theorem dL_members_24 : decode cL_members 24 = .ok (.imul, 1) := by decide +kernel
theorem dL_members_25 : decode cL_members 25 = .ok (.iconst 4, 1) := by decide +kernel
theorem dL_members_26 : decode cL_members 26 = .ok (.iadd, 1) := by decide +kernel
theorem dL_members_27 : decode cL_members 27 = .ok (.iaload, 1) := by decide +kernel
theorem dL_members_28 : decode cL_members 28 = .ok (.iload_n 1, 1) := by decide +kernel
theorem dL_members_29 : decode cL_members 29 = .ok (.ishr, 1) := by decide +kernel
theorem dL_members_30 : decode cL_members 30 = .ok (.iconst 1, 1) := by decide +kernel
theorem dL_members_31 : decode cL_members 31 = .ok (.iand, 1) := by decide +kernel
theorem dL_members_32 : decode cL_members 32 = .ok (.goto 4, 3) := by decide +kernel
theorem dL_members_35 : decode cL_members 35 = .ok (.iconst 0, 1) := by decide +kernel
theorem dL_members_36 : decode cL_members 36 = .ok (.iload_n 3, 1) := by decide +kernel
theorem dL_members_37 : decode cL_members 37 = .ok (.ishl, 1) := by decide +kernel
theorem dL_members_38 : decode cL_members 38 = .ok (.ior, 1) := by decide +kernel
theorem dL_members_39 : decode cL_members 39 = .ok (.istore_n 2, 1) := by decide +kernel
theorem dL_members_40 : decode cL_members 40 = .ok (.iinc 3 1, 3) := by decide +kernel
theorem dL_members_43 : decode cL_members 43 = .ok (.goto (-39), 3) := by decide +kernel
theorem dL_members_46 : decode cL_members 46 = .ok (.iload_n 2, 1) := by decide +kernel
theorem dL_members_47 : decode cL_members 47 = .ok (.ireturn, 1) := by decide +kernel
theorem dL_many_0 : decode cL_many 0 = .ok (.iconst 0, 1) := by decide +kernel
theorem dL_many_1 : decode cL_many 1 = .ok (.istore_n 1, 1) := by decide +kernel
theorem dL_many_2 : decode cL_many 2 = .ok (.iload_n 0, 1) := by decide +kernel
theorem dL_many_3 : decode cL_many 3 = .ok (.istore_n 2, 1) := by decide +kernel
theorem dL_many_4 : decode cL_many 4 = .ok (.iload_n 2, 1) := by decide +kernel
theorem dL_many_5 : decode cL_many 5 = .ok (.ifCond .le 16, 3) := by decide +kernel
theorem dL_many_8 : decode cL_many 8 = .ok (.iload_n 1, 1) := by decide +kernel
theorem dL_many_9 : decode cL_many 9 = .ok (.iload_n 2, 1) := by decide +kernel
theorem dL_many_10 : decode cL_many 10 = .ok (.iconst 1, 1) := by decide +kernel
theorem dL_many_11 : decode cL_many 11 = .ok (.iand, 1) := by decide +kernel
theorem dL_many_12 : decode cL_many 12 = .ok (.iadd, 1) := by decide +kernel
theorem dL_many_13 : decode cL_many 13 = .ok (.istore_n 1, 1) := by decide +kernel
theorem dL_many_14 : decode cL_many 14 = .ok (.iload_n 2, 1) := by decide +kernel
theorem dL_many_15 : decode cL_many 15 = .ok (.iconst 1, 1) := by decide +kernel
theorem dL_many_16 : decode cL_many 16 = .ok (.ishr, 1) := by decide +kernel
theorem dL_many_17 : decode cL_many 17 = .ok (.istore_n 2, 1) := by decide +kernel
theorem dL_many_18 : decode cL_many 18 = .ok (.goto (-14), 3) := by decide +kernel
theorem dL_many_21 : decode cL_many 21 = .ok (.iload_n 1, 1) := by decide +kernel
theorem dL_many_22 : decode cL_many 22 = .ok (.ireturn, 1) := by decide +kernel
theorem dL_comes_0 : decode cL_comes 0 = .ok (.aload_n 0, 1) := by decide +kernel
theorem dL_comes_1 : decode cL_comes 1 = .ok (.iconst 4, 1) := by decide +kernel
theorem dL_comes_2 : decode cL_comes 2 = .ok (.dup2, 1) := by decide +kernel
theorem dL_comes_3 : decode cL_comes 3 = .ok (.iaload, 1) := by decide +kernel
theorem dL_comes_4 : decode cL_comes 4 = .ok (.iconst 1, 1) := by decide +kernel
theorem dL_comes_5 : decode cL_comes 5 = .ok (.iadd, 1) := by decide +kernel
theorem dL_comes_6 : decode cL_comes 6 = .ok (.iastore, 1) := by decide +kernel
theorem dL_comes_7 : decode cL_comes 7 = .ok (.aload_n 0, 1) := by decide +kernel
theorem dL_comes_8 : decode cL_comes 8 = .ok (.bipush 7, 2) := by decide +kernel
theorem dL_comes_10 : decode cL_comes 10 = .ok (.aload_n 0, 1) := by decide +kernel
theorem dL_comes_11 : decode cL_comes 11 = .ok (.iconst 4, 1) := by decide +kernel
theorem dL_comes_12 : decode cL_comes 12 = .ok (.iaload, 1) := by decide +kernel
theorem dL_comes_13 : decode cL_comes 13 = .ok (.aload_n 0, 1) := by decide +kernel
theorem dL_comes_14 : decode cL_comes 14 = .ok (.bipush 6, 2) := by decide +kernel
theorem dL_comes_16 : decode cL_comes 16 = .ok (.iaload, 1) := by decide +kernel
theorem dL_comes_17 : decode cL_comes 17 = .ok (.iconst 1, 1) := by decide +kernel
theorem dL_comes_18 : decode cL_comes 18 = .ok (.iadd, 1) := by decide +kernel
theorem dL_comes_19 : decode cL_comes 19 = .ok (.if_icmp .ne 7, 3) := by decide +kernel
theorem dL_comes_22 : decode cL_comes 22 = .ok (.iload_n 3, 1) := by decide +kernel
theorem dL_comes_23 : decode cL_comes 23 = .ok (.goto 7, 3) := by decide +kernel
theorem dL_comes_26 : decode cL_comes 26 = .ok (.aload_n 0, 1) := by decide +kernel
theorem dL_comes_27 : decode cL_comes 27 = .ok (.bipush 7, 2) := by decide +kernel
theorem dL_comes_29 : decode cL_comes 29 = .ok (.iaload, 1) := by decide +kernel
theorem dL_comes_30 : decode cL_comes 30 = .ok (.iastore, 1) := by decide +kernel
theorem dL_comes_31 : decode cL_comes 31 = .ok (.aload_n 0, 1) := by decide +kernel
theorem dL_comes_32 : decode cL_comes 32 = .ok (.iconst 4, 1) := by decide +kernel
theorem dL_comes_33 : decode cL_comes 33 = .ok (.iaload, 1) := by decide +kernel
theorem dL_comes_34 : decode cL_comes 34 = .ok (.sipush 150, 3) := by decide +kernel
theorem dL_comes_37 : decode cL_comes 37 = .ok (.if_icmp .le 7, 3) := by decide +kernel
theorem dL_comes_40 : decode cL_comes 40 = .ok (.lload_n 1, 1) := by decide +kernel
theorem dL_comes_41 : decode cL_comes 41 = .ok (.goto 15, 3) := by decide +kernel
theorem dL_comes_44 : decode cL_comes 44 = .ok (.lload_n 1, 1) := by decide +kernel
theorem dL_comes_45 : decode cL_comes 45 = .ok (.ldc2_w 23, 3) := by decide +kernel
theorem dL_comes_48 : decode cL_comes 48 = .ok (.lmul, 1) := by decide +kernel
theorem dL_comes_49 : decode cL_comes 49 = .ok (.iload_n 3, 1) := by decide +kernel
theorem dL_comes_50 : decode cL_comes 50 = .ok (.i2l, 1) := by decide +kernel
theorem dL_comes_51 : decode cL_comes 51 = .ok (.ladd, 1) := by decide +kernel
theorem dL_comes_52 : decode cL_comes 52 = .ok (.ldc2_w 25, 3) := by decide +kernel
theorem dL_comes_55 : decode cL_comes 55 = .ok (.ladd, 1) := by decide +kernel
theorem dL_comes_56 : decode cL_comes 56 = .ok (.lreturn, 1) := by decide +kernel
theorem dL_gives_0 : decode cL_gives 0 = .ok (.lload 5, 2) := by decide +kernel
theorem dL_gives_2 : decode cL_gives 2 = .ok (.lstore 10, 2) := by decide +kernel
theorem dL_gives_4 : decode cL_gives 4 = .ok (.iload 7, 2) := by decide +kernel
theorem dL_gives_6 : decode cL_gives 6 = .ok (.ifCond .eq 27, 3) := by decide +kernel
theorem dL_gives_9 : decode cL_gives 9 = .ok (.iload 7, 2) := by decide +kernel
theorem dL_gives_11 : decode cL_gives 11 = .ok (.bipush 8, 2) := by decide +kernel
theorem dL_gives_13 : decode cL_gives 13 = .ok (.if_icmp .ne 8, 3) := by decide +kernel
theorem dL_gives_16 : decode cL_gives 16 = .ok (.iload 9, 2) := by decide +kernel
theorem dL_gives_18 : decode cL_gives 18 = .ok (.ifCond .gt 15, 3) := by decide +kernel
theorem dL_gives_21 : decode cL_gives 21 = .ok (.iload 7, 2) := by decide +kernel
theorem dL_gives_23 : decode cL_gives 23 = .ok (.bipush 9, 2) := by decide +kernel
theorem dL_gives_25 : decode cL_gives 25 = .ok (.if_icmp .ne 22, 3) := by decide +kernel
theorem dL_gives_28 : decode cL_gives 28 = .ok (.iload 9, 2) := by decide +kernel
theorem dL_gives_30 : decode cL_gives 30 = .ok (.ifCond .ne 17, 3) := by decide +kernel
theorem dL_gives_33 : decode cL_gives 33 = .ok (.aload 4, 2) := by decide +kernel
theorem dL_gives_35 : decode cL_gives 35 = .ok (.lload 10, 2) := by decide +kernel
theorem dL_gives_37 : decode cL_gives 37 = .ok (.iload 8, 2) := by decide +kernel
theorem dL_gives_39 : decode cL_gives 39 = .ok (.invokestatic 27, 3) := by decide +kernel
theorem dL_gives_42 : decode cL_gives 42 = .ok (.lstore 10, 2) := by decide +kernel
theorem dL_gives_44 : decode cL_gives 44 = .ok (.goto 215, 3) := by decide +kernel
theorem dL_gives_47 : decode cL_gives 47 = .ok (.iload 7, 2) := by decide +kernel
theorem dL_gives_49 : decode cL_gives 49 = .ok (.iconst 1, 1) := by decide +kernel
theorem dL_gives_50 : decode cL_gives 50 = .ok (.if_icmp .eq 10, 3) := by decide +kernel
theorem dL_gives_53 : decode cL_gives 53 = .ok (.iload 7, 2) := by decide +kernel
theorem dL_gives_55 : decode cL_gives 55 = .ok (.bipush 10, 2) := by decide +kernel
theorem dL_gives_57 : decode cL_gives 57 = .ok (.if_icmp .ne 32, 3) := by decide +kernel
theorem dL_gives_60 : decode cL_gives 60 = .ok (.aload 4, 2) := by decide +kernel
theorem dL_gives_62 : decode cL_gives 62 = .ok (.iconst 0, 1) := by decide +kernel
theorem dL_gives_63 : decode cL_gives 63 = .ok (.dup2, 1) := by decide +kernel
theorem dL_gives_64 : decode cL_gives 64 = .ok (.iaload, 1) := by decide +kernel
theorem dL_gives_65 : decode cL_gives 65 = .ok (.iconst 1, 1) := by decide +kernel
theorem dL_gives_66 : decode cL_gives 66 = .ok (.iload 8, 2) := by decide +kernel
theorem dL_gives_68 : decode cL_gives 68 = .ok (.ishl, 1) := by decide +kernel
theorem dL_gives_69 : decode cL_gives 69 = .ok (.ior, 1) := by decide +kernel
theorem dL_gives_70 : decode cL_gives 70 = .ok (.iastore, 1) := by decide +kernel
theorem dL_gives_71 : decode cL_gives 71 = .ok (.aload 4, 2) := by decide +kernel
theorem dL_gives_73 : decode cL_gives 73 = .ok (.lload 10, 2) := by decide +kernel
theorem dL_gives_75 : decode cL_gives 75 = .ok (.sipush 1000, 3) := by decide +kernel
theorem dL_gives_78 : decode cL_gives 78 = .ok (.iload 8, 2) := by decide +kernel
theorem dL_gives_80 : decode cL_gives 80 = .ok (.iadd, 1) := by decide +kernel
theorem dL_gives_81 : decode cL_gives 81 = .ok (.invokestatic 27, 3) := by decide +kernel
theorem dL_gives_84 : decode cL_gives 84 = .ok (.lstore 10, 2) := by decide +kernel
theorem dL_gives_86 : decode cL_gives 86 = .ok (.goto 173, 3) := by decide +kernel
theorem dL_gives_89 : decode cL_gives 89 = .ok (.iload 7, 2) := by decide +kernel
theorem dL_gives_91 : decode cL_gives 91 = .ok (.iconst 3, 1) := by decide +kernel
theorem dL_gives_92 : decode cL_gives 92 = .ok (.if_icmp .ne 17, 3) := by decide +kernel
theorem dL_gives_95 : decode cL_gives 95 = .ok (.aload 4, 2) := by decide +kernel
theorem dL_gives_97 : decode cL_gives 97 = .ok (.iconst 2, 1) := by decide +kernel
theorem dL_gives_98 : decode cL_gives 98 = .ok (.dup2, 1) := by decide +kernel
theorem dL_gives_99 : decode cL_gives 99 = .ok (.iaload, 1) := by decide +kernel
theorem dL_gives_100 : decode cL_gives 100 = .ok (.iconst 1, 1) := by decide +kernel
theorem dL_gives_101 : decode cL_gives 101 = .ok (.iload 8, 2) := by decide +kernel
theorem dL_gives_103 : decode cL_gives 103 = .ok (.ishl, 1) := by decide +kernel
theorem dL_gives_104 : decode cL_gives 104 = .ok (.ior, 1) := by decide +kernel
theorem dL_gives_105 : decode cL_gives 105 = .ok (.iastore, 1) := by decide +kernel
theorem dL_gives_106 : decode cL_gives 106 = .ok (.goto 153, 3) := by decide +kernel
theorem dL_gives_109 : decode cL_gives 109 = .ok (.iload 7, 2) := by decide +kernel
theorem dL_gives_111 : decode cL_gives 111 = .ok (.iconst 5, 1) := by decide +kernel
theorem dL_gives_112 : decode cL_gives 112 = .ok (.if_icmp .eq 10, 3) := by decide +kernel
theorem dL_gives_115 : decode cL_gives 115 = .ok (.iload 7, 2) := by decide +kernel
theorem dL_gives_117 : decode cL_gives 117 = .ok (.bipush 6, 2) := by decide +kernel
theorem dL_gives_119 : decode cL_gives 119 = .ok (.if_icmp .ne 97, 3) := by decide +kernel
theorem dL_gives_122 : decode cL_gives 122 = .ok (.aload 4, 2) := by decide +kernel
theorem dL_gives_124 : decode cL_gives 124 = .ok (.iconst 3, 1) := by decide +kernel
theorem dL_gives_125 : decode cL_gives 125 = .ok (.dup2, 1) := by decide +kernel
theorem dL_gives_126 : decode cL_gives 126 = .ok (.iaload, 1) := by decide +kernel
theorem dL_gives_127 : decode cL_gives 127 = .ok (.iconst 1, 1) := by decide +kernel
theorem dL_gives_128 : decode cL_gives 128 = .ok (.iload 8, 2) := by decide +kernel
theorem dL_gives_130 : decode cL_gives 130 = .ok (.ishl, 1) := by decide +kernel
theorem dL_gives_131 : decode cL_gives 131 = .ok (.ior, 1) := by decide +kernel
theorem dL_gives_132 : decode cL_gives 132 = .ok (.iastore, 1) := by decide +kernel
theorem dL_gives_133 : decode cL_gives 133 = .ok (.aload_n 3, 1) := by decide +kernel
theorem dL_gives_134 : decode cL_gives 134 = .ok (.iload 8, 2) := by decide +kernel
theorem dL_gives_136 : decode cL_gives 136 = .ok (.invokestatic 31, 3) := by decide +kernel
theorem dL_gives_139 : decode cL_gives 139 = .ok (.istore 12, 2) := by decide +kernel
theorem dL_gives_141 : decode cL_gives 141 = .ok (.iload 7, 2) := by decide +kernel
theorem dL_gives_143 : decode cL_gives 143 = .ok (.iconst 5, 1) := by decide +kernel
theorem dL_gives_144 : decode cL_gives 144 = .ok (.if_icmp .ne 16, 3) := by decide +kernel
theorem dL_gives_147 : decode cL_gives 147 = .ok (.aload 4, 2) := by decide +kernel
theorem dL_gives_149 : decode cL_gives 149 = .ok (.lload 10, 2) := by decide +kernel
theorem dL_gives_151 : decode cL_gives 151 = .ok (.iload 12, 2) := by decide +kernel
theorem dL_gives_153 : decode cL_gives 153 = .ok (.invokestatic 35, 3) := by decide +kernel
theorem dL_gives_156 : decode cL_gives 156 = .ok (.invokestatic 27, 3) := by decide +kernel
theorem dL_gives_159 : decode cL_gives 159 = .ok (.lreturn, 1) := by decide +kernel
theorem dL_gives_160 : decode cL_gives 160 = .ok (.iconst 0, 1) := by decide +kernel
theorem dL_gives_161 : decode cL_gives 161 = .ok (.istore 13, 2) := by decide +kernel
theorem dL_gives_163 : decode cL_gives 163 = .ok (.iload 13, 2) := by decide +kernel
theorem dL_gives_165 : decode cL_gives 165 = .ok (.bipush 8, 2) := by decide +kernel
theorem dL_gives_167 : decode cL_gives 167 = .ok (.if_icmp .ge 46, 3) := by decide +kernel
theorem dL_gives_170 : decode cL_gives 170 = .ok (.iload 12, 2) := by decide +kernel
theorem dL_gives_172 : decode cL_gives 172 = .ok (.iload 13, 2) := by decide +kernel
theorem dL_gives_174 : decode cL_gives 174 = .ok (.ishr, 1) := by decide +kernel
theorem dL_gives_175 : decode cL_gives 175 = .ok (.iconst 1, 1) := by decide +kernel
theorem dL_gives_176 : decode cL_gives 176 = .ok (.iand, 1) := by decide +kernel
theorem dL_gives_177 : decode cL_gives 177 = .ok (.iconst 1, 1) := by decide +kernel
theorem dL_gives_178 : decode cL_gives 178 = .ok (.if_icmp .ne 29, 3) := by decide +kernel
theorem dL_gives_181 : decode cL_gives 181 = .ok (.aload 4, 2) := by decide +kernel
theorem dL_gives_183 : decode cL_gives 183 = .ok (.iconst 0, 1) := by decide +kernel
theorem dL_gives_184 : decode cL_gives 184 = .ok (.dup2, 1) := by decide +kernel
theorem dL_gives_185 : decode cL_gives 185 = .ok (.iaload, 1) := by decide +kernel
theorem dL_gives_186 : decode cL_gives 186 = .ok (.iconst 1, 1) := by decide +kernel
theorem dL_gives_187 : decode cL_gives 187 = .ok (.iload 13, 2) := by decide +kernel
theorem dL_gives_189 : decode cL_gives 189 = .ok (.ishl, 1) := by decide +kernel
theorem dL_gives_190 : decode cL_gives 190 = .ok (.ior, 1) := by decide +kernel
theorem dL_gives_191 : decode cL_gives 191 = .ok (.iastore, 1) := by decide +kernel
theorem dL_gives_192 : decode cL_gives 192 = .ok (.aload 4, 2) := by decide +kernel
theorem dL_gives_194 : decode cL_gives 194 = .ok (.lload 10, 2) := by decide +kernel
theorem dL_gives_196 : decode cL_gives 196 = .ok (.sipush 1000, 3) := by decide +kernel
theorem dL_gives_199 : decode cL_gives 199 = .ok (.iload 13, 2) := by decide +kernel
theorem dL_gives_201 : decode cL_gives 201 = .ok (.iadd, 1) := by decide +kernel
theorem dL_gives_202 : decode cL_gives 202 = .ok (.invokestatic 27, 3) := by decide +kernel
theorem dL_gives_205 : decode cL_gives 205 = .ok (.lstore 10, 2) := by decide +kernel
theorem dL_gives_207 : decode cL_gives 207 = .ok (.iinc 13 1, 3) := by decide +kernel
theorem dL_gives_210 : decode cL_gives 210 = .ok (.goto (-47), 3) := by decide +kernel
theorem dL_gives_213 : decode cL_gives 213 = .ok (.goto 46, 3) := by decide +kernel
theorem dL_gives_216 : decode cL_gives 216 = .ok (.iload 7, 2) := by decide +kernel
theorem dL_gives_218 : decode cL_gives 218 = .ok (.bipush 7, 2) := by decide +kernel
theorem dL_gives_220 : decode cL_gives 220 = .ok (.if_icmp .ne 39, 3) := by decide +kernel
theorem dL_gives_223 : decode cL_gives 223 = .ok (.aload 4, 2) := by decide +kernel
theorem dL_gives_225 : decode cL_gives 225 = .ok (.iconst 1, 1) := by decide +kernel
theorem dL_gives_226 : decode cL_gives 226 = .ok (.dup2, 1) := by decide +kernel
theorem dL_gives_227 : decode cL_gives 227 = .ok (.iaload, 1) := by decide +kernel
theorem dL_gives_228 : decode cL_gives 228 = .ok (.iconst 1, 1) := by decide +kernel
theorem dL_gives_229 : decode cL_gives 229 = .ok (.iload 8, 2) := by decide +kernel
theorem dL_gives_231 : decode cL_gives 231 = .ok (.ishl, 1) := by decide +kernel
theorem dL_gives_232 : decode cL_gives 232 = .ok (.ior, 1) := by decide +kernel
theorem dL_gives_233 : decode cL_gives 233 = .ok (.iastore, 1) := by decide +kernel
theorem dL_gives_234 : decode cL_gives 234 = .ok (.aload 4, 2) := by decide +kernel
theorem dL_gives_236 : decode cL_gives 236 = .ok (.lload 10, 2) := by decide +kernel
theorem dL_gives_238 : decode cL_gives 238 = .ok (.aload_n 0, 1) := by decide +kernel
theorem dL_gives_239 : decode cL_gives 239 = .ok (.aload_n 1, 1) := by decide +kernel
theorem dL_gives_240 : decode cL_gives 240 = .ok (.aload_n 2, 1) := by decide +kernel
theorem dL_gives_241 : decode cL_gives 241 = .ok (.iload 8, 2) := by decide +kernel
theorem dL_gives_243 : decode cL_gives 243 = .ok (.invokestatic 15, 3) := by decide +kernel
theorem dL_gives_246 : decode cL_gives 246 = .ok (.ifCond .ge 7, 3) := by decide +kernel
theorem dL_gives_249 : decode cL_gives 249 = .ok (.iconst 0, 1) := by decide +kernel
theorem dL_gives_250 : decode cL_gives 250 = .ok (.goto 4, 3) := by decide +kernel
theorem dL_gives_253 : decode cL_gives 253 = .ok (.iconst 1, 1) := by decide +kernel
theorem dL_gives_254 : decode cL_gives 254 = .ok (.invokestatic 27, 3) := by decide +kernel
theorem dL_gives_257 : decode cL_gives 257 = .ok (.lstore 10, 2) := by decide +kernel
theorem dL_gives_259 : decode cL_gives 259 = .ok (.lload 10, 2) := by decide +kernel
theorem dL_gives_261 : decode cL_gives 261 = .ok (.lreturn, 1) := by decide +kernel
theorem dL_renders_0 : decode cL_renders 0 = .ok (.bipush 8, 2) := by decide +kernel
theorem dL_renders_2 : decode cL_renders 2 = .ok (.newarray .int, 2) := by decide +kernel
theorem dL_renders_4 : decode cL_renders 4 = .ok (.astore 7, 2) := by decide +kernel
theorem dL_renders_6 : decode cL_renders 6 = .ok (.bipush 8, 2) := by decide +kernel
theorem dL_renders_8 : decode cL_renders 8 = .ok (.newarray .int, 2) := by decide +kernel
theorem dL_renders_10 : decode cL_renders 10 = .ok (.astore 8, 2) := by decide +kernel
theorem dL_renders_12 : decode cL_renders 12 = .ok (.bipush 8, 2) := by decide +kernel
theorem dL_renders_14 : decode cL_renders 14 = .ok (.newarray .int, 2) := by decide +kernel
theorem dL_renders_16 : decode cL_renders 16 = .ok (.astore 9, 2) := by decide +kernel
theorem dL_renders_18 : decode cL_renders 18 = .ok (.iconst 0, 1) := by decide +kernel
theorem dL_renders_19 : decode cL_renders 19 = .ok (.istore 10, 2) := by decide +kernel
theorem dL_renders_21 : decode cL_renders 21 = .ok (.iload 10, 2) := by decide +kernel
theorem dL_renders_23 : decode cL_renders 23 = .ok (.bipush 6, 2) := by decide +kernel
theorem dL_renders_25 : decode cL_renders 25 = .ok (.if_icmp .ge 15, 3) := by decide +kernel
theorem dL_renders_28 : decode cL_renders 28 = .ok (.aload 5, 2) := by decide +kernel
theorem dL_renders_30 : decode cL_renders 30 = .ok (.iload 10, 2) := by decide +kernel
theorem dL_renders_32 : decode cL_renders 32 = .ok (.iconst 0, 1) := by decide +kernel
theorem dL_renders_33 : decode cL_renders 33 = .ok (.iastore, 1) := by decide +kernel
theorem dL_renders_34 : decode cL_renders 34 = .ok (.iinc 10 1, 3) := by decide +kernel
theorem dL_renders_37 : decode cL_renders 37 = .ok (.goto (-16), 3) := by decide +kernel
theorem dL_renders_40 : decode cL_renders 40 = .ok (.aload 5, 2) := by decide +kernel
theorem dL_renders_42 : decode cL_renders 42 = .ok (.bipush 7, 2) := by decide +kernel
theorem dL_renders_44 : decode cL_renders 44 = .ok (.iconst (-1), 1) := by decide +kernel
theorem dL_renders_45 : decode cL_renders 45 = .ok (.iastore, 1) := by decide +kernel
theorem dL_renders_46 : decode cL_renders 46 = .ok (.lconst 1, 1) := by decide +kernel
theorem dL_renders_47 : decode cL_renders 47 = .ok (.lstore 10, 2) := by decide +kernel
theorem dL_renders_49 : decode cL_renders 49 = .ok (.iconst 0, 1) := by decide +kernel
theorem dL_renders_50 : decode cL_renders 50 = .ok (.istore 12, 2) := by decide +kernel
theorem dL_renders_52 : decode cL_renders 52 = .ok (.aload 7, 2) := by decide +kernel
theorem dL_renders_54 : decode cL_renders 54 = .ok (.iconst 0, 1) := by decide +kernel
theorem dL_renders_55 : decode cL_renders 55 = .ok (.aload_n 0, 1) := by decide +kernel
theorem dL_renders_56 : decode cL_renders 56 = .ok (.aload_n 1, 1) := by decide +kernel
theorem dL_renders_57 : decode cL_renders 57 = .ok (.aload_n 2, 1) := by decide +kernel
theorem dL_renders_58 : decode cL_renders 58 = .ok (.iload 6, 2) := by decide +kernel
theorem dL_renders_60 : decode cL_renders 60 = .ok (.invokestatic 15, 3) := by decide +kernel
theorem dL_renders_63 : decode cL_renders 63 = .ok (.iastore, 1) := by decide +kernel
theorem dL_renders_64 : decode cL_renders 64 = .ok (.aload 9, 2) := by decide +kernel
theorem dL_renders_66 : decode cL_renders 66 = .ok (.iconst 0, 1) := by decide +kernel
theorem dL_renders_67 : decode cL_renders 67 = .ok (.iload 6, 2) := by decide +kernel
theorem dL_renders_69 : decode cL_renders 69 = .ok (.iastore, 1) := by decide +kernel
theorem dL_renders_70 : decode cL_renders 70 = .ok (.iload 12, 2) := by decide +kernel
theorem dL_renders_72 : decode cL_renders 72 = .ok (.ifCond .lt 290, 3) := by decide +kernel
theorem dL_renders_75 : decode cL_renders 75 = .ok (.aload 8, 2) := by decide +kernel
theorem dL_renders_77 : decode cL_renders 77 = .ok (.iload 12, 2) := by decide +kernel
theorem dL_renders_79 : decode cL_renders 79 = .ok (.iaload, 1) := by decide +kernel
theorem dL_renders_80 : decode cL_renders 80 = .ok (.aload_n 3, 1) := by decide +kernel
theorem dL_renders_81 : decode cL_renders 81 = .ok (.aload 7, 2) := by decide +kernel
theorem dL_renders_83 : decode cL_renders 83 = .ok (.iload 12, 2) := by decide +kernel
theorem dL_renders_85 : decode cL_renders 85 = .ok (.iaload, 1) := by decide +kernel
theorem dL_renders_86 : decode cL_renders 86 = .ok (.laload, 1) := by decide +kernel
theorem dL_renders_87 : decode cL_renders 87 = .ok (.invokestatic 7, 3) := by decide +kernel
theorem dL_renders_90 : decode cL_renders 90 = .ok (.if_icmp .ne 9, 3) := by decide +kernel
theorem dL_renders_93 : decode cL_renders 93 = .ok (.iinc 12 (-1), 3) := by decide +kernel
theorem dL_renders_96 : decode cL_renders 96 = .ok (.goto (-26), 3) := by decide +kernel
theorem dL_renders_99 : decode cL_renders 99 = .ok (.aload_n 3, 1) := by decide +kernel
theorem dL_renders_100 : decode cL_renders 100 = .ok (.aload 7, 2) := by decide +kernel
theorem dL_renders_102 : decode cL_renders 102 = .ok (.iload 12, 2) := by decide +kernel
theorem dL_renders_104 : decode cL_renders 104 = .ok (.iaload, 1) := by decide +kernel
theorem dL_renders_105 : decode cL_renders 105 = .ok (.laload, 1) := by decide +kernel
theorem dL_renders_106 : decode cL_renders 106 = .ok (.aload 8, 2) := by decide +kernel
theorem dL_renders_108 : decode cL_renders 108 = .ok (.iload 12, 2) := by decide +kernel
theorem dL_renders_110 : decode cL_renders 110 = .ok (.iaload, 1) := by decide +kernel
theorem dL_renders_111 : decode cL_renders 111 = .ok (.invokestatic 19, 3) := by decide +kernel
theorem dL_renders_114 : decode cL_renders 114 = .ok (.istore 13, 2) := by decide +kernel
theorem dL_renders_116 : decode cL_renders 116 = .ok (.aload 8, 2) := by decide +kernel
theorem dL_renders_118 : decode cL_renders 118 = .ok (.iload 12, 2) := by decide +kernel
theorem dL_renders_120 : decode cL_renders 120 = .ok (.dup2, 1) := by decide +kernel
theorem dL_renders_121 : decode cL_renders 121 = .ok (.iaload, 1) := by decide +kernel
theorem dL_renders_122 : decode cL_renders 122 = .ok (.iconst 1, 1) := by decide +kernel
theorem dL_renders_123 : decode cL_renders 123 = .ok (.iadd, 1) := by decide +kernel
theorem dL_renders_124 : decode cL_renders 124 = .ok (.iastore, 1) := by decide +kernel
theorem dL_renders_125 : decode cL_renders 125 = .ok (.iload 13, 2) := by decide +kernel
theorem dL_renders_127 : decode cL_renders 127 = .ok (.bipush 16, 2) := by decide +kernel
theorem dL_renders_129 : decode cL_renders 129 = .ok (.irem, 1) := by decide +kernel
theorem dL_renders_130 : decode cL_renders 130 = .ok (.iconst 2, 1) := by decide +kernel
theorem dL_renders_131 : decode cL_renders 131 = .ok (.if_icmp .eq 32, 3) := by decide +kernel
theorem dL_renders_134 : decode cL_renders 134 = .ok (.aload_n 0, 1) := by decide +kernel
theorem dL_renders_135 : decode cL_renders 135 = .ok (.aload_n 1, 1) := by decide +kernel
theorem dL_renders_136 : decode cL_renders 136 = .ok (.aload_n 2, 1) := by decide +kernel
theorem dL_renders_137 : decode cL_renders 137 = .ok (.aload 4, 2) := by decide +kernel
theorem dL_renders_139 : decode cL_renders 139 = .ok (.aload 5, 2) := by decide +kernel
theorem dL_renders_141 : decode cL_renders 141 = .ok (.lload 10, 2) := by decide +kernel
theorem dL_renders_143 : decode cL_renders 143 = .ok (.iload 13, 2) := by decide +kernel
theorem dL_renders_145 : decode cL_renders 145 = .ok (.bipush 16, 2) := by decide +kernel
theorem dL_renders_147 : decode cL_renders 147 = .ok (.irem, 1) := by decide +kernel
theorem dL_renders_148 : decode cL_renders 148 = .ok (.iload 13, 2) := by decide +kernel
theorem dL_renders_150 : decode cL_renders 150 = .ok (.bipush 16, 2) := by decide +kernel
theorem dL_renders_152 : decode cL_renders 152 = .ok (.idiv, 1) := by decide +kernel
theorem dL_renders_153 : decode cL_renders 153 = .ok (.iload 12, 2) := by decide +kernel
theorem dL_renders_155 : decode cL_renders 155 = .ok (.invokestatic 39, 3) := by decide +kernel
theorem dL_renders_158 : decode cL_renders 158 = .ok (.lstore 10, 2) := by decide +kernel
theorem dL_renders_160 : decode cL_renders 160 = .ok (.goto 199, 3) := by decide +kernel
theorem dL_renders_163 : decode cL_renders 163 = .ok (.aload 5, 2) := by decide +kernel
theorem dL_renders_165 : decode cL_renders 165 = .ok (.iconst 5, 1) := by decide +kernel
theorem dL_renders_166 : decode cL_renders 166 = .ok (.iaload, 1) := by decide +kernel
theorem dL_renders_167 : decode cL_renders 167 = .ok (.bipush 40, 2) := by decide +kernel
theorem dL_renders_169 : decode cL_renders 169 = .ok (.if_icmp .ne 18, 3) := by decide +kernel
theorem dL_renders_172 : decode cL_renders 172 = .ok (.aload 5, 2) := by decide +kernel
theorem dL_renders_174 : decode cL_renders 174 = .ok (.lload 10, 2) := by decide +kernel
theorem dL_renders_176 : decode cL_renders 176 = .ok (.sipush 9003, 3) := by decide +kernel
theorem dL_renders_179 : decode cL_renders 179 = .ok (.invokestatic 27, 3) := by decide +kernel
theorem dL_renders_182 : decode cL_renders 182 = .ok (.lstore 10, 2) := by decide +kernel
theorem dL_renders_184 : decode cL_renders 184 = .ok (.goto 175, 3) := by decide +kernel
theorem dL_renders_187 : decode cL_renders 187 = .ok (.aload 5, 2) := by decide +kernel
theorem dL_renders_189 : decode cL_renders 189 = .ok (.iconst 5, 1) := by decide +kernel
theorem dL_renders_190 : decode cL_renders 190 = .ok (.dup2, 1) := by decide +kernel
theorem dL_renders_191 : decode cL_renders 191 = .ok (.iaload, 1) := by decide +kernel
theorem dL_renders_192 : decode cL_renders 192 = .ok (.iconst 1, 1) := by decide +kernel
theorem dL_renders_193 : decode cL_renders 193 = .ok (.iadd, 1) := by decide +kernel
theorem dL_renders_194 : decode cL_renders 194 = .ok (.iastore, 1) := by decide +kernel
theorem dL_renders_195 : decode cL_renders 195 = .ok (.aload_n 0, 1) := by decide +kernel
theorem dL_renders_196 : decode cL_renders 196 = .ok (.aload_n 1, 1) := by decide +kernel
theorem dL_renders_197 : decode cL_renders 197 = .ok (.aload_n 2, 1) := by decide +kernel
theorem dL_renders_198 : decode cL_renders 198 = .ok (.aload_n 3, 1) := by decide +kernel
theorem dL_renders_199 : decode cL_renders 199 = .ok (.aload 5, 2) := by decide +kernel
theorem dL_renders_201 : decode cL_renders 201 = .ok (.iload 13, 2) := by decide +kernel
theorem dL_renders_203 : decode cL_renders 203 = .ok (.bipush 16, 2) := by decide +kernel
theorem dL_renders_205 : decode cL_renders 205 = .ok (.idiv, 1) := by decide +kernel
theorem dL_renders_206 : decode cL_renders 206 = .ok (.invokestatic 43, 3) := by decide +kernel
theorem dL_renders_209 : decode cL_renders 209 = .ok (.istore 14, 2) := by decide +kernel
theorem dL_renders_211 : decode cL_renders 211 = .ok (.iconst 0, 1) := by decide +kernel
theorem dL_renders_212 : decode cL_renders 212 = .ok (.istore 15, 2) := by decide +kernel
theorem dL_renders_214 : decode cL_renders 214 = .ok (.iconst 0, 1) := by decide +kernel
theorem dL_renders_215 : decode cL_renders 215 = .ok (.istore 16, 2) := by decide +kernel
theorem dL_renders_217 : decode cL_renders 217 = .ok (.iload 16, 2) := by decide +kernel
theorem dL_renders_219 : decode cL_renders 219 = .ok (.iload 12, 2) := by decide +kernel
theorem dL_renders_221 : decode cL_renders 221 = .ok (.if_icmp .gt 31, 3) := by decide +kernel
theorem dL_renders_224 : decode cL_renders 224 = .ok (.iload 15, 2) := by decide +kernel
theorem dL_renders_226 : decode cL_renders 226 = .ok (.ifCond .ne 13, 3) := by decide +kernel
theorem dL_renders_229 : decode cL_renders 229 = .ok (.aload 9, 2) := by decide +kernel
theorem dL_renders_231 : decode cL_renders 231 = .ok (.iload 16, 2) := by decide +kernel
theorem dL_renders_233 : decode cL_renders 233 = .ok (.iaload, 1) := by decide +kernel
theorem dL_renders_234 : decode cL_renders 234 = .ok (.iload 14, 2) := by decide +kernel
theorem dL_renders_236 : decode cL_renders 236 = .ok (.if_icmp .ne 7, 3) := by decide +kernel
theorem dL_renders_239 : decode cL_renders 239 = .ok (.iconst 1, 1) := by decide +kernel
theorem dL_renders_240 : decode cL_renders 240 = .ok (.goto 4, 3) := by decide +kernel
theorem dL_renders_243 : decode cL_renders 243 = .ok (.iconst 0, 1) := by decide +kernel
theorem dL_renders_244 : decode cL_renders 244 = .ok (.istore 15, 2) := by decide +kernel
theorem dL_renders_246 : decode cL_renders 246 = .ok (.iinc 16 1, 3) := by decide +kernel
theorem dL_renders_249 : decode cL_renders 249 = .ok (.goto (-32), 3) := by decide +kernel
theorem dL_renders_252 : decode cL_renders 252 = .ok (.iload 14, 2) := by decide +kernel
theorem dL_renders_254 : decode cL_renders 254 = .ok (.ifCond .ge 38, 3) := by decide +kernel
theorem dL_renders_257 : decode cL_renders 257 = .ok (.aload 5, 2) := by decide +kernel
theorem dL_renders_259 : decode cL_renders 259 = .ok (.iconst 0, 1) := by decide +kernel
theorem dL_renders_260 : decode cL_renders 260 = .ok (.dup2, 1) := by decide +kernel
theorem dL_renders_261 : decode cL_renders 261 = .ok (.iaload, 1) := by decide +kernel
theorem dL_renders_262 : decode cL_renders 262 = .ok (.iconst 1, 1) := by decide +kernel
theorem dL_renders_263 : decode cL_renders 263 = .ok (.iload 13, 2) := by decide +kernel
theorem dL_renders_265 : decode cL_renders 265 = .ok (.bipush 16, 2) := by decide +kernel
theorem dL_renders_267 : decode cL_renders 267 = .ok (.idiv, 1) := by decide +kernel
theorem dL_renders_268 : decode cL_renders 268 = .ok (.ishl, 1) := by decide +kernel
theorem dL_renders_269 : decode cL_renders 269 = .ok (.ior, 1) := by decide +kernel
theorem dL_renders_270 : decode cL_renders 270 = .ok (.iastore, 1) := by decide +kernel
theorem dL_renders_271 : decode cL_renders 271 = .ok (.aload 5, 2) := by decide +kernel
theorem dL_renders_273 : decode cL_renders 273 = .ok (.lload 10, 2) := by decide +kernel
theorem dL_renders_275 : decode cL_renders 275 = .ok (.sipush 2000, 3) := by decide +kernel
theorem dL_renders_278 : decode cL_renders 278 = .ok (.iload 13, 2) := by decide +kernel
theorem dL_renders_280 : decode cL_renders 280 = .ok (.bipush 16, 2) := by decide +kernel
theorem dL_renders_282 : decode cL_renders 282 = .ok (.idiv, 1) := by decide +kernel
theorem dL_renders_283 : decode cL_renders 283 = .ok (.iadd, 1) := by decide +kernel
theorem dL_renders_284 : decode cL_renders 284 = .ok (.invokestatic 27, 3) := by decide +kernel
theorem dL_renders_287 : decode cL_renders 287 = .ok (.lstore 10, 2) := by decide +kernel
theorem dL_renders_289 : decode cL_renders 289 = .ok (.goto 70, 3) := by decide +kernel
theorem dL_renders_292 : decode cL_renders 292 = .ok (.iload 15, 2) := by decide +kernel
theorem dL_renders_294 : decode cL_renders 294 = .ok (.ifCond .ne 10, 3) := by decide +kernel
theorem dL_renders_297 : decode cL_renders 297 = .ok (.iload 12, 2) := by decide +kernel
theorem dL_renders_299 : decode cL_renders 299 = .ok (.bipush 6, 2) := by decide +kernel
theorem dL_renders_301 : decode cL_renders 301 = .ok (.if_icmp .ne 29, 3) := by decide +kernel
theorem dL_renders_304 : decode cL_renders 304 = .ok (.aload 5, 2) := by decide +kernel
theorem dL_renders_306 : decode cL_renders 306 = .ok (.lload 10, 2) := by decide +kernel
theorem dL_renders_308 : decode cL_renders 308 = .ok (.iload 15, 2) := by decide +kernel
theorem dL_renders_310 : decode cL_renders 310 = .ok (.ifCond .eq 9, 3) := by decide +kernel
theorem dL_renders_313 : decode cL_renders 313 = .ok (.sipush 9001, 3) := by decide +kernel
theorem dL_renders_316 : decode cL_renders 316 = .ok (.goto 6, 3) := by decide +kernel
theorem dL_renders_319 : decode cL_renders 319 = .ok (.sipush 9002, 3) := by decide +kernel
theorem dL_renders_322 : decode cL_renders 322 = .ok (.invokestatic 27, 3) := by decide +kernel
theorem dL_renders_325 : decode cL_renders 325 = .ok (.lstore 10, 2) := by decide +kernel
theorem dL_renders_327 : decode cL_renders 327 = .ok (.goto 32, 3) := by decide +kernel
theorem dL_renders_330 : decode cL_renders 330 = .ok (.iinc 12 1, 3) := by decide +kernel
theorem dL_renders_333 : decode cL_renders 333 = .ok (.aload 7, 2) := by decide +kernel
theorem dL_renders_335 : decode cL_renders 335 = .ok (.iload 12, 2) := by decide +kernel
theorem dL_renders_337 : decode cL_renders 337 = .ok (.aload_n 0, 1) := by decide +kernel
theorem dL_renders_338 : decode cL_renders 338 = .ok (.aload_n 1, 1) := by decide +kernel
theorem dL_renders_339 : decode cL_renders 339 = .ok (.aload_n 2, 1) := by decide +kernel
theorem dL_renders_340 : decode cL_renders 340 = .ok (.iload 14, 2) := by decide +kernel
theorem dL_renders_342 : decode cL_renders 342 = .ok (.invokestatic 15, 3) := by decide +kernel
theorem dL_renders_345 : decode cL_renders 345 = .ok (.iastore, 1) := by decide +kernel
theorem dL_renders_346 : decode cL_renders 346 = .ok (.aload 8, 2) := by decide +kernel
theorem dL_renders_348 : decode cL_renders 348 = .ok (.iload 12, 2) := by decide +kernel
theorem dL_renders_350 : decode cL_renders 350 = .ok (.iconst 0, 1) := by decide +kernel
theorem dL_renders_351 : decode cL_renders 351 = .ok (.iastore, 1) := by decide +kernel
theorem dL_renders_352 : decode cL_renders 352 = .ok (.aload 9, 2) := by decide +kernel
theorem dL_renders_354 : decode cL_renders 354 = .ok (.iload 12, 2) := by decide +kernel
theorem dL_renders_356 : decode cL_renders 356 = .ok (.iload 14, 2) := by decide +kernel
theorem dL_renders_358 : decode cL_renders 358 = .ok (.iastore, 1) := by decide +kernel
theorem dL_renders_359 : decode cL_renders 359 = .ok (.goto (-289), 3) := by decide +kernel
theorem dL_renders_362 : decode cL_renders 362 = .ok (.aload 5, 2) := by decide +kernel
theorem dL_renders_364 : decode cL_renders 364 = .ok (.iconst 4, 1) := by decide +kernel
theorem dL_renders_365 : decode cL_renders 365 = .ok (.aload 5, 2) := by decide +kernel
theorem dL_renders_367 : decode cL_renders 367 = .ok (.iconst 4, 1) := by decide +kernel
theorem dL_renders_368 : decode cL_renders 368 = .ok (.iaload, 1) := by decide +kernel
theorem dL_renders_369 : decode cL_renders 369 = .ok (.sipush 150, 3) := by decide +kernel
theorem dL_renders_372 : decode cL_renders 372 = .ok (.if_icmp .le 9, 3) := by decide +kernel
theorem dL_renders_375 : decode cL_renders 375 = .ok (.sipush 150, 3) := by decide +kernel
theorem dL_renders_378 : decode cL_renders 378 = .ok (.goto 7, 3) := by decide +kernel
theorem dL_renders_381 : decode cL_renders 381 = .ok (.aload 5, 2) := by decide +kernel
theorem dL_renders_383 : decode cL_renders 383 = .ok (.iconst 4, 1) := by decide +kernel
theorem dL_renders_384 : decode cL_renders 384 = .ok (.iaload, 1) := by decide +kernel
theorem dL_renders_385 : decode cL_renders 385 = .ok (.iastore, 1) := by decide +kernel
theorem dL_renders_386 : decode cL_renders 386 = .ok (.lload 10, 2) := by decide +kernel
theorem dL_renders_388 : decode cL_renders 388 = .ok (.lreturn, 1) := by decide +kernel
theorem dL_sets_0 : decode cL_sets 0 = .ok (.aload_n 1, 1) := by decide +kernel
theorem dL_sets_1 : decode cL_sets 1 = .ok (.bipush 7, 2) := by decide +kernel
theorem dL_sets_3 : decode cL_sets 3 = .ok (.iload_n 3, 1) := by decide +kernel
theorem dL_sets_4 : decode cL_sets 4 = .ok (.imul, 1) := by decide +kernel
theorem dL_sets_5 : decode cL_sets 5 = .ok (.iaload, 1) := by decide +kernel
theorem dL_sets_6 : decode cL_sets 6 = .ok (.ifCond .le 14, 3) := by decide +kernel
theorem dL_sets_9 : decode cL_sets 9 = .ok (.aload_n 1, 1) := by decide +kernel
theorem dL_sets_10 : decode cL_sets 10 = .ok (.bipush 7, 2) := by decide +kernel
theorem dL_sets_12 : decode cL_sets 12 = .ok (.iload_n 3, 1) := by decide +kernel
theorem dL_sets_13 : decode cL_sets 13 = .ok (.imul, 1) := by decide +kernel
theorem dL_sets_14 : decode cL_sets 14 = .ok (.iconst 4, 1) := by decide +kernel
theorem dL_sets_15 : decode cL_sets 15 = .ok (.iadd, 1) := by decide +kernel
theorem dL_sets_16 : decode cL_sets 16 = .ok (.iaload, 1) := by decide +kernel
theorem dL_sets_17 : decode cL_sets 17 = .ok (.goto 4, 3) := by decide +kernel
theorem dL_sets_20 : decode cL_sets 20 = .ok (.iconst 0, 1) := by decide +kernel
theorem dL_sets_21 : decode cL_sets 21 = .ok (.istore 5, 2) := by decide +kernel
theorem dL_sets_23 : decode cL_sets 23 = .ok (.iconst 0, 1) := by decide +kernel
theorem dL_sets_24 : decode cL_sets 24 = .ok (.istore 6, 2) := by decide +kernel
theorem dL_sets_26 : decode cL_sets 26 = .ok (.iload 6, 2) := by decide +kernel
theorem dL_sets_28 : decode cL_sets 28 = .ok (.bipush 8, 2) := by decide +kernel
theorem dL_sets_30 : decode cL_sets 30 = .ok (.if_icmp .ge 40, 3) := by decide +kernel
theorem dL_sets_33 : decode cL_sets 33 = .ok (.iload 5, 2) := by decide +kernel
theorem dL_sets_35 : decode cL_sets 35 = .ok (.iload 6, 2) := by decide +kernel
theorem dL_sets_37 : decode cL_sets 37 = .ok (.ishr, 1) := by decide +kernel
theorem dL_sets_38 : decode cL_sets 38 = .ok (.iconst 1, 1) := by decide +kernel
theorem dL_sets_39 : decode cL_sets 39 = .ok (.iand, 1) := by decide +kernel
theorem dL_sets_40 : decode cL_sets 40 = .ok (.iload 4, 2) := by decide +kernel
theorem dL_sets_42 : decode cL_sets 42 = .ok (.iload 6, 2) := by decide +kernel
theorem dL_sets_44 : decode cL_sets 44 = .ok (.ishr, 1) := by decide +kernel
theorem dL_sets_45 : decode cL_sets 45 = .ok (.iconst 1, 1) := by decide +kernel
theorem dL_sets_46 : decode cL_sets 46 = .ok (.iand, 1) := by decide +kernel
theorem dL_sets_47 : decode cL_sets 47 = .ok (.if_icmp .eq 17, 3) := by decide +kernel
theorem dL_sets_50 : decode cL_sets 50 = .ok (.aload_n 0, 1) := by decide +kernel
theorem dL_sets_51 : decode cL_sets 51 = .ok (.iconst 3, 1) := by decide +kernel
theorem dL_sets_52 : decode cL_sets 52 = .ok (.dup2, 1) := by decide +kernel
theorem dL_sets_53 : decode cL_sets 53 = .ok (.iaload, 1) := by decide +kernel
theorem dL_sets_54 : decode cL_sets 54 = .ok (.iconst 1, 1) := by decide +kernel
theorem dL_sets_55 : decode cL_sets 55 = .ok (.iadd, 1) := by decide +kernel
theorem dL_sets_56 : decode cL_sets 56 = .ok (.iastore, 1) := by decide +kernel
theorem dL_sets_57 : decode cL_sets 57 = .ok (.aload_n 2, 1) := by decide +kernel
theorem dL_sets_58 : decode cL_sets 58 = .ok (.iload 6, 2) := by decide +kernel
theorem dL_sets_60 : decode cL_sets 60 = .ok (.aload_n 0, 1) := by decide +kernel
theorem dL_sets_61 : decode cL_sets 61 = .ok (.iconst 3, 1) := by decide +kernel
theorem dL_sets_62 : decode cL_sets 62 = .ok (.iaload, 1) := by decide +kernel
theorem dL_sets_63 : decode cL_sets 63 = .ok (.iastore, 1) := by decide +kernel
theorem dL_sets_64 : decode cL_sets 64 = .ok (.iinc 6 1, 3) := by decide +kernel
theorem dL_sets_67 : decode cL_sets 67 = .ok (.goto (-41), 3) := by decide +kernel
theorem dL_sets_70 : decode cL_sets 70 = .ok (.aload_n 1, 1) := by decide +kernel
theorem dL_sets_71 : decode cL_sets 71 = .ok (.bipush 7, 2) := by decide +kernel
theorem dL_sets_73 : decode cL_sets 73 = .ok (.iload_n 3, 1) := by decide +kernel
theorem dL_sets_74 : decode cL_sets 74 = .ok (.imul, 1) := by decide +kernel
theorem dL_sets_75 : decode cL_sets 75 = .ok (.iconst 4, 1) := by decide +kernel
theorem dL_sets_76 : decode cL_sets 76 = .ok (.iadd, 1) := by decide +kernel
theorem dL_sets_77 : decode cL_sets 77 = .ok (.iload 4, 2) := by decide +kernel
theorem dL_sets_79 : decode cL_sets 79 = .ok (.iastore, 1) := by decide +kernel
theorem dL_sets_80 : decode cL_sets 80 = .ok (.return_, 1) := by decide +kernel
theorem dL_rendered_0 : decode cL_rendered 0 = .ok (.aload_n 0, 1) := by decide +kernel
theorem dL_rendered_1 : decode cL_rendered 1 = .ok (.iconst 3, 1) := by decide +kernel
theorem dL_rendered_2 : decode cL_rendered 2 = .ok (.iaload, 1) := by decide +kernel
theorem dL_rendered_3 : decode cL_rendered 3 = .ok (.istore 9, 2) := by decide +kernel
theorem dL_rendered_5 : decode cL_rendered 5 = .ok (.aload 5, 2) := by decide +kernel
theorem dL_rendered_7 : decode cL_rendered 7 = .ok (.iload 8, 2) := by decide +kernel
theorem dL_rendered_9 : decode cL_rendered 9 = .ok (.aload_n 0, 1) := by decide +kernel
theorem dL_rendered_10 : decode cL_rendered 10 = .ok (.aload_n 1, 1) := by decide +kernel
theorem dL_rendered_11 : decode cL_rendered 11 = .ok (.aload_n 2, 1) := by decide +kernel
theorem dL_rendered_12 : decode cL_rendered 12 = .ok (.aload_n 3, 1) := by decide +kernel
theorem dL_rendered_13 : decode cL_rendered 13 = .ok (.aload 4, 2) := by decide +kernel
theorem dL_rendered_15 : decode cL_rendered 15 = .ok (.aload 7, 2) := by decide +kernel
theorem dL_rendered_17 : decode cL_rendered 17 = .ok (.iload 8, 2) := by decide +kernel
theorem dL_rendered_19 : decode cL_rendered 19 = .ok (.invokestatic 47, 3) := by decide +kernel
theorem dL_rendered_22 : decode cL_rendered 22 = .ok (.lastore, 1) := by decide +kernel
theorem dL_rendered_23 : decode cL_rendered 23 = .ok (.aload_n 0, 1) := by decide +kernel
theorem dL_rendered_24 : decode cL_rendered 24 = .ok (.aload 4, 2) := by decide +kernel
theorem dL_rendered_26 : decode cL_rendered 26 = .ok (.aload 6, 2) := by decide +kernel
theorem dL_rendered_28 : decode cL_rendered 28 = .ok (.iload 8, 2) := by decide +kernel
theorem dL_rendered_30 : decode cL_rendered 30 = .ok (.aload 7, 2) := by decide +kernel
theorem dL_rendered_32 : decode cL_rendered 32 = .ok (.iconst 2, 1) := by decide +kernel
theorem dL_rendered_33 : decode cL_rendered 33 = .ok (.iaload, 1) := by decide +kernel
theorem dL_rendered_34 : decode cL_rendered 34 = .ok (.invokestatic 51, 3) := by decide +kernel
theorem dL_rendered_37 : decode cL_rendered 37 = .ok (.aload 4, 2) := by decide +kernel
theorem dL_rendered_39 : decode cL_rendered 39 = .ok (.bipush 7, 2) := by decide +kernel
theorem dL_rendered_41 : decode cL_rendered 41 = .ok (.iload 8, 2) := by decide +kernel
theorem dL_rendered_43 : decode cL_rendered 43 = .ok (.imul, 1) := by decide +kernel
theorem dL_rendered_44 : decode cL_rendered 44 = .ok (.iload 9, 2) := by decide +kernel
theorem dL_rendered_46 : decode cL_rendered 46 = .ok (.iconst 1, 1) := by decide +kernel
theorem dL_rendered_47 : decode cL_rendered 47 = .ok (.iadd, 1) := by decide +kernel
theorem dL_rendered_48 : decode cL_rendered 48 = .ok (.iastore, 1) := by decide +kernel
theorem dL_rendered_49 : decode cL_rendered 49 = .ok (.aload 4, 2) := by decide +kernel
theorem dL_rendered_51 : decode cL_rendered 51 = .ok (.bipush 7, 2) := by decide +kernel
theorem dL_rendered_53 : decode cL_rendered 53 = .ok (.iload 8, 2) := by decide +kernel
theorem dL_rendered_55 : decode cL_rendered 55 = .ok (.imul, 1) := by decide +kernel
theorem dL_rendered_56 : decode cL_rendered 56 = .ok (.iconst 1, 1) := by decide +kernel
theorem dL_rendered_57 : decode cL_rendered 57 = .ok (.iadd, 1) := by decide +kernel
theorem dL_rendered_58 : decode cL_rendered 58 = .ok (.aload 7, 2) := by decide +kernel
theorem dL_rendered_60 : decode cL_rendered 60 = .ok (.iconst 4, 1) := by decide +kernel
theorem dL_rendered_61 : decode cL_rendered 61 = .ok (.iaload, 1) := by decide +kernel
theorem dL_rendered_62 : decode cL_rendered 62 = .ok (.iastore, 1) := by decide +kernel
theorem dL_rendered_63 : decode cL_rendered 63 = .ok (.aload 4, 2) := by decide +kernel
theorem dL_rendered_65 : decode cL_rendered 65 = .ok (.bipush 7, 2) := by decide +kernel
theorem dL_rendered_67 : decode cL_rendered 67 = .ok (.iload 8, 2) := by decide +kernel
theorem dL_rendered_69 : decode cL_rendered 69 = .ok (.imul, 1) := by decide +kernel
theorem dL_rendered_70 : decode cL_rendered 70 = .ok (.iconst 2, 1) := by decide +kernel
theorem dL_rendered_71 : decode cL_rendered 71 = .ok (.iadd, 1) := by decide +kernel
theorem dL_rendered_72 : decode cL_rendered 72 = .ok (.aload 7, 2) := by decide +kernel
theorem dL_rendered_74 : decode cL_rendered 74 = .ok (.iconst 0, 1) := by decide +kernel
theorem dL_rendered_75 : decode cL_rendered 75 = .ok (.iaload, 1) := by decide +kernel
theorem dL_rendered_76 : decode cL_rendered 76 = .ok (.iastore, 1) := by decide +kernel
theorem dL_rendered_77 : decode cL_rendered 77 = .ok (.aload 4, 2) := by decide +kernel
theorem dL_rendered_79 : decode cL_rendered 79 = .ok (.bipush 7, 2) := by decide +kernel
theorem dL_rendered_81 : decode cL_rendered 81 = .ok (.iload 8, 2) := by decide +kernel
theorem dL_rendered_83 : decode cL_rendered 83 = .ok (.imul, 1) := by decide +kernel
theorem dL_rendered_84 : decode cL_rendered 84 = .ok (.iconst 3, 1) := by decide +kernel
theorem dL_rendered_85 : decode cL_rendered 85 = .ok (.iadd, 1) := by decide +kernel
theorem dL_rendered_86 : decode cL_rendered 86 = .ok (.aload 7, 2) := by decide +kernel
theorem dL_rendered_88 : decode cL_rendered 88 = .ok (.iconst 1, 1) := by decide +kernel
theorem dL_rendered_89 : decode cL_rendered 89 = .ok (.iaload, 1) := by decide +kernel
theorem dL_rendered_90 : decode cL_rendered 90 = .ok (.iastore, 1) := by decide +kernel
theorem dL_rendered_91 : decode cL_rendered 91 = .ok (.aload 4, 2) := by decide +kernel
theorem dL_rendered_93 : decode cL_rendered 93 = .ok (.bipush 7, 2) := by decide +kernel
theorem dL_rendered_95 : decode cL_rendered 95 = .ok (.iload 8, 2) := by decide +kernel
theorem dL_rendered_97 : decode cL_rendered 97 = .ok (.imul, 1) := by decide +kernel
theorem dL_rendered_98 : decode cL_rendered 98 = .ok (.iconst 5, 1) := by decide +kernel
theorem dL_rendered_99 : decode cL_rendered 99 = .ok (.iadd, 1) := by decide +kernel
theorem dL_rendered_100 : decode cL_rendered 100 = .ok (.aload 7, 2) := by decide +kernel
theorem dL_rendered_102 : decode cL_rendered 102 = .ok (.iconst 3, 1) := by decide +kernel
theorem dL_rendered_103 : decode cL_rendered 103 = .ok (.iaload, 1) := by decide +kernel
theorem dL_rendered_104 : decode cL_rendered 104 = .ok (.iastore, 1) := by decide +kernel
theorem dL_rendered_105 : decode cL_rendered 105 = .ok (.return_, 1) := by decide +kernel
theorem dL_isStale_0 : decode cL_isStale 0 = .ok (.aload_n 2, 1) := by decide +kernel
theorem dL_isStale_1 : decode cL_isStale 1 = .ok (.bipush 7, 2) := by decide +kernel
theorem dL_isStale_3 : decode cL_isStale 3 = .ok (.iload 4, 2) := by decide +kernel
theorem dL_isStale_5 : decode cL_isStale 5 = .ok (.imul, 1) := by decide +kernel
theorem dL_isStale_6 : decode cL_isStale 6 = .ok (.iaload, 1) := by decide +kernel
theorem dL_isStale_7 : decode cL_isStale 7 = .ok (.iconst 1, 1) := by decide +kernel
theorem dL_isStale_8 : decode cL_isStale 8 = .ok (.isub, 1) := by decide +kernel
theorem dL_isStale_9 : decode cL_isStale 9 = .ok (.istore 5, 2) := by decide +kernel
theorem dL_isStale_11 : decode cL_isStale 11 = .ok (.iload 5, 2) := by decide +kernel
theorem dL_isStale_13 : decode cL_isStale 13 = .ok (.ifCond .lt 12, 3) := by decide +kernel
theorem dL_isStale_16 : decode cL_isStale 16 = .ok (.aload_n 1, 1) := by decide +kernel
theorem dL_isStale_17 : decode cL_isStale 17 = .ok (.iload 4, 2) := by decide +kernel
theorem dL_isStale_19 : decode cL_isStale 19 = .ok (.iaload, 1) := by decide +kernel
theorem dL_isStale_20 : decode cL_isStale 20 = .ok (.iload 5, 2) := by decide +kernel
theorem dL_isStale_22 : decode cL_isStale 22 = .ok (.if_icmp .le 7, 3) := by decide +kernel
theorem dL_isStale_25 : decode cL_isStale 25 = .ok (.iconst 1, 1) := by decide +kernel
theorem dL_isStale_26 : decode cL_isStale 26 = .ok (.goto 4, 3) := by decide +kernel
theorem dL_isStale_29 : decode cL_isStale 29 = .ok (.iconst 0, 1) := by decide +kernel
theorem dL_isStale_30 : decode cL_isStale 30 = .ok (.istore 6, 2) := by decide +kernel
theorem dL_isStale_32 : decode cL_isStale 32 = .ok (.iconst 0, 1) := by decide +kernel
theorem dL_isStale_33 : decode cL_isStale 33 = .ok (.istore 7, 2) := by decide +kernel
theorem dL_isStale_35 : decode cL_isStale 35 = .ok (.iload 7, 2) := by decide +kernel
theorem dL_isStale_37 : decode cL_isStale 37 = .ok (.bipush 8, 2) := by decide +kernel
theorem dL_isStale_39 : decode cL_isStale 39 = .ok (.if_icmp .ge 75, 3) := by decide +kernel
theorem dL_isStale_42 : decode cL_isStale 42 = .ok (.iload 6, 2) := by decide +kernel
theorem dL_isStale_44 : decode cL_isStale 44 = .ok (.ifCond .ne 57, 3) := by decide +kernel
theorem dL_isStale_47 : decode cL_isStale 47 = .ok (.aload_n 2, 1) := by decide +kernel
theorem dL_isStale_48 : decode cL_isStale 48 = .ok (.bipush 7, 2) := by decide +kernel
theorem dL_isStale_50 : decode cL_isStale 50 = .ok (.iload 4, 2) := by decide +kernel
theorem dL_isStale_52 : decode cL_isStale 52 = .ok (.imul, 1) := by decide +kernel
theorem dL_isStale_53 : decode cL_isStale 53 = .ok (.iconst 3, 1) := by decide +kernel
theorem dL_isStale_54 : decode cL_isStale 54 = .ok (.iadd, 1) := by decide +kernel
theorem dL_isStale_55 : decode cL_isStale 55 = .ok (.iaload, 1) := by decide +kernel
theorem dL_isStale_56 : decode cL_isStale 56 = .ok (.iload 7, 2) := by decide +kernel
theorem dL_isStale_58 : decode cL_isStale 58 = .ok (.ishr, 1) := by decide +kernel
theorem dL_isStale_59 : decode cL_isStale 59 = .ok (.iconst 1, 1) := by decide +kernel
theorem dL_isStale_60 : decode cL_isStale 60 = .ok (.iand, 1) := by decide +kernel
theorem dL_isStale_61 : decode cL_isStale 61 = .ok (.iconst 1, 1) := by decide +kernel
theorem dL_isStale_62 : decode cL_isStale 62 = .ok (.if_icmp .ne 12, 3) := by decide +kernel
theorem dL_isStale_65 : decode cL_isStale 65 = .ok (.aload_n 1, 1) := by decide +kernel
theorem dL_isStale_66 : decode cL_isStale 66 = .ok (.iload 7, 2) := by decide +kernel
theorem dL_isStale_68 : decode cL_isStale 68 = .ok (.iaload, 1) := by decide +kernel
theorem dL_isStale_69 : decode cL_isStale 69 = .ok (.iload 5, 2) := by decide +kernel
theorem dL_isStale_71 : decode cL_isStale 71 = .ok (.if_icmp .gt 30, 3) := by decide +kernel
theorem dL_isStale_74 : decode cL_isStale 74 = .ok (.aload_n 2, 1) := by decide +kernel
theorem dL_isStale_75 : decode cL_isStale 75 = .ok (.bipush 7, 2) := by decide +kernel
theorem dL_isStale_77 : decode cL_isStale 77 = .ok (.iload 4, 2) := by decide +kernel
theorem dL_isStale_79 : decode cL_isStale 79 = .ok (.imul, 1) := by decide +kernel
theorem dL_isStale_80 : decode cL_isStale 80 = .ok (.iconst 5, 1) := by decide +kernel
theorem dL_isStale_81 : decode cL_isStale 81 = .ok (.iadd, 1) := by decide +kernel
theorem dL_isStale_82 : decode cL_isStale 82 = .ok (.iaload, 1) := by decide +kernel
theorem dL_isStale_83 : decode cL_isStale 83 = .ok (.iload 7, 2) := by decide +kernel
theorem dL_isStale_85 : decode cL_isStale 85 = .ok (.ishr, 1) := by decide +kernel
theorem dL_isStale_86 : decode cL_isStale 86 = .ok (.iconst 1, 1) := by decide +kernel
theorem dL_isStale_87 : decode cL_isStale 87 = .ok (.iand, 1) := by decide +kernel
theorem dL_isStale_88 : decode cL_isStale 88 = .ok (.iconst 1, 1) := by decide +kernel
theorem dL_isStale_89 : decode cL_isStale 89 = .ok (.if_icmp .ne 16, 3) := by decide +kernel
theorem dL_isStale_92 : decode cL_isStale 92 = .ok (.aload_n 3, 1) := by decide +kernel
theorem dL_isStale_93 : decode cL_isStale 93 = .ok (.iload 7, 2) := by decide +kernel
theorem dL_isStale_95 : decode cL_isStale 95 = .ok (.iaload, 1) := by decide +kernel
theorem dL_isStale_96 : decode cL_isStale 96 = .ok (.iload 5, 2) := by decide +kernel
theorem dL_isStale_98 : decode cL_isStale 98 = .ok (.if_icmp .le 7, 3) := by decide +kernel
theorem dL_isStale_101 : decode cL_isStale 101 = .ok (.iconst 1, 1) := by decide +kernel
theorem dL_isStale_102 : decode cL_isStale 102 = .ok (.goto 4, 3) := by decide +kernel
theorem dL_isStale_105 : decode cL_isStale 105 = .ok (.iconst 0, 1) := by decide +kernel
theorem dL_isStale_106 : decode cL_isStale 106 = .ok (.istore 6, 2) := by decide +kernel
theorem dL_isStale_108 : decode cL_isStale 108 = .ok (.iinc 7 1, 3) := by decide +kernel
theorem dL_isStale_111 : decode cL_isStale 111 = .ok (.goto (-76), 3) := by decide +kernel
theorem dL_isStale_114 : decode cL_isStale 114 = .ok (.iload 6, 2) := by decide +kernel
theorem dL_isStale_116 : decode cL_isStale 116 = .ok (.ifCond .eq 14, 3) := by decide +kernel
theorem dL_isStale_119 : decode cL_isStale 119 = .ok (.aload_n 0, 1) := by decide +kernel
theorem dL_isStale_120 : decode cL_isStale 120 = .ok (.iload 4, 2) := by decide +kernel
theorem dL_isStale_122 : decode cL_isStale 122 = .ok (.iaload, 1) := by decide +kernel
theorem dL_isStale_123 : decode cL_isStale 123 = .ok (.ifCond .le 7, 3) := by decide +kernel
theorem dL_isStale_126 : decode cL_isStale 126 = .ok (.iconst 1, 1) := by decide +kernel
theorem dL_isStale_127 : decode cL_isStale 127 = .ok (.goto 4, 3) := by decide +kernel
theorem dL_isStale_130 : decode cL_isStale 130 = .ok (.iconst 0, 1) := by decide +kernel
theorem dL_isStale_131 : decode cL_isStale 131 = .ok (.ireturn, 1) := by decide +kernel
theorem dL_next_0 : decode cL_next 0 = .ok (.iconst (-1), 1) := by decide +kernel
theorem dL_next_1 : decode cL_next 1 = .ok (.istore 4, 2) := by decide +kernel
theorem dL_next_3 : decode cL_next 3 = .ok (.iconst 0, 1) := by decide +kernel
theorem dL_next_4 : decode cL_next 4 = .ok (.istore 5, 2) := by decide +kernel
theorem dL_next_6 : decode cL_next 6 = .ok (.iload 5, 2) := by decide +kernel
theorem dL_next_8 : decode cL_next 8 = .ok (.bipush 8, 2) := by decide +kernel
theorem dL_next_10 : decode cL_next 10 = .ok (.if_icmp .ge 58, 3) := by decide +kernel
theorem dL_next_13 : decode cL_next 13 = .ok (.aload_n 0, 1) := by decide +kernel
theorem dL_next_14 : decode cL_next 14 = .ok (.aload_n 1, 1) := by decide +kernel
theorem dL_next_15 : decode cL_next 15 = .ok (.aload_n 2, 1) := by decide +kernel
theorem dL_next_16 : decode cL_next 16 = .ok (.aload_n 3, 1) := by decide +kernel
theorem dL_next_17 : decode cL_next 17 = .ok (.iload 5, 2) := by decide +kernel
theorem dL_next_19 : decode cL_next 19 = .ok (.invokestatic 55, 3) := by decide +kernel
theorem dL_next_22 : decode cL_next 22 = .ok (.ifCond .eq 36, 3) := by decide +kernel
theorem dL_next_25 : decode cL_next 25 = .ok (.iload 4, 2) := by decide +kernel
theorem dL_next_27 : decode cL_next 27 = .ok (.ifCond .lt 26, 3) := by decide +kernel
theorem dL_next_30 : decode cL_next 30 = .ok (.aload_n 2, 1) := by decide +kernel
theorem dL_next_31 : decode cL_next 31 = .ok (.bipush 7, 2) := by decide +kernel
theorem dL_next_33 : decode cL_next 33 = .ok (.iload 5, 2) := by decide +kernel
theorem dL_next_35 : decode cL_next 35 = .ok (.imul, 1) := by decide +kernel
theorem dL_next_36 : decode cL_next 36 = .ok (.bipush 6, 2) := by decide +kernel
theorem dL_next_38 : decode cL_next 38 = .ok (.iadd, 1) := by decide +kernel
theorem dL_next_39 : decode cL_next 39 = .ok (.iaload, 1) := by decide +kernel
theorem dL_next_40 : decode cL_next 40 = .ok (.aload_n 2, 1) := by decide +kernel
theorem dL_next_41 : decode cL_next 41 = .ok (.bipush 7, 2) := by decide +kernel
theorem dL_next_43 : decode cL_next 43 = .ok (.iload 4, 2) := by decide +kernel
theorem dL_next_45 : decode cL_next 45 = .ok (.imul, 1) := by decide +kernel
theorem dL_next_46 : decode cL_next 46 = .ok (.bipush 6, 2) := by decide +kernel
theorem dL_next_48 : decode cL_next 48 = .ok (.iadd, 1) := by decide +kernel
theorem dL_next_49 : decode cL_next 49 = .ok (.iaload, 1) := by decide +kernel
theorem dL_next_50 : decode cL_next 50 = .ok (.if_icmp .le 8, 3) := by decide +kernel
theorem dL_next_53 : decode cL_next 53 = .ok (.iload 5, 2) := by decide +kernel
theorem dL_next_55 : decode cL_next 55 = .ok (.goto 5, 3) := by decide +kernel
theorem dL_next_58 : decode cL_next 58 = .ok (.iload 4, 2) := by decide +kernel
theorem dL_next_60 : decode cL_next 60 = .ok (.istore 4, 2) := by decide +kernel
theorem dL_next_62 : decode cL_next 62 = .ok (.iinc 5 1, 3) := by decide +kernel
theorem dL_next_65 : decode cL_next 65 = .ok (.goto (-59), 3) := by decide +kernel
theorem dL_next_68 : decode cL_next 68 = .ok (.iload 4, 2) := by decide +kernel
theorem dL_next_70 : decode cL_next 70 = .ok (.ireturn, 1) := by decide +kernel
theorem dL_settles_0 : decode cL_settles 0 = .ok (.iconst 0, 1) := by decide +kernel
theorem dL_settles_1 : decode cL_settles 1 = .ok (.istore 5, 2) := by decide +kernel
theorem dL_settles_3 : decode cL_settles 3 = .ok (.iload 5, 2) := by decide +kernel
theorem dL_settles_5 : decode cL_settles 5 = .ok (.bipush 8, 2) := by decide +kernel
theorem dL_settles_7 : decode cL_settles 7 = .ok (.if_icmp .ge 52, 3) := by decide +kernel
theorem dL_settles_10 : decode cL_settles 10 = .ok (.aload_n 0, 1) := by decide +kernel
theorem dL_settles_11 : decode cL_settles 11 = .ok (.aload_n 1, 1) := by decide +kernel
theorem dL_settles_12 : decode cL_settles 12 = .ok (.aload_n 2, 1) := by decide +kernel
theorem dL_settles_13 : decode cL_settles 13 = .ok (.iload 5, 2) := by decide +kernel
theorem dL_settles_15 : decode cL_settles 15 = .ok (.invokestatic 15, 3) := by decide +kernel
theorem dL_settles_18 : decode cL_settles 18 = .ok (.iconst 1, 1) := by decide +kernel
theorem dL_settles_19 : decode cL_settles 19 = .ok (.iadd, 1) := by decide +kernel
theorem dL_settles_20 : decode cL_settles 20 = .ok (.istore 6, 2) := by decide +kernel
theorem dL_settles_22 : decode cL_settles 22 = .ok (.iload 6, 2) := by decide +kernel
theorem dL_settles_24 : decode cL_settles 24 = .ok (.aload 4, 2) := by decide +kernel
theorem dL_settles_26 : decode cL_settles 26 = .ok (.iload 5, 2) := by decide +kernel
theorem dL_settles_28 : decode cL_settles 28 = .ok (.iaload, 1) := by decide +kernel
theorem dL_settles_29 : decode cL_settles 29 = .ok (.if_icmp .eq 24, 3) := by decide +kernel
theorem dL_settles_32 : decode cL_settles 32 = .ok (.aload_n 0, 1) := by decide +kernel
theorem dL_settles_33 : decode cL_settles 33 = .ok (.iconst 3, 1) := by decide +kernel
theorem dL_settles_34 : decode cL_settles 34 = .ok (.dup2, 1) := by decide +kernel
theorem dL_settles_35 : decode cL_settles 35 = .ok (.iaload, 1) := by decide +kernel
theorem dL_settles_36 : decode cL_settles 36 = .ok (.iconst 1, 1) := by decide +kernel
theorem dL_settles_37 : decode cL_settles 37 = .ok (.iadd, 1) := by decide +kernel
theorem dL_settles_38 : decode cL_settles 38 = .ok (.iastore, 1) := by decide +kernel
theorem dL_settles_39 : decode cL_settles 39 = .ok (.aload_n 3, 1) := by decide +kernel
theorem dL_settles_40 : decode cL_settles 40 = .ok (.iload 5, 2) := by decide +kernel
theorem dL_settles_42 : decode cL_settles 42 = .ok (.aload_n 0, 1) := by decide +kernel
theorem dL_settles_43 : decode cL_settles 43 = .ok (.iconst 3, 1) := by decide +kernel
theorem dL_settles_44 : decode cL_settles 44 = .ok (.iaload, 1) := by decide +kernel
theorem dL_settles_45 : decode cL_settles 45 = .ok (.iastore, 1) := by decide +kernel
theorem dL_settles_46 : decode cL_settles 46 = .ok (.aload 4, 2) := by decide +kernel
theorem dL_settles_48 : decode cL_settles 48 = .ok (.iload 5, 2) := by decide +kernel
theorem dL_settles_50 : decode cL_settles 50 = .ok (.iload 6, 2) := by decide +kernel
theorem dL_settles_52 : decode cL_settles 52 = .ok (.iastore, 1) := by decide +kernel
theorem dL_settles_53 : decode cL_settles 53 = .ok (.iinc 5 1, 3) := by decide +kernel
theorem dL_settles_56 : decode cL_settles 56 = .ok (.goto (-53), 3) := by decide +kernel
theorem dL_settles_59 : decode cL_settles 59 = .ok (.return_, 1) := by decide +kernel
theorem dL_adds_0 : decode cL_adds 0 = .ok (.aload_n 1, 1) := by decide +kernel
theorem dL_adds_1 : decode cL_adds 1 = .ok (.iconst 2, 1) := by decide +kernel
theorem dL_adds_2 : decode cL_adds 2 = .ok (.aload_n 0, 1) := by decide +kernel
theorem dL_adds_3 : decode cL_adds 3 = .ok (.iconst 0, 1) := by decide +kernel
theorem dL_adds_4 : decode cL_adds 4 = .ok (.iaload, 1) := by decide +kernel
theorem dL_adds_5 : decode cL_adds 5 = .ok (.imul, 1) := by decide +kernel
theorem dL_adds_6 : decode cL_adds 6 = .ok (.iload_n 3, 1) := by decide +kernel
theorem dL_adds_7 : decode cL_adds 7 = .ok (.iastore, 1) := by decide +kernel
theorem dL_adds_8 : decode cL_adds 8 = .ok (.aload_n 1, 1) := by decide +kernel
theorem dL_adds_9 : decode cL_adds 9 = .ok (.iconst 2, 1) := by decide +kernel
theorem dL_adds_10 : decode cL_adds 10 = .ok (.aload_n 0, 1) := by decide +kernel
theorem dL_adds_11 : decode cL_adds 11 = .ok (.iconst 0, 1) := by decide +kernel
theorem dL_adds_12 : decode cL_adds 12 = .ok (.iaload, 1) := by decide +kernel
theorem dL_adds_13 : decode cL_adds 13 = .ok (.imul, 1) := by decide +kernel
theorem dL_adds_14 : decode cL_adds 14 = .ok (.iconst 1, 1) := by decide +kernel
theorem dL_adds_15 : decode cL_adds 15 = .ok (.iadd, 1) := by decide +kernel
theorem dL_adds_16 : decode cL_adds 16 = .ok (.iload 4, 2) := by decide +kernel
theorem dL_adds_18 : decode cL_adds 18 = .ok (.iastore, 1) := by decide +kernel
theorem dL_adds_19 : decode cL_adds 19 = .ok (.aload_n 2, 1) := by decide +kernel
theorem dL_adds_20 : decode cL_adds 20 = .ok (.aload_n 0, 1) := by decide +kernel
theorem dL_adds_21 : decode cL_adds 21 = .ok (.iconst 0, 1) := by decide +kernel
theorem dL_adds_22 : decode cL_adds 22 = .ok (.iaload, 1) := by decide +kernel
theorem dL_adds_23 : decode cL_adds 23 = .ok (.lload 5, 2) := by decide +kernel
theorem dL_adds_25 : decode cL_adds 25 = .ok (.lastore, 1) := by decide +kernel
theorem dL_adds_26 : decode cL_adds 26 = .ok (.aload_n 0, 1) := by decide +kernel
theorem dL_adds_27 : decode cL_adds 27 = .ok (.iconst 0, 1) := by decide +kernel
theorem dL_adds_28 : decode cL_adds 28 = .ok (.dup2, 1) := by decide +kernel
theorem dL_adds_29 : decode cL_adds 29 = .ok (.iaload, 1) := by decide +kernel
theorem dL_adds_30 : decode cL_adds 30 = .ok (.iconst 1, 1) := by decide +kernel
theorem dL_adds_31 : decode cL_adds 31 = .ok (.iadd, 1) := by decide +kernel
theorem dL_adds_32 : decode cL_adds 32 = .ok (.iastore, 1) := by decide +kernel
theorem dL_adds_33 : decode cL_adds 33 = .ok (.aload_n 0, 1) := by decide +kernel
theorem dL_adds_34 : decode cL_adds 34 = .ok (.iconst 0, 1) := by decide +kernel
theorem dL_adds_35 : decode cL_adds 35 = .ok (.iaload, 1) := by decide +kernel
theorem dL_adds_36 : decode cL_adds 36 = .ok (.iconst 1, 1) := by decide +kernel
theorem dL_adds_37 : decode cL_adds 37 = .ok (.isub, 1) := by decide +kernel
theorem dL_adds_38 : decode cL_adds 38 = .ok (.ireturn, 1) := by decide +kernel
theorem dL_does_0 : decode cL_does 0 = .ok (.iload_n 1, 1) := by decide +kernel
theorem dL_does_1 : decode cL_does 1 = .ok (.ifCond .ne 11, 3) := by decide +kernel
theorem dL_does_4 : decode cL_does 4 = .ok (.aload_n 0, 1) := by decide +kernel
theorem dL_does_5 : decode cL_does 5 = .ok (.iload_n 2, 1) := by decide +kernel
theorem dL_does_6 : decode cL_does 6 = .ok (.invokevirtual 59, 3) := by decide +kernel
theorem dL_does_9 : decode cL_does 9 = .ok (.goto 181, 3) := by decide +kernel
theorem dL_does_12 : decode cL_does 12 = .ok (.iload_n 1, 1) := by decide +kernel
theorem dL_does_13 : decode cL_does 13 = .ok (.iconst 1, 1) := by decide +kernel
theorem dL_does_14 : decode cL_does 14 = .ok (.if_icmp .ne 14, 3) := by decide +kernel
theorem dL_does_17 : decode cL_does 17 = .ok (.aload_n 0, 1) := by decide +kernel
theorem dL_does_18 : decode cL_does 18 = .ok (.iload_n 2, 1) := by decide +kernel
theorem dL_does_19 : decode cL_does 19 = .ok (.iload_n 3, 1) := by decide +kernel
theorem dL_does_20 : decode cL_does 20 = .ok (.iload 4, 2) := by decide +kernel
theorem dL_does_22 : decode cL_does 22 = .ok (.invokevirtual 64, 3) := by decide +kernel
theorem dL_does_25 : decode cL_does 25 = .ok (.goto 165, 3) := by decide +kernel
theorem dL_does_28 : decode cL_does 28 = .ok (.iload_n 1, 1) := by decide +kernel
theorem dL_does_29 : decode cL_does 29 = .ok (.iconst 2, 1) := by decide +kernel
theorem dL_does_30 : decode cL_does 30 = .ok (.if_icmp .ne 12, 3) := by decide +kernel
theorem dL_does_33 : decode cL_does 33 = .ok (.aload_n 0, 1) := by decide +kernel
theorem dL_does_34 : decode cL_does 34 = .ok (.iload_n 2, 1) := by decide +kernel
theorem dL_does_35 : decode cL_does 35 = .ok (.iload_n 3, 1) := by decide +kernel
theorem dL_does_36 : decode cL_does 36 = .ok (.invokevirtual 68, 3) := by decide +kernel
theorem dL_does_39 : decode cL_does 39 = .ok (.goto 151, 3) := by decide +kernel
theorem dL_does_42 : decode cL_does 42 = .ok (.iload_n 1, 1) := by decide +kernel
theorem dL_does_43 : decode cL_does 43 = .ok (.iconst 3, 1) := by decide +kernel
theorem dL_does_44 : decode cL_does 44 = .ok (.if_icmp .ne 12, 3) := by decide +kernel
theorem dL_does_47 : decode cL_does 47 = .ok (.aload_n 0, 1) := by decide +kernel
theorem dL_does_48 : decode cL_does 48 = .ok (.iload_n 2, 1) := by decide +kernel
theorem dL_does_49 : decode cL_does 49 = .ok (.iload_n 3, 1) := by decide +kernel
theorem dL_does_50 : decode cL_does 50 = .ok (.invokevirtual 72, 3) := by decide +kernel
theorem dL_does_53 : decode cL_does 53 = .ok (.goto 137, 3) := by decide +kernel
theorem dL_does_56 : decode cL_does 56 = .ok (.iload_n 1, 1) := by decide +kernel
theorem dL_does_57 : decode cL_does 57 = .ok (.iconst 4, 1) := by decide +kernel
theorem dL_does_58 : decode cL_does 58 = .ok (.if_icmp .ne 12, 3) := by decide +kernel
theorem dL_does_61 : decode cL_does 61 = .ok (.aload_n 0, 1) := by decide +kernel
theorem dL_does_62 : decode cL_does 62 = .ok (.iload_n 2, 1) := by decide +kernel
theorem dL_does_63 : decode cL_does 63 = .ok (.iload_n 3, 1) := by decide +kernel
theorem dL_does_64 : decode cL_does 64 = .ok (.invokevirtual 75, 3) := by decide +kernel
theorem dL_does_67 : decode cL_does 67 = .ok (.goto 123, 3) := by decide +kernel
theorem dL_does_70 : decode cL_does 70 = .ok (.iload_n 1, 1) := by decide +kernel
theorem dL_does_71 : decode cL_does 71 = .ok (.iconst 5, 1) := by decide +kernel
theorem dL_does_72 : decode cL_does 72 = .ok (.if_icmp .ne 12, 3) := by decide +kernel
theorem dL_does_75 : decode cL_does 75 = .ok (.aload_n 0, 1) := by decide +kernel
theorem dL_does_76 : decode cL_does 76 = .ok (.iload_n 2, 1) := by decide +kernel
theorem dL_does_77 : decode cL_does 77 = .ok (.iload_n 3, 1) := by decide +kernel
theorem dL_does_78 : decode cL_does 78 = .ok (.invokevirtual 78, 3) := by decide +kernel
theorem dL_does_81 : decode cL_does 81 = .ok (.goto 109, 3) := by decide +kernel
theorem dL_does_84 : decode cL_does 84 = .ok (.iload_n 1, 1) := by decide +kernel
theorem dL_does_85 : decode cL_does 85 = .ok (.bipush 6, 2) := by decide +kernel
theorem dL_does_87 : decode cL_does 87 = .ok (.if_icmp .ne 11, 3) := by decide +kernel
theorem dL_does_90 : decode cL_does 90 = .ok (.aload_n 0, 1) := by decide +kernel
theorem dL_does_91 : decode cL_does 91 = .ok (.iload_n 2, 1) := by decide +kernel
theorem dL_does_92 : decode cL_does 92 = .ok (.invokevirtual 81, 3) := by decide +kernel
theorem dL_does_95 : decode cL_does 95 = .ok (.goto 95, 3) := by decide +kernel
theorem dL_does_98 : decode cL_does 98 = .ok (.iload_n 1, 1) := by decide +kernel
theorem dL_does_99 : decode cL_does 99 = .ok (.bipush 7, 2) := by decide +kernel
theorem dL_does_101 : decode cL_does 101 = .ok (.if_icmp .ne 21, 3) := by decide +kernel
theorem dL_does_104 : decode cL_does 104 = .ok (.aload_n 0, 1) := by decide +kernel
theorem dL_does_105 : decode cL_does 105 = .ok (.iload_n 2, 1) := by decide +kernel
theorem dL_does_106 : decode cL_does 106 = .ok (.iload_n 3, 1) := by decide +kernel
theorem dL_does_107 : decode cL_does 107 = .ok (.iconst 1, 1) := by decide +kernel
theorem dL_does_108 : decode cL_does 108 = .ok (.if_icmp .ne 7, 3) := by decide +kernel
theorem dL_does_111 : decode cL_does 111 = .ok (.iconst 1, 1) := by decide +kernel
theorem dL_does_112 : decode cL_does 112 = .ok (.goto 4, 3) := by decide +kernel
theorem dL_does_115 : decode cL_does 115 = .ok (.iconst 0, 1) := by decide +kernel
theorem dL_does_116 : decode cL_does 116 = .ok (.invokevirtual 84, 3) := by decide +kernel
theorem dL_does_119 : decode cL_does 119 = .ok (.goto 71, 3) := by decide +kernel
theorem dL_does_122 : decode cL_does 122 = .ok (.iload_n 1, 1) := by decide +kernel
theorem dL_does_123 : decode cL_does 123 = .ok (.bipush 8, 2) := by decide +kernel
theorem dL_does_125 : decode cL_does 125 = .ok (.if_icmp .ne 14, 3) := by decide +kernel
theorem dL_does_128 : decode cL_does 128 = .ok (.aload_n 0, 1) := by decide +kernel
theorem dL_does_129 : decode cL_does 129 = .ok (.iload_n 2, 1) := by decide +kernel
theorem dL_does_130 : decode cL_does 130 = .ok (.iload_n 3, 1) := by decide +kernel
theorem dL_does_131 : decode cL_does 131 = .ok (.iload 4, 2) := by decide +kernel
theorem dL_does_133 : decode cL_does 133 = .ok (.invokevirtual 88, 3) := by decide +kernel
theorem dL_does_136 : decode cL_does 136 = .ok (.goto 54, 3) := by decide +kernel
theorem dL_does_139 : decode cL_does 139 = .ok (.iload_n 1, 1) := by decide +kernel
theorem dL_does_140 : decode cL_does 140 = .ok (.bipush 9, 2) := by decide +kernel
theorem dL_does_142 : decode cL_does 142 = .ok (.if_icmp .ne 12, 3) := by decide +kernel
theorem dL_does_145 : decode cL_does 145 = .ok (.aload_n 0, 1) := by decide +kernel
theorem dL_does_146 : decode cL_does 146 = .ok (.iload_n 2, 1) := by decide +kernel
theorem dL_does_147 : decode cL_does 147 = .ok (.iload_n 3, 1) := by decide +kernel
theorem dL_does_148 : decode cL_does 148 = .ok (.invokevirtual 91, 3) := by decide +kernel
theorem dL_does_151 : decode cL_does 151 = .ok (.goto 39, 3) := by decide +kernel
theorem dL_does_154 : decode cL_does 154 = .ok (.iload_n 1, 1) := by decide +kernel
theorem dL_does_155 : decode cL_does 155 = .ok (.bipush 10, 2) := by decide +kernel
theorem dL_does_157 : decode cL_does 157 = .ok (.if_icmp .ne 12, 3) := by decide +kernel
theorem dL_does_160 : decode cL_does 160 = .ok (.aload_n 0, 1) := by decide +kernel
theorem dL_does_161 : decode cL_does 161 = .ok (.iload_n 2, 1) := by decide +kernel
theorem dL_does_162 : decode cL_does 162 = .ok (.iload_n 3, 1) := by decide +kernel
theorem dL_does_163 : decode cL_does 163 = .ok (.invokevirtual 94, 3) := by decide +kernel
theorem dL_does_166 : decode cL_does 166 = .ok (.goto 24, 3) := by decide +kernel
theorem dL_does_169 : decode cL_does 169 = .ok (.iload_n 1, 1) := by decide +kernel
theorem dL_does_170 : decode cL_does 170 = .ok (.bipush 11, 2) := by decide +kernel
theorem dL_does_172 : decode cL_does 172 = .ok (.if_icmp .ne 12, 3) := by decide +kernel
theorem dL_does_175 : decode cL_does 175 = .ok (.aload_n 0, 1) := by decide +kernel
theorem dL_does_176 : decode cL_does 176 = .ok (.iload_n 2, 1) := by decide +kernel
theorem dL_does_177 : decode cL_does 177 = .ok (.iload_n 3, 1) := by decide +kernel
theorem dL_does_178 : decode cL_does 178 = .ok (.invokevirtual 97, 3) := by decide +kernel
theorem dL_does_181 : decode cL_does 181 = .ok (.goto 9, 3) := by decide +kernel
theorem dL_does_184 : decode cL_does 184 = .ok (.aload_n 0, 1) := by decide +kernel
theorem dL_does_185 : decode cL_does 185 = .ok (.iload_n 2, 1) := by decide +kernel
theorem dL_does_186 : decode cL_does 186 = .ok (.iload_n 3, 1) := by decide +kernel
theorem dL_does_187 : decode cL_does 187 = .ok (.invokevirtual 100, 3) := by decide +kernel
theorem dL_does_190 : decode cL_does 190 = .ok (.ireturn, 1) := by decide +kernel
theorem dL_does_191 : decode cL_does 191 = .ok (.astore 5, 2) := by decide +kernel
theorem dL_does_193 : decode cL_does 193 = .ok (.bipush (-11), 2) := by decide +kernel
theorem dL_does_195 : decode cL_does 195 = .ok (.ireturn, 1) := by decide +kernel
theorem dL_does_196 : decode cL_does 196 = .ok (.astore 5, 2) := by decide +kernel
theorem dL_does_198 : decode cL_does 198 = .ok (.bipush (-12), 2) := by decide +kernel
theorem dL_does_200 : decode cL_does 200 = .ok (.ireturn, 1) := by decide +kernel
theorem dL_does_201 : decode cL_does 201 = .ok (.astore 5, 2) := by decide +kernel
theorem dL_does_203 : decode cL_does 203 = .ok (.bipush (-13), 2) := by decide +kernel
theorem dL_does_205 : decode cL_does 205 = .ok (.ireturn, 1) := by decide +kernel
theorem dL_code_0 : decode cL_code 0 = .ok (.iload_n 0, 1) := by decide +kernel
theorem dL_code_1 : decode cL_code 1 = .ok (.bipush 16, 2) := by decide +kernel
theorem dL_code_3 : decode cL_code 3 = .ok (.irem, 1) := by decide +kernel
theorem dL_code_4 : decode cL_code 4 = .ok (.istore_n 2, 1) := by decide +kernel
theorem dL_code_5 : decode cL_code 5 = .ok (.iload_n 0, 1) := by decide +kernel
theorem dL_code_6 : decode cL_code 6 = .ok (.bipush 16, 2) := by decide +kernel
theorem dL_code_8 : decode cL_code 8 = .ok (.idiv, 1) := by decide +kernel
theorem dL_code_9 : decode cL_code 9 = .ok (.istore_n 3, 1) := by decide +kernel
theorem dL_code_10 : decode cL_code 10 = .ok (.iload_n 2, 1) := by decide +kernel
theorem dL_code_11 : decode cL_code 11 = .ok (.iconst 2, 1) := by decide +kernel
theorem dL_code_12 : decode cL_code 12 = .ok (.if_icmp .ne 28, 3) := by decide +kernel
theorem dL_code_15 : decode cL_code 15 = .ok (.iload_n 1, 1) := by decide +kernel
theorem dL_code_16 : decode cL_code 16 = .ok (.ifCond .ne 11, 3) := by decide +kernel
theorem dL_code_19 : decode cL_code 19 = .ok (.sipush 2000, 3) := by decide +kernel
theorem dL_code_22 : decode cL_code 22 = .ok (.iload_n 3, 1) := by decide +kernel
theorem dL_code_23 : decode cL_code 23 = .ok (.iadd, 1) := by decide +kernel
theorem dL_code_24 : decode cL_code 24 = .ok (.goto 15, 3) := by decide +kernel
theorem dL_code_27 : decode cL_code 27 = .ok (.iload_n 1, 1) := by decide +kernel
theorem dL_code_28 : decode cL_code 28 = .ok (.iconst 1, 1) := by decide +kernel
theorem dL_code_29 : decode cL_code 29 = .ok (.if_icmp .ne 9, 3) := by decide +kernel
theorem dL_code_32 : decode cL_code 32 = .ok (.sipush 7000, 3) := by decide +kernel
theorem dL_code_35 : decode cL_code 35 = .ok (.goto 4, 3) := by decide +kernel
theorem dL_code_38 : decode cL_code 38 = .ok (.iconst (-1), 1) := by decide +kernel
theorem dL_code_39 : decode cL_code 39 = .ok (.ireturn, 1) := by decide +kernel
theorem dL_code_40 : decode cL_code 40 = .ok (.iload_n 2, 1) := by decide +kernel
theorem dL_code_41 : decode cL_code 41 = .ok (.iconst 4, 1) := by decide +kernel
theorem dL_code_42 : decode cL_code 42 = .ok (.if_icmp .le 73, 3) := by decide +kernel
theorem dL_code_45 : decode cL_code 45 = .ok (.iload_n 2, 1) := by decide +kernel
theorem dL_code_46 : decode cL_code 46 = .ok (.bipush 8, 2) := by decide +kernel
theorem dL_code_48 : decode cL_code 48 = .ok (.if_icmp .ge 67, 3) := by decide +kernel
theorem dL_code_51 : decode cL_code 51 = .ok (.iload_n 1, 1) := by decide +kernel
theorem dL_code_52 : decode cL_code 52 = .ok (.ifCond .ne 30, 3) := by decide +kernel
theorem dL_code_55 : decode cL_code 55 = .ok (.sipush 4000, 3) := by decide +kernel
theorem dL_code_58 : decode cL_code 58 = .ok (.iload_n 2, 1) := by decide +kernel
theorem dL_code_59 : decode cL_code 59 = .ok (.iconst 5, 1) := by decide +kernel
theorem dL_code_60 : decode cL_code 60 = .ok (.if_icmp .ne 7, 3) := by decide +kernel
theorem dL_code_63 : decode cL_code 63 = .ok (.iconst 4, 1) := by decide +kernel
theorem dL_code_64 : decode cL_code 64 = .ok (.goto 14, 3) := by decide +kernel
theorem dL_code_67 : decode cL_code 67 = .ok (.iload_n 2, 1) := by decide +kernel
