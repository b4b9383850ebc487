theorem dX11_membersOf_23 : decode cX11_membersOf 23 = .ok (.ifCond .eq 9, 3) := by decide +kernel
theorem dX11_membersOf_26 : decode cX11_membersOf 26 = .ok (.iload_n 2, 1) := by decide +kernel
theorem dX11_membersOf_27 : decode cX11_membersOf 27 = .ok (.iconst 1, 1) := by decide +kernel
theorem dX11_membersOf_28 : decode cX11_membersOf 28 = .ok (.iload_n 3, 1) := by decide +kernel
theorem dX11_membersOf_29 : decode cX11_membersOf 29 = .ok (.ishl, 1) := by decide +kernel
theorem dX11_membersOf_30 : decode cX11_membersOf 30 = .ok (.ior, 1) := by decide +kernel
theorem dX11_membersOf_31 : decode cX11_membersOf 31 = .ok (.istore_n 2, 1) := by decide +kernel
theorem dX11_membersOf_32 : decode cX11_membersOf 32 = .ok (.iinc 3 1, 3) := by decide +kernel
theorem dX11_membersOf_35 : decode cX11_membersOf 35 = .ok (.goto (-31), 3) := by decide +kernel
theorem dX11_membersOf_38 : decode cX11_membersOf 38 = .ok (.iload_n 2, 1) := by decide +kernel
theorem dX11_membersOf_39 : decode cX11_membersOf 39 = .ok (.ireturn, 1) := by decide +kernel
theorem dX11_linkingTo_0 : decode cX11_linkingTo 0 = .ok (.iconst 0, 1) := by decide +kernel
theorem dX11_linkingTo_1 : decode cX11_linkingTo 1 = .ok (.istore_n 2, 1) := by decide +kernel
theorem dX11_linkingTo_2 : decode cX11_linkingTo 2 = .ok (.iconst 0, 1) := by decide +kernel
theorem dX11_linkingTo_3 : decode cX11_linkingTo 3 = .ok (.istore_n 3, 1) := by decide +kernel
theorem dX11_linkingTo_4 : decode cX11_linkingTo 4 = .ok (.iload_n 3, 1) := by decide +kernel
theorem dX11_linkingTo_5 : decode cX11_linkingTo 5 = .ok (.aload_n 0, 1) := by decide +kernel
theorem dX11_linkingTo_6 : decode cX11_linkingTo 6 = .ok (.getfield 20, 3) := by decide +kernel
theorem dX11_linkingTo_9 : decode cX11_linkingTo 9 = .ok (.arraylength, 1) := by decide +kernel
theorem dX11_linkingTo_10 : decode cX11_linkingTo 10 = .ok (.if_icmp .ge 34, 3) := by decide +kernel
theorem dX11_linkingTo_13 : decode cX11_linkingTo 13 = .ok (.aload_n 0, 1) := by decide +kernel
theorem dX11_linkingTo_14 : decode cX11_linkingTo 14 = .ok (.getfield 20, 3) := by decide +kernel
theorem dX11_linkingTo_17 : decode cX11_linkingTo 17 = .ok (.iload_n 3, 1) := by decide +kernel
theorem dX11_linkingTo_18 : decode cX11_linkingTo 18 = .ok (.aaload, 1) := by decide +kernel
theorem dX11_linkingTo_19 : decode cX11_linkingTo 19 = .ok (.getfield 260, 3) := by decide +kernel
theorem dX11_linkingTo_22 : decode cX11_linkingTo 22 = .ok (.getfield 315, 3) := by decide +kernel
theorem dX11_linkingTo_25 : decode cX11_linkingTo 25 = .ok (.iload_n 1, 1) := by decide +kernel
theorem dX11_linkingTo_26 : decode cX11_linkingTo 26 = .ok (.invokestatic 198, 3) := by decide +kernel
theorem dX11_linkingTo_29 : decode cX11_linkingTo 29 = .ok (.ifCond .eq 9, 3) := by decide +kernel
theorem dX11_linkingTo_32 : decode cX11_linkingTo 32 = .ok (.iload_n 2, 1) := by decide +kernel
theorem dX11_linkingTo_33 : decode cX11_linkingTo 33 = .ok (.iconst 1, 1) := by decide +kernel
theorem dX11_linkingTo_34 : decode cX11_linkingTo 34 = .ok (.iload_n 3, 1) := by decide +kernel
theorem dX11_linkingTo_35 : decode cX11_linkingTo 35 = .ok (.ishl, 1) := by decide +kernel
theorem dX11_linkingTo_36 : decode cX11_linkingTo 36 = .ok (.ior, 1) := by decide +kernel
theorem dX11_linkingTo_37 : decode cX11_linkingTo 37 = .ok (.istore_n 2, 1) := by decide +kernel
theorem dX11_linkingTo_38 : decode cX11_linkingTo 38 = .ok (.iinc 3 1, 3) := by decide +kernel
theorem dX11_linkingTo_41 : decode cX11_linkingTo 41 = .ok (.goto (-37), 3) := by decide +kernel
theorem dX11_linkingTo_44 : decode cX11_linkingTo 44 = .ok (.iload_n 2, 1) := by decide +kernel
theorem dX11_linkingTo_45 : decode cX11_linkingTo 45 = .ok (.ireturn, 1) := by decide +kernel
theorem dX11_wantedTitles_0 : decode cX11_wantedTitles 0 = .ok (.iconst 0, 1) := by decide +kernel
theorem dX11_wantedTitles_1 : decode cX11_wantedTitles 1 = .ok (.istore_n 1, 1) := by decide +kernel
theorem dX11_wantedTitles_2 : decode cX11_wantedTitles 2 = .ok (.iconst 0, 1) := by decide +kernel
theorem dX11_wantedTitles_3 : decode cX11_wantedTitles 3 = .ok (.istore_n 2, 1) := by decide +kernel
theorem dX11_wantedTitles_4 : decode cX11_wantedTitles 4 = .ok (.iload_n 2, 1) := by decide +kernel
theorem dX11_wantedTitles_5 : decode cX11_wantedTitles 5 = .ok (.aload_n 0, 1) := by decide +kernel
theorem dX11_wantedTitles_6 : decode cX11_wantedTitles 6 = .ok (.getfield 20, 3) := by decide +kernel
theorem dX11_wantedTitles_9 : decode cX11_wantedTitles 9 = .ok (.arraylength, 1) := by decide +kernel
theorem dX11_wantedTitles_10 : decode cX11_wantedTitles 10 = .ok (.if_icmp .ge 35, 3) := by decide +kernel
theorem dX11_wantedTitles_13 : decode cX11_wantedTitles 13 = .ok (.aload_n 0, 1) := by decide +kernel
theorem dX11_wantedTitles_14 : decode cX11_wantedTitles 14 = .ok (.getfield 20, 3) := by decide +kernel
theorem dX11_wantedTitles_17 : decode cX11_wantedTitles 17 = .ok (.iload_n 2, 1) := by decide +kernel
theorem dX11_wantedTitles_18 : decode cX11_wantedTitles 18 = .ok (.aaload, 1) := by decide +kernel
theorem dX11_wantedTitles_19 : decode cX11_wantedTitles 19 = .ok (.getfield 102, 3) := by decide +kernel
theorem dX11_wantedTitles_22 : decode cX11_wantedTitles 22 = .ok (.ifnonnull 17, 3) := by decide +kernel
theorem dX11_wantedTitles_25 : decode cX11_wantedTitles 25 = .ok (.aload_n 0, 1) := by decide +kernel
theorem dX11_wantedTitles_26 : decode cX11_wantedTitles 26 = .ok (.iload_n 2, 1) := by decide +kernel
theorem dX11_wantedTitles_27 : decode cX11_wantedTitles 27 = .ok (.invokevirtual 318, 3) := by decide +kernel
theorem dX11_wantedTitles_30 : decode cX11_wantedTitles 30 = .ok (.ifCond .eq 9, 3) := by decide +kernel
theorem dX11_wantedTitles_33 : decode cX11_wantedTitles 33 = .ok (.iload_n 1, 1) := by decide +kernel
theorem dX11_wantedTitles_34 : decode cX11_wantedTitles 34 = .ok (.iconst 1, 1) := by decide +kernel
theorem dX11_wantedTitles_35 : decode cX11_wantedTitles 35 = .ok (.iload_n 2, 1) := by decide +kernel
theorem dX11_wantedTitles_36 : decode cX11_wantedTitles 36 = .ok (.ishl, 1) := by decide +kernel
theorem dX11_wantedTitles_37 : decode cX11_wantedTitles 37 = .ok (.ior, 1) := by decide +kernel
theorem dX11_wantedTitles_38 : decode cX11_wantedTitles 38 = .ok (.istore_n 1, 1) := by decide +kernel
theorem dX11_wantedTitles_39 : decode cX11_wantedTitles 39 = .ok (.iinc 2 1, 3) := by decide +kernel
theorem dX11_wantedTitles_42 : decode cX11_wantedTitles 42 = .ok (.goto (-38), 3) := by decide +kernel
theorem dX11_wantedTitles_45 : decode cX11_wantedTitles 45 = .ok (.iload_n 1, 1) := by decide +kernel
theorem dX11_wantedTitles_46 : decode cX11_wantedTitles 46 = .ok (.ireturn, 1) := by decide +kernel
theorem dX11_lonelyTitles_0 : decode cX11_lonelyTitles 0 = .ok (.iconst 0, 1) := by decide +kernel
theorem dX11_lonelyTitles_1 : decode cX11_lonelyTitles 1 = .ok (.istore_n 1, 1) := by decide +kernel
theorem dX11_lonelyTitles_2 : decode cX11_lonelyTitles 2 = .ok (.iconst 0, 1) := by decide +kernel
theorem dX11_lonelyTitles_3 : decode cX11_lonelyTitles 3 = .ok (.istore_n 2, 1) := by decide +kernel
theorem dX11_lonelyTitles_4 : decode cX11_lonelyTitles 4 = .ok (.iload_n 2, 1) := by decide +kernel
theorem dX11_lonelyTitles_5 : decode cX11_lonelyTitles 5 = .ok (.aload_n 0, 1) := by decide +kernel
theorem dX11_lonelyTitles_6 : decode cX11_lonelyTitles 6 = .ok (.getfield 20, 3) := by decide +kernel
theorem dX11_lonelyTitles_9 : decode cX11_lonelyTitles 9 = .ok (.arraylength, 1) := by decide +kernel
theorem dX11_lonelyTitles_10 : decode cX11_lonelyTitles 10 = .ok (.if_icmp .ge 48, 3) := by decide +kernel
theorem dX11_lonelyTitles_13 : decode cX11_lonelyTitles 13 = .ok (.aload_n 0, 1) := by decide +kernel
theorem dX11_lonelyTitles_14 : decode cX11_lonelyTitles 14 = .ok (.getfield 20, 3) := by decide +kernel
theorem dX11_lonelyTitles_17 : decode cX11_lonelyTitles 17 = .ok (.iload_n 2, 1) := by decide +kernel
theorem dX11_lonelyTitles_18 : decode cX11_lonelyTitles 18 = .ok (.aaload, 1) := by decide +kernel
theorem dX11_lonelyTitles_19 : decode cX11_lonelyTitles 19 = .ok (.getfield 102, 3) := by decide +kernel
theorem dX11_lonelyTitles_22 : decode cX11_lonelyTitles 22 = .ok (.ifnull 30, 3) := by decide +kernel
theorem dX11_lonelyTitles_25 : decode cX11_lonelyTitles 25 = .ok (.aload_n 0, 1) := by decide +kernel
theorem dX11_lonelyTitles_26 : decode cX11_lonelyTitles 26 = .ok (.getfield 20, 3) := by decide +kernel
theorem dX11_lonelyTitles_29 : decode cX11_lonelyTitles 29 = .ok (.iload_n 2, 1) := by decide +kernel
theorem dX11_lonelyTitles_30 : decode cX11_lonelyTitles 30 = .ok (.aaload, 1) := by decide +kernel
theorem dX11_lonelyTitles_31 : decode cX11_lonelyTitles 31 = .ok (.getfield 102, 3) := by decide +kernel
theorem dX11_lonelyTitles_34 : decode cX11_lonelyTitles 34 = .ok (.getfield 148, 3) := by decide +kernel
theorem dX11_lonelyTitles_37 : decode cX11_lonelyTitles 37 = .ok (.getfield 130, 3) := by decide +kernel
theorem dX11_lonelyTitles_40 : decode cX11_lonelyTitles 40 = .ok (.invokevirtual 399, 3) := by decide +kernel
theorem dX11_lonelyTitles_43 : decode cX11_lonelyTitles 43 = .ok (.ifCond .ne 9, 3) := by decide +kernel
theorem dX11_lonelyTitles_46 : decode cX11_lonelyTitles 46 = .ok (.iload_n 1, 1) := by decide +kernel
theorem dX11_lonelyTitles_47 : decode cX11_lonelyTitles 47 = .ok (.iconst 1, 1) := by decide +kernel
theorem dX11_lonelyTitles_48 : decode cX11_lonelyTitles 48 = .ok (.iload_n 2, 1) := by decide +kernel
theorem dX11_lonelyTitles_49 : decode cX11_lonelyTitles 49 = .ok (.ishl, 1) := by decide +kernel
theorem dX11_lonelyTitles_50 : decode cX11_lonelyTitles 50 = .ok (.ior, 1) := by decide +kernel
theorem dX11_lonelyTitles_51 : decode cX11_lonelyTitles 51 = .ok (.istore_n 1, 1) := by decide +kernel
theorem dX11_lonelyTitles_52 : decode cX11_lonelyTitles 52 = .ok (.iinc 2 1, 3) := by decide +kernel
theorem dX11_lonelyTitles_55 : decode cX11_lonelyTitles 55 = .ok (.goto (-51), 3) := by decide +kernel
theorem dX11_lonelyTitles_58 : decode cX11_lonelyTitles 58 = .ok (.iconst 0, 1) := by decide +kernel
theorem dX11_lonelyTitles_59 : decode cX11_lonelyTitles 59 = .ok (.istore_n 2, 1) := by decide +kernel
theorem dX11_lonelyTitles_60 : decode cX11_lonelyTitles 60 = .ok (.iload_n 2, 1) := by decide +kernel
theorem dX11_lonelyTitles_61 : decode cX11_lonelyTitles 61 = .ok (.aload_n 0, 1) := by decide +kernel
theorem dX11_lonelyTitles_62 : decode cX11_lonelyTitles 62 = .ok (.getfield 20, 3) := by decide +kernel
theorem dX11_lonelyTitles_65 : decode cX11_lonelyTitles 65 = .ok (.arraylength, 1) := by decide +kernel
theorem dX11_lonelyTitles_66 : decode cX11_lonelyTitles 66 = .ok (.if_icmp .ge 46, 3) := by decide +kernel
theorem dX11_lonelyTitles_69 : decode cX11_lonelyTitles 69 = .ok (.aload_n 0, 1) := by decide +kernel
theorem dX11_lonelyTitles_70 : decode cX11_lonelyTitles 70 = .ok (.getfield 10, 3) := by decide +kernel
theorem dX11_lonelyTitles_73 : decode cX11_lonelyTitles 73 = .ok (.iload_n 2, 1) := by decide +kernel
theorem dX11_lonelyTitles_74 : decode cX11_lonelyTitles 74 = .ok (.iconst (-1), 1) := by decide +kernel
theorem dX11_lonelyTitles_75 : decode cX11_lonelyTitles 75 = .ok (.invokevirtual 294, 3) := by decide +kernel
theorem dX11_lonelyTitles_78 : decode cX11_lonelyTitles 78 = .ok (.istore_n 3, 1) := by decide +kernel
theorem dX11_lonelyTitles_79 : decode cX11_lonelyTitles 79 = .ok (.iload_n 3, 1) := by decide +kernel
theorem dX11_lonelyTitles_80 : decode cX11_lonelyTitles 80 = .ok (.iconst (-1), 1) := by decide +kernel
theorem dX11_lonelyTitles_81 : decode cX11_lonelyTitles 81 = .ok (.if_icmp .eq 25, 3) := by decide +kernel
theorem dX11_lonelyTitles_84 : decode cX11_lonelyTitles 84 = .ok (.aload_n 0, 1) := by decide +kernel
theorem dX11_lonelyTitles_85 : decode cX11_lonelyTitles 85 = .ok (.iload_n 2, 1) := by decide +kernel
theorem dX11_lonelyTitles_86 : decode cX11_lonelyTitles 86 = .ok (.invokevirtual 318, 3) := by decide +kernel
theorem dX11_lonelyTitles_89 : decode cX11_lonelyTitles 89 = .ok (.iconst 1, 1) := by decide +kernel
theorem dX11_lonelyTitles_90 : decode cX11_lonelyTitles 90 = .ok (.iload_n 3, 1) := by decide +kernel
theorem dX11_lonelyTitles_91 : decode cX11_lonelyTitles 91 = .ok (.ishl, 1) := by decide +kernel
theorem dX11_lonelyTitles_92 : decode cX11_lonelyTitles 92 = .ok (.iconst (-1), 1) := by decide +kernel
theorem dX11_lonelyTitles_93 : decode cX11_lonelyTitles 93 = .ok (.ixor, 1) := by decide +kernel
theorem dX11_lonelyTitles_94 : decode cX11_lonelyTitles 94 = .ok (.iand, 1) := by decide +kernel
theorem dX11_lonelyTitles_95 : decode cX11_lonelyTitles 95 = .ok (.ifCond .eq 11, 3) := by decide +kernel
theorem dX11_lonelyTitles_98 : decode cX11_lonelyTitles 98 = .ok (.iload_n 1, 1) := by decide +kernel
theorem dX11_lonelyTitles_99 : decode cX11_lonelyTitles 99 = .ok (.iconst 1, 1) := by decide +kernel
theorem dX11_lonelyTitles_100 : decode cX11_lonelyTitles 100 = .ok (.iload_n 3, 1) := by decide +kernel
theorem dX11_lonelyTitles_101 : decode cX11_lonelyTitles 101 = .ok (.ishl, 1) := by decide +kernel
theorem dX11_lonelyTitles_102 : decode cX11_lonelyTitles 102 = .ok (.iconst (-1), 1) := by decide +kernel
theorem dX11_lonelyTitles_103 : decode cX11_lonelyTitles 103 = .ok (.ixor, 1) := by decide +kernel
theorem dX11_lonelyTitles_104 : decode cX11_lonelyTitles 104 = .ok (.iand, 1) := by decide +kernel
theorem dX11_lonelyTitles_105 : decode cX11_lonelyTitles 105 = .ok (.istore_n 1, 1) := by decide +kernel
theorem dX11_lonelyTitles_106 : decode cX11_lonelyTitles 106 = .ok (.iinc 2 1, 3) := by decide +kernel
theorem dX11_lonelyTitles_109 : decode cX11_lonelyTitles 109 = .ok (.goto (-49), 3) := by decide +kernel
theorem dX11_lonelyTitles_112 : decode cX11_lonelyTitles 112 = .ok (.iload_n 1, 1) := by decide +kernel
theorem dX11_lonelyTitles_113 : decode cX11_lonelyTitles 113 = .ok (.ireturn, 1) := by decide +kernel
theorem dX12_init_0 : decode cX12_init 0 = .ok (.aload_n 0, 1) := by decide +kernel
theorem dX12_init_1 : decode cX12_init 1 = .ok (.invokespecial 1, 3) := by decide +kernel
theorem dX12_init_4 : decode cX12_init 4 = .ok (.aload_n 0, 1) := by decide +kernel
theorem dX12_init_5 : decode cX12_init 5 = .ok (.bipush 30, 2) := by decide +kernel
theorem dX12_init_7 : decode cX12_init 7 = .ok (.newarray .int, 2) := by decide +kernel
theorem dX12_init_9 : decode cX12_init 9 = .ok (.putfield 7, 3) := by decide +kernel
theorem dX12_init_12 : decode cX12_init 12 = .ok (.aload_n 0, 1) := by decide +kernel
theorem dX12_init_13 : decode cX12_init 13 = .ok (.bipush 24, 2) := by decide +kernel
theorem dX12_init_15 : decode cX12_init 15 = .ok (.newarray .int, 2) := by decide +kernel
theorem dX12_init_17 : decode cX12_init 17 = .ok (.putfield 13, 3) := by decide +kernel
theorem dX12_init_20 : decode cX12_init 20 = .ok (.aload_n 0, 1) := by decide +kernel
theorem dX12_init_21 : decode cX12_init 21 = .ok (.bipush 24, 2) := by decide +kernel
theorem dX12_init_23 : decode cX12_init 23 = .ok (.newarray .int, 2) := by decide +kernel
theorem dX12_init_25 : decode cX12_init 25 = .ok (.putfield 16, 3) := by decide +kernel
theorem dX12_init_28 : decode cX12_init 28 = .ok (.aload_n 0, 1) := by decide +kernel
theorem dX12_init_29 : decode cX12_init 29 = .ok (.bipush 24, 2) := by decide +kernel
theorem dX12_init_31 : decode cX12_init 31 = .ok (.newarray .int, 2) := by decide +kernel
theorem dX12_init_33 : decode cX12_init 33 = .ok (.putfield 19, 3) := by decide +kernel
theorem dX12_init_36 : decode cX12_init 36 = .ok (.aload_n 0, 1) := by decide +kernel
theorem dX12_init_37 : decode cX12_init 37 = .ok (.sipush 3600, 3) := by decide +kernel
theorem dX12_init_40 : decode cX12_init 40 = .ok (.newarray .int, 2) := by decide +kernel
theorem dX12_init_42 : decode cX12_init 42 = .ok (.putfield 22, 3) := by decide +kernel
theorem dX12_init_45 : decode cX12_init 45 = .ok (.aload_n 0, 1) := by decide +kernel
theorem dX12_init_46 : decode cX12_init 46 = .ok (.bipush 120, 2) := by decide +kernel
theorem dX12_init_48 : decode cX12_init 48 = .ok (.newarray .int, 2) := by decide +kernel
theorem dX12_init_50 : decode cX12_init 50 = .ok (.putfield 25, 3) := by decide +kernel
theorem dX12_init_53 : decode cX12_init 53 = .ok (.aload_n 0, 1) := by decide +kernel
theorem dX12_init_54 : decode cX12_init 54 = .ok (.bipush 120, 2) := by decide +kernel
theorem dX12_init_56 : decode cX12_init 56 = .ok (.newarray .int, 2) := by decide +kernel
theorem dX12_init_58 : decode cX12_init 58 = .ok (.putfield 28, 3) := by decide +kernel
theorem dX12_init_61 : decode cX12_init 61 = .ok (.aload_n 0, 1) := by decide +kernel
theorem dX12_init_62 : decode cX12_init 62 = .ok (.bipush 120, 2) := by decide +kernel
theorem dX12_init_64 : decode cX12_init 64 = .ok (.newarray .int, 2) := by decide +kernel
theorem dX12_init_66 : decode cX12_init 66 = .ok (.putfield 31, 3) := by decide +kernel
theorem dX12_init_69 : decode cX12_init 69 = .ok (.aload_n 0, 1) := by decide +kernel
theorem dX12_init_70 : decode cX12_init 70 = .ok (.sipush 2000, 3) := by decide +kernel
theorem dX12_init_73 : decode cX12_init 73 = .ok (.newarray .int, 2) := by decide +kernel
theorem dX12_init_75 : decode cX12_init 75 = .ok (.putfield 34, 3) := by decide +kernel
theorem dX12_init_78 : decode cX12_init 78 = .ok (.aload_n 0, 1) := by decide +kernel
theorem dX12_init_79 : decode cX12_init 79 = .ok (.sipush 2000, 3) := by decide +kernel
theorem dX12_init_82 : decode cX12_init 82 = .ok (.newarray .int, 2) := by decide +kernel
theorem dX12_init_84 : decode cX12_init 84 = .ok (.putfield 37, 3) := by decide +kernel
theorem dX12_init_87 : decode cX12_init 87 = .ok (.aload_n 0, 1) := by decide +kernel
theorem dX12_init_88 : decode cX12_init 88 = .ok (.sipush 2000, 3) := by decide +kernel
theorem dX12_init_91 : decode cX12_init 91 = .ok (.newarray .int, 2) := by decide +kernel
theorem dX12_init_93 : decode cX12_init 93 = .ok (.putfield 40, 3) := by decide +kernel
theorem dX12_init_96 : decode cX12_init 96 = .ok (.aload_n 0, 1) := by decide +kernel
theorem dX12_init_97 : decode cX12_init 97 = .ok (.bipush 48, 2) := by decide +kernel
theorem dX12_init_99 : decode cX12_init 99 = .ok (.newarray .int, 2) := by decide +kernel
theorem dX12_init_101 : decode cX12_init 101 = .ok (.putfield 43, 3) := by decide +kernel
theorem dX12_init_104 : decode cX12_init 104 = .ok (.aload_n 0, 1) := by decide +kernel
theorem dX12_init_105 : decode cX12_init 105 = .ok (.bipush 48, 2) := by decide +kernel
theorem dX12_init_107 : decode cX12_init 107 = .ok (.newarray .int, 2) := by decide +kernel
theorem dX12_init_109 : decode cX12_init 109 = .ok (.putfield 46, 3) := by decide +kernel
theorem dX12_init_112 : decode cX12_init 112 = .ok (.aload_n 0, 1) := by decide +kernel
theorem dX12_init_113 : decode cX12_init 113 = .ok (.bipush 64, 2) := by decide +kernel
theorem dX12_init_115 : decode cX12_init 115 = .ok (.newarray .int, 2) := by decide +kernel
theorem dX12_init_117 : decode cX12_init 117 = .ok (.putfield 49, 3) := by decide +kernel
theorem dX12_init_120 : decode cX12_init 120 = .ok (.aload_n 0, 1) := by decide +kernel
theorem dX12_init_121 : decode cX12_init 121 = .ok (.bipush 64, 2) := by decide +kernel
theorem dX12_init_123 : decode cX12_init 123 = .ok (.newarray .int, 2) := by decide +kernel
theorem dX12_init_125 : decode cX12_init 125 = .ok (.putfield 52, 3) := by decide +kernel
theorem dX12_init_128 : decode cX12_init 128 = .ok (.aload_n 0, 1) := by decide +kernel
theorem dX12_init_129 : decode cX12_init 129 = .ok (.iconst 4, 1) := by decide +kernel
theorem dX12_init_130 : decode cX12_init 130 = .ok (.newarray .int, 2) := by decide +kernel
theorem dX12_init_132 : decode cX12_init 132 = .ok (.putfield 55, 3) := by decide +kernel
theorem dX12_init_135 : decode cX12_init 135 = .ok (.aload_n 0, 1) := by decide +kernel
theorem dX12_init_136 : decode cX12_init 136 = .ok (.bipush 24, 2) := by decide +kernel
theorem dX12_init_138 : decode cX12_init 138 = .ok (.newarray .int, 2) := by decide +kernel
theorem dX12_init_140 : decode cX12_init 140 = .ok (.putfield 58, 3) := by decide +kernel
theorem dX12_init_143 : decode cX12_init 143 = .ok (.aload_n 0, 1) := by decide +kernel
theorem dX12_init_144 : decode cX12_init 144 = .ok (.bipush 8, 2) := by decide +kernel
theorem dX12_init_146 : decode cX12_init 146 = .ok (.newarray .int, 2) := by decide +kernel
theorem dX12_init_148 : decode cX12_init 148 = .ok (.putfield 61, 3) := by decide +kernel
theorem dX12_init_151 : decode cX12_init 151 = .ok (.aload_n 0, 1) := by decide +kernel
theorem dX12_init_152 : decode cX12_init 152 = .ok (.iconst 4, 1) := by decide +kernel
theorem dX12_init_153 : decode cX12_init 153 = .ok (.newarray .int, 2) := by decide +kernel
theorem dX12_init_155 : decode cX12_init 155 = .ok (.putfield 64, 3) := by decide +kernel
theorem dX12_init_158 : decode cX12_init 158 = .ok (.aload_n 0, 1) := by decide +kernel
theorem dX12_init_159 : decode cX12_init 159 = .ok (.bipush 24, 2) := by decide +kernel
theorem dX12_init_161 : decode cX12_init 161 = .ok (.newarray .int, 2) := by decide +kernel
theorem dX12_init_163 : decode cX12_init 163 = .ok (.putfield 67, 3) := by decide +kernel
theorem dX12_init_166 : decode cX12_init 166 = .ok (.aload_n 0, 1) := by decide +kernel
theorem dX12_init_167 : decode cX12_init 167 = .ok (.bipush 24, 2) := by decide +kernel
theorem dX12_init_169 : decode cX12_init 169 = .ok (.newarray .boolean, 2) := by decide +kernel
theorem dX12_init_171 : decode cX12_init 171 = .ok (.putfield 70, 3) := by decide +kernel
theorem dX12_init_174 : decode cX12_init 174 = .ok (.aload_n 0, 1) := by decide +kernel
theorem dX12_init_175 : decode cX12_init 175 = .ok (.bipush 24, 2) := by decide +kernel
theorem dX12_init_177 : decode cX12_init 177 = .ok (.newarray .int, 2) := by decide +kernel
theorem dX12_init_179 : decode cX12_init 179 = .ok (.putfield 74, 3) := by decide +kernel
theorem dX12_init_182 : decode cX12_init 182 = .ok (.aload_n 0, 1) := by decide +kernel
theorem dX12_init_183 : decode cX12_init 183 = .ok (.sipush 3600, 3) := by decide +kernel
theorem dX12_init_186 : decode cX12_init 186 = .ok (.newarray .int, 2) := by decide +kernel
theorem dX12_init_188 : decode cX12_init 188 = .ok (.putfield 77, 3) := by decide +kernel
theorem dX12_init_191 : decode cX12_init 191 = .ok (.aload_n 0, 1) := by decide +kernel
theorem dX12_init_192 : decode cX12_init 192 = .ok (.bipush 24, 2) := by decide +kernel
theorem dX12_init_194 : decode cX12_init 194 = .ok (.newarray .int, 2) := by decide +kernel
theorem dX12_init_196 : decode cX12_init 196 = .ok (.putfield 80, 3) := by decide +kernel
theorem dX12_init_199 : decode cX12_init 199 = .ok (.aload_n 0, 1) := by decide +kernel
theorem dX12_init_200 : decode cX12_init 200 = .ok (.bipush 24, 2) := by decide +kernel
theorem dX12_init_202 : decode cX12_init 202 = .ok (.newarray .int, 2) := by decide +kernel
theorem dX12_init_204 : decode cX12_init 204 = .ok (.putfield 83, 3) := by decide +kernel
theorem dX12_init_207 : decode cX12_init 207 = .ok (.aload_n 0, 1) := by decide +kernel
theorem dX12_init_208 : decode cX12_init 208 = .ok (.bipush 24, 2) := by decide +kernel
theorem dX12_init_210 : decode cX12_init 210 = .ok (.newarray .int, 2) := by decide +kernel
theorem dX12_init_212 : decode cX12_init 212 = .ok (.putfield 86, 3) := by decide +kernel
theorem dX12_init_215 : decode cX12_init 215 = .ok (.aload_n 0, 1) := by decide +kernel
theorem dX12_init_216 : decode cX12_init 216 = .ok (.bipush 24, 2) := by decide +kernel
theorem dX12_init_218 : decode cX12_init 218 = .ok (.newarray .int, 2) := by decide +kernel
theorem dX12_init_220 : decode cX12_init 220 = .ok (.putfield 89, 3) := by decide +kernel
theorem dX12_init_223 : decode cX12_init 223 = .ok (.aload_n 0, 1) := by decide +kernel
theorem dX12_init_224 : decode cX12_init 224 = .ok (.bipush 24, 2) := by decide +kernel
theorem dX12_init_226 : decode cX12_init 226 = .ok (.newarray .int, 2) := by decide +kernel
theorem dX12_init_228 : decode cX12_init 228 = .ok (.putfield 92, 3) := by decide +kernel
theorem dX12_init_231 : decode cX12_init 231 = .ok (.aload_n 0, 1) := by decide +kernel
theorem dX12_init_232 : decode cX12_init 232 = .ok (.bipush 24, 2) := by decide +kernel
theorem dX12_init_234 : decode cX12_init 234 = .ok (.newarray .int, 2) := by decide +kernel
theorem dX12_init_236 : decode cX12_init 236 = .ok (.putfield 95, 3) := by decide +kernel
theorem dX12_init_239 : decode cX12_init 239 = .ok (.aload_n 0, 1) := by decide +kernel
theorem dX12_init_240 : decode cX12_init 240 = .ok (.bipush 61, 2) := by decide +kernel
theorem dX12_init_242 : decode cX12_init 242 = .ok (.newarray .int, 2) := by decide +kernel
theorem dX12_init_244 : decode cX12_init 244 = .ok (.putfield 98, 3) := by decide +kernel
theorem dX12_init_247 : decode cX12_init 247 = .ok (.aload_n 0, 1) := by decide +kernel
theorem dX12_init_248 : decode cX12_init 248 = .ok (.bipush 61, 2) := by decide +kernel
theorem dX12_init_250 : decode cX12_init 250 = .ok (.newarray .int, 2) := by decide +kernel
theorem dX12_init_252 : decode cX12_init 252 = .ok (.putfield 101, 3) := by decide +kernel
theorem dX12_init_255 : decode cX12_init 255 = .ok (.aload_n 0, 1) := by decide +kernel
theorem dX12_init_256 : decode cX12_init 256 = .ok (.bipush 41, 2) := by decide +kernel
theorem dX12_init_258 : decode cX12_init 258 = .ok (.newarray .int, 2) := by decide +kernel
theorem dX12_init_260 : decode cX12_init 260 = .ok (.putfield 104, 3) := by decide +kernel
theorem dX12_init_263 : decode cX12_init 263 = .ok (.aload_n 0, 1) := by decide +kernel
theorem dX12_init_264 : decode cX12_init 264 = .ok (.bipush 41, 2) := by decide +kernel
theorem dX12_init_266 : decode cX12_init 266 = .ok (.newarray .int, 2) := by decide +kernel
theorem dX12_init_268 : decode cX12_init 268 = .ok (.putfield 107, 3) := by decide +kernel
theorem dX12_init_271 : decode cX12_init 271 = .ok (.aload_n 0, 1) := by decide +kernel
theorem dX12_init_272 : decode cX12_init 272 = .ok (.bipush 41, 2) := by decide +kernel
theorem dX12_init_274 : decode cX12_init 274 = .ok (.newarray .int, 2) := by decide +kernel
theorem dX12_init_276 : decode cX12_init 276 = .ok (.putfield 110, 3) := by decide +kernel
theorem dX12_init_279 : decode cX12_init 279 = .ok (.aload_n 0, 1) := by decide +kernel
theorem dX12_init_280 : decode cX12_init 280 = .ok (.bipush 41, 2) := by decide +kernel
theorem dX12_init_282 : decode cX12_init 282 = .ok (.newarray .int, 2) := by decide +kernel
theorem dX12_init_284 : decode cX12_init 284 = .ok (.putfield 113, 3) := by decide +kernel
theorem dX12_init_287 : decode cX12_init 287 = .ok (.aload_n 0, 1) := by decide +kernel
theorem dX12_init_288 : decode cX12_init 288 = .ok (.sipush 410, 3) := by decide +kernel
theorem dX12_init_291 : decode cX12_init 291 = .ok (.newarray .int, 2) := by decide +kernel
theorem dX12_init_293 : decode cX12_init 293 = .ok (.putfield 116, 3) := by decide +kernel
theorem dX12_init_296 : decode cX12_init 296 = .ok (.aload_n 0, 1) := by decide +kernel
theorem dX12_init_297 : decode cX12_init 297 = .ok (.sipush 410, 3) := by decide +kernel
theorem dX12_init_300 : decode cX12_init 300 = .ok (.newarray .int, 2) := by decide +kernel
theorem dX12_init_302 : decode cX12_init 302 = .ok (.putfield 119, 3) := by decide +kernel
theorem dX12_init_305 : decode cX12_init 305 = .ok (.aload_n 0, 1) := by decide +kernel
theorem dX12_init_306 : decode cX12_init 306 = .ok (.sipush 410, 3) := by decide +kernel
theorem dX12_init_309 : decode cX12_init 309 = .ok (.newarray .int, 2) := by decide +kernel
theorem dX12_init_311 : decode cX12_init 311 = .ok (.putfield 122, 3) := by decide +kernel
theorem dX12_init_314 : decode cX12_init 314 = .ok (.aload_n 0, 1) := by decide +kernel
theorem dX12_init_315 : decode cX12_init 315 = .ok (.sipush 1700, 3) := by decide +kernel
theorem dX12_init_318 : decode cX12_init 318 = .ok (.newarray .int, 2) := by decide +kernel
theorem dX12_init_320 : decode cX12_init 320 = .ok (.putfield 125, 3) := by decide +kernel
theorem dX12_init_323 : decode cX12_init 323 = .ok (.aload_n 0, 1) := by decide +kernel
theorem dX12_init_324 : decode cX12_init 324 = .ok (.ldc 128, 2) := by decide +kernel
theorem dX12_init_326 : decode cX12_init 326 = .ok (.newarray .int, 2) := by decide +kernel
theorem dX12_init_328 : decode cX12_init 328 = .ok (.putfield 129, 3) := by decide +kernel
theorem dX12_init_331 : decode cX12_init 331 = .ok (.aload_n 0, 1) := by decide +kernel
theorem dX12_init_332 : decode cX12_init 332 = .ok (.sipush 700, 3) := by decide +kernel
theorem dX12_init_335 : decode cX12_init 335 = .ok (.newarray .int, 2) := by decide +kernel
theorem dX12_init_337 : decode cX12_init 337 = .ok (.putfield 132, 3) := by decide +kernel
theorem dX12_init_340 : decode cX12_init 340 = .ok (.aload_n 0, 1) := by decide +kernel
theorem dX12_init_341 : decode cX12_init 341 = .ok (.sipush 700, 3) := by decide +kernel
theorem dX12_init_344 : decode cX12_init 344 = .ok (.newarray .int, 2) := by decide +kernel
theorem dX12_init_346 : decode cX12_init 346 = .ok (.putfield 135, 3) := by decide +kernel
theorem dX12_init_349 : decode cX12_init 349 = .ok (.aload_n 0, 1) := by decide +kernel
theorem dX12_init_350 : decode cX12_init 350 = .ok (.sipush 700, 3) := by decide +kernel
theorem dX12_init_353 : decode cX12_init 353 = .ok (.newarray .int, 2) := by decide +kernel
theorem dX12_init_355 : decode cX12_init 355 = .ok (.putfield 138, 3) := by decide +kernel
theorem dX12_init_358 : decode cX12_init 358 = .ok (.aload_n 0, 1) := by decide +kernel
theorem dX12_init_359 : decode cX12_init 359 = .ok (.sipush 700, 3) := by decide +kernel
theorem dX12_init_362 : decode cX12_init 362 = .ok (.newarray .int, 2) := by decide +kernel
theorem dX12_init_364 : decode cX12_init 364 = .ok (.putfield 141, 3) := by decide +kernel
theorem dX12_init_367 : decode cX12_init 367 = .ok (.aload_n 0, 1) := by decide +kernel
theorem dX12_init_368 : decode cX12_init 368 = .ok (.sipush 22400, 3) := by decide +kernel
theorem dX12_init_371 : decode cX12_init 371 = .ok (.newarray .int, 2) := by decide +kernel
theorem dX12_init_373 : decode cX12_init 373 = .ok (.putfield 144, 3) := by decide +kernel
theorem dX12_init_376 : decode cX12_init 376 = .ok (.aload_n 0, 1) := by decide +kernel
theorem dX12_init_377 : decode cX12_init 377 = .ok (.sipush 22400, 3) := by decide +kernel
theorem dX12_init_380 : decode cX12_init 380 = .ok (.newarray .int, 2) := by decide +kernel
theorem dX12_init_382 : decode cX12_init 382 = .ok (.putfield 147, 3) := by decide +kernel
theorem dX12_init_385 : decode cX12_init 385 = .ok (.aload_n 0, 1) := by decide +kernel
theorem dX12_init_386 : decode cX12_init 386 = .ok (.sipush 22400, 3) := by decide +kernel
theorem dX12_init_389 : decode cX12_init 389 = .ok (.newarray .int, 2) := by decide +kernel
theorem dX12_init_391 : decode cX12_init 391 = .ok (.putfield 150, 3) := by decide +kernel
theorem dX12_init_394 : decode cX12_init 394 = .ok (.aload_n 0, 1) := by decide +kernel
theorem dX12_init_395 : decode cX12_init 395 = .ok (.sipush 4000, 3) := by decide +kernel
theorem dX12_init_398 : decode cX12_init 398 = .ok (.newarray .int, 2) := by decide +kernel
theorem dX12_init_400 : decode cX12_init 400 = .ok (.putfield 153, 3) := by decide +kernel
theorem dX12_init_403 : decode cX12_init 403 = .ok (.aload_n 0, 1) := by decide +kernel
theorem dX12_init_404 : decode cX12_init 404 = .ok (.sipush 4000, 3) := by decide +kernel
theorem dX12_init_407 : decode cX12_init 407 = .ok (.newarray .int, 2) := by decide +kernel
theorem dX12_init_409 : decode cX12_init 409 = .ok (.putfield 156, 3) := by decide +kernel
theorem dX12_init_412 : decode cX12_init 412 = .ok (.aload_n 0, 1) := by decide +kernel
theorem dX12_init_413 : decode cX12_init 413 = .ok (.sipush 4000, 3) := by decide +kernel
theorem dX12_init_416 : decode cX12_init 416 = .ok (.newarray .int, 2) := by decide +kernel
theorem dX12_init_418 : decode cX12_init 418 = .ok (.putfield 159, 3) := by decide +kernel
theorem dX12_init_421 : decode cX12_init 421 = .ok (.aload_n 0, 1) := by decide +kernel
theorem dX12_init_422 : decode cX12_init 422 = .ok (.sipush 4000, 3) := by decide +kernel
theorem dX12_init_425 : decode cX12_init 425 = .ok (.newarray .int, 2) := by decide +kernel
theorem dX12_init_427 : decode cX12_init 427 = .ok (.putfield 162, 3) := by decide +kernel
theorem dX12_init_430 : decode cX12_init 430 = .ok (.aload_n 0, 1) := by decide +kernel
theorem dX12_init_431 : decode cX12_init 431 = .ok (.sipush 4000, 3) := by decide +kernel
theorem dX12_init_434 : decode cX12_init 434 = .ok (.newarray .int, 2) := by decide +kernel
theorem dX12_init_436 : decode cX12_init 436 = .ok (.putfield 165, 3) := by decide +kernel
theorem dX12_init_439 : decode cX12_init 439 = .ok (.aload_n 0, 1) := by decide +kernel
theorem dX12_init_440 : decode cX12_init 440 = .ok (.bipush 9, 2) := by decide +kernel
theorem dX12_init_442 : decode cX12_init 442 = .ok (.newarray .int, 2) := by decide +kernel
theorem dX12_init_444 : decode cX12_init 444 = .ok (.putfield 168, 3) := by decide +kernel
theorem dX12_init_447 : decode cX12_init 447 = .ok (.aload_n 0, 1) := by decide +kernel
theorem dX12_init_448 : decode cX12_init 448 = .ok (.bipush 60, 2) := by decide +kernel
theorem dX12_init_450 : decode cX12_init 450 = .ok (.newarray .int, 2) := by decide +kernel
theorem dX12_init_452 : decode cX12_init 452 = .ok (.putfield 171, 3) := by decide +kernel
theorem dX12_init_455 : decode cX12_init 455 = .ok (.aload_n 0, 1) := by decide +kernel
theorem dX12_init_456 : decode cX12_init 456 = .ok (.sipush 200, 3) := by decide +kernel
theorem dX12_init_459 : decode cX12_init 459 = .ok (.newarray .int, 2) := by decide +kernel
theorem dX12_init_461 : decode cX12_init 461 = .ok (.putfield 174, 3) := by decide +kernel
theorem dX12_init_464 : decode cX12_init 464 = .ok (.aload_n 0, 1) := by decide +kernel
theorem dX12_init_465 : decode cX12_init 465 = .ok (.iconst 1, 1) := by decide +kernel
theorem dX12_init_466 : decode cX12_init 466 = .ok (.newarray .int, 2) := by decide +kernel
theorem dX12_init_468 : decode cX12_init 468 = .ok (.putfield 177, 3) := by decide +kernel
theorem dX12_init_471 : decode cX12_init 471 = .ok (.iconst 0, 1) := by decide +kernel
theorem dX12_init_472 : decode cX12_init 472 = .ok (.istore_n 1, 1) := by decide +kernel
theorem dX12_init_473 : decode cX12_init 473 = .ok (.iload_n 1, 1) := by decide +kernel
theorem dX12_init_474 : decode cX12_init 474 = .ok (.bipush 24, 2) := by decide +kernel
theorem dX12_init_476 : decode cX12_init 476 = .ok (.if_icmp .ge 40, 3) := by decide +kernel
theorem dX12_init_479 : decode cX12_init 479 = .ok (.aload_n 0, 1) := by decide +kernel
theorem dX12_init_480 : decode cX12_init 480 = .ok (.getfield 19, 3) := by decide +kernel
theorem dX12_init_483 : decode cX12_init 483 = .ok (.iload_n 1, 1) := by decide +kernel
theorem dX12_init_484 : decode cX12_init 484 = .ok (.iconst (-1), 1) := by decide +kernel
theorem dX12_init_485 : decode cX12_init 485 = .ok (.iastore, 1) := by decide +kernel
theorem dX12_init_486 : decode cX12_init 486 = .ok (.aload_n 0, 1) := by decide +kernel
theorem dX12_init_487 : decode cX12_init 487 = .ok (.getfield 67, 3) := by decide +kernel
theorem dX12_init_490 : decode cX12_init 490 = .ok (.iload_n 1, 1) := by decide +kernel
theorem dX12_init_491 : decode cX12_init 491 = .ok (.iconst (-1), 1) := by decide +kernel
theorem dX12_init_492 : decode cX12_init 492 = .ok (.iastore, 1) := by decide +kernel
theorem dX12_init_493 : decode cX12_init 493 = .ok (.aload_n 0, 1) := by decide +kernel
theorem dX12_init_494 : decode cX12_init 494 = .ok (.getfield 43, 3) := by decide +kernel
theorem dX12_init_497 : decode cX12_init 497 = .ok (.iload_n 1, 1) := by decide +kernel
theorem dX12_init_498 : decode cX12_init 498 = .ok (.iconst (-1), 1) := by decide +kernel
theorem dX12_init_499 : decode cX12_init 499 = .ok (.iastore, 1) := by decide +kernel
theorem dX12_init_500 : decode cX12_init 500 = .ok (.aload_n 0, 1) := by decide +kernel
theorem dX12_init_501 : decode cX12_init 501 = .ok (.getfield 43, 3) := by decide +kernel
theorem dX12_init_504 : decode cX12_init 504 = .ok (.bipush 24, 2) := by decide +kernel
theorem dX12_init_506 : decode cX12_init 506 = .ok (.iload_n 1, 1) := by decide +kernel
theorem dX12_init_507 : decode cX12_init 507 = .ok (.iadd, 1) := by decide +kernel
theorem dX12_init_508 : decode cX12_init 508 = .ok (.iconst (-1), 1) := by decide +kernel
theorem dX12_init_509 : decode cX12_init 509 = .ok (.iastore, 1) := by decide +kernel
theorem dX12_init_510 : decode cX12_init 510 = .ok (.iinc 1 1, 3) := by decide +kernel
theorem dX12_init_513 : decode cX12_init 513 = .ok (.goto (-40), 3) := by decide +kernel
theorem dX12_init_516 : decode cX12_init 516 = .ok (.return_, 1) := by decide +kernel
theorem dX12_thrown_0 : decode cX12_thrown 0 = .ok (.aload_n 0, 1) := by decide +kernel
theorem dX12_thrown_1 : decode cX12_thrown 1 = .ok (.getfield 180, 3) := by decide +kernel
theorem dX12_thrown_4 : decode cX12_thrown 4 = .ok (.ireturn, 1) := by decide +kernel
theorem dX12_in_0 : decode cX12_in 0 = .ok (.iload_n 0, 1) := by decide +kernel
theorem dX12_in_1 : decode cX12_in 1 = .ok (.iload_n 1, 1) := by decide +kernel
theorem dX12_in_2 : decode cX12_in 2 = .ok (.if_icmp .lt 12, 3) := by decide +kernel
theorem dX12_in_5 : decode cX12_in 5 = .ok (.iload_n 0, 1) := by decide +kernel
theorem dX12_in_6 : decode cX12_in 6 = .ok (.iload_n 2, 1) := by decide +kernel
theorem dX12_in_7 : decode cX12_in 7 = .ok (.if_icmp .gt 7, 3) := by decide +kernel
theorem dX12_in_10 : decode cX12_in 10 = .ok (.iconst 1, 1) := by decide +kernel
theorem dX12_in_11 : decode cX12_in 11 = .ok (.goto 4, 3) := by decide +kernel
theorem dX12_in_14 : decode cX12_in 14 = .ok (.iconst 0, 1) := by decide +kernel
theorem dX12_in_15 : decode cX12_in 15 = .ok (.ireturn, 1) := by decide +kernel
theorem dX12_isTitle_0 : decode cX12_isTitle 0 = .ok (.iload_n 0, 1) := by decide +kernel
theorem dX12_isTitle_1 : decode cX12_isTitle 1 = .ok (.iconst 0, 1) := by decide +kernel
theorem dX12_isTitle_2 : decode cX12_isTitle 2 = .ok (.bipush 23, 2) := by decide +kernel
theorem dX12_isTitle_4 : decode cX12_isTitle 4 = .ok (.invokestatic 184, 3) := by decide +kernel
theorem dX12_isTitle_7 : decode cX12_isTitle 7 = .ok (.ireturn, 1) := by decide +kernel
theorem dX12_hasPage_0 : decode cX12_hasPage 0 = .ok (.iload_n 1, 1) := by decide +kernel
theorem dX12_hasPage_1 : decode cX12_hasPage 1 = .ok (.invokestatic 188, 3) := by decide +kernel
theorem dX12_hasPage_4 : decode cX12_hasPage 4 = .ok (.ifCond .eq 17, 3) := by decide +kernel
theorem dX12_hasPage_7 : decode cX12_hasPage 7 = .ok (.aload_n 0, 1) := by decide +kernel
theorem dX12_hasPage_8 : decode cX12_hasPage 8 = .ok (.getfield 19, 3) := by decide +kernel
theorem dX12_hasPage_11 : decode cX12_hasPage 11 = .ok (.iload_n 1, 1) := by decide +kernel
theorem dX12_hasPage_12 : decode cX12_hasPage 12 = .ok (.iaload, 1) := by decide +kernel
theorem dX12_hasPage_13 : decode cX12_hasPage 13 = .ok (.iconst (-1), 1) := by decide +kernel
theorem dX12_hasPage_14 : decode cX12_hasPage 14 = .ok (.if_icmp .eq 7, 3) := by decide +kernel
theorem dX12_hasPage_17 : decode cX12_hasPage 17 = .ok (.iconst 1, 1) := by decide +kernel
theorem dX12_hasPage_18 : decode cX12_hasPage 18 = .ok (.goto 4, 3) := by decide +kernel
theorem dX12_hasPage_21 : decode cX12_hasPage 21 = .ok (.iconst 0, 1) := by decide +kernel
theorem dX12_hasPage_22 : decode cX12_hasPage 22 = .ok (.ireturn, 1) := by decide +kernel
theorem dX12_isAhead_0 : decode cX12_isAhead 0 = .ok (.aload_n 0, 1) := by decide +kernel
theorem dX12_isAhead_1 : decode cX12_isAhead 1 = .ok (.getfield 28, 3) := by decide +kernel
theorem dX12_isAhead_4 : decode cX12_isAhead 4 = .ok (.iload_n 1, 1) := by decide +kernel
theorem dX12_isAhead_5 : decode cX12_isAhead 5 = .ok (.iaload, 1) := by decide +kernel
theorem dX12_isAhead_6 : decode cX12_isAhead 6 = .ok (.aload_n 0, 1) := by decide +kernel
theorem dX12_isAhead_7 : decode cX12_isAhead 7 = .ok (.getfield 28, 3) := by decide +kernel
theorem dX12_isAhead_10 : decode cX12_isAhead 10 = .ok (.iload_n 2, 1) := by decide +kernel
theorem dX12_isAhead_11 : decode cX12_isAhead 11 = .ok (.iaload, 1) := by decide +kernel
theorem dX12_isAhead_12 : decode cX12_isAhead 12 = .ok (.if_icmp .lt 23, 3) := by decide +kernel
theorem dX12_isAhead_15 : decode cX12_isAhead 15 = .ok (.aload_n 0, 1) := by decide +kernel
theorem dX12_isAhead_16 : decode cX12_isAhead 16 = .ok (.getfield 28, 3) := by decide +kernel
theorem dX12_isAhead_19 : decode cX12_isAhead 19 = .ok (.iload_n 1, 1) := by decide +kernel
theorem dX12_isAhead_20 : decode cX12_isAhead 20 = .ok (.iaload, 1) := by decide +kernel
theorem dX12_isAhead_21 : decode cX12_isAhead 21 = .ok (.aload_n 0, 1) := by decide +kernel
theorem dX12_isAhead_22 : decode cX12_isAhead 22 = .ok (.getfield 28, 3) := by decide +kernel
theorem dX12_isAhead_25 : decode cX12_isAhead 25 = .ok (.iload_n 2, 1) := by decide +kernel
theorem dX12_isAhead_26 : decode cX12_isAhead 26 = .ok (.iaload, 1) := by decide +kernel
theorem dX12_isAhead_27 : decode cX12_isAhead 27 = .ok (.if_icmp .ne 12, 3) := by decide +kernel
theorem dX12_isAhead_30 : decode cX12_isAhead 30 = .ok (.iload_n 1, 1) := by decide +kernel
theorem dX12_isAhead_31 : decode cX12_isAhead 31 = .ok (.iload_n 2, 1) := by decide +kernel
theorem dX12_isAhead_32 : decode cX12_isAhead 32 = .ok (.if_icmp .ge 7, 3) := by decide +kernel
theorem dX12_isAhead_35 : decode cX12_isAhead 35 = .ok (.iconst 1, 1) := by decide +kernel
theorem dX12_isAhead_36 : decode cX12_isAhead 36 = .ok (.goto 4, 3) := by decide +kernel
theorem dX12_isAhead_39 : decode cX12_isAhead 39 = .ok (.iconst 0, 1) := by decide +kernel
theorem dX12_isAhead_40 : decode cX12_isAhead 40 = .ok (.ireturn, 1) := by decide +kernel
theorem dX12_aheadOf_0 : decode cX12_aheadOf 0 = .ok (.iconst 0, 1) := by decide +kernel
theorem dX12_aheadOf_1 : decode cX12_aheadOf 1 = .ok (.istore_n 2, 1) := by decide +kernel
theorem dX12_aheadOf_2 : decode cX12_aheadOf 2 = .ok (.iconst 0, 1) := by decide +kernel
theorem dX12_aheadOf_3 : decode cX12_aheadOf 3 = .ok (.istore_n 3, 1) := by decide +kernel
theorem dX12_aheadOf_4 : decode cX12_aheadOf 4 = .ok (.iload_n 3, 1) := by decide +kernel
theorem dX12_aheadOf_5 : decode cX12_aheadOf 5 = .ok (.aload_n 0, 1) := by decide +kernel
theorem dX12_aheadOf_6 : decode cX12_aheadOf 6 = .ok (.getfield 192, 3) := by decide +kernel
theorem dX12_aheadOf_9 : decode cX12_aheadOf 9 = .ok (.if_icmp .ge 41, 3) := by decide +kernel
theorem dX12_aheadOf_12 : decode cX12_aheadOf 12 = .ok (.iload_n 2, 1) := by decide +kernel
theorem dX12_aheadOf_13 : decode cX12_aheadOf 13 = .ok (.aload_n 0, 1) := by decide +kernel
theorem dX12_aheadOf_14 : decode cX12_aheadOf 14 = .ok (.getfield 31, 3) := by decide +kernel
theorem dX12_aheadOf_17 : decode cX12_aheadOf 17 = .ok (.iload_n 3, 1) := by decide +kernel
theorem dX12_aheadOf_18 : decode cX12_aheadOf 18 = .ok (.iaload, 1) := by decide +kernel
theorem dX12_aheadOf_19 : decode cX12_aheadOf 19 = .ok (.aload_n 0, 1) := by decide +kernel
theorem dX12_aheadOf_20 : decode cX12_aheadOf 20 = .ok (.getfield 31, 3) := by decide +kernel
theorem dX12_aheadOf_23 : decode cX12_aheadOf 23 = .ok (.iload_n 1, 1) := by decide +kernel
theorem dX12_aheadOf_24 : decode cX12_aheadOf 24 = .ok (.iaload, 1) := by decide +kernel
theorem dX12_aheadOf_25 : decode cX12_aheadOf 25 = .ok (.if_icmp .ne 16, 3) := by decide +kernel
theorem dX12_aheadOf_28 : decode cX12_aheadOf 28 = .ok (.aload_n 0, 1) := by decide +kernel
theorem dX12_aheadOf_29 : decode cX12_aheadOf 29 = .ok (.iload_n 3, 1) := by decide +kernel
theorem dX12_aheadOf_30 : decode cX12_aheadOf 30 = .ok (.iload_n 1, 1) := by decide +kernel
theorem dX12_aheadOf_31 : decode cX12_aheadOf 31 = .ok (.invokevirtual 195, 3) := by decide +kernel
theorem dX12_aheadOf_34 : decode cX12_aheadOf 34 = .ok (.ifCond .eq 7, 3) := by decide +kernel
theorem dX12_aheadOf_37 : decode cX12_aheadOf 37 = .ok (.iconst 1, 1) := by decide +kernel
theorem dX12_aheadOf_38 : decode cX12_aheadOf 38 = .ok (.goto 4, 3) := by decide +kernel
theorem dX12_aheadOf_41 : decode cX12_aheadOf 41 = .ok (.iconst 0, 1) := by decide +kernel
theorem dX12_aheadOf_42 : decode cX12_aheadOf 42 = .ok (.iadd, 1) := by decide +kernel
theorem dX12_aheadOf_43 : decode cX12_aheadOf 43 = .ok (.istore_n 2, 1) := by decide +kernel
theorem dX12_aheadOf_44 : decode cX12_aheadOf 44 = .ok (.iinc 3 1, 3) := by decide +kernel
theorem dX12_aheadOf_47 : decode cX12_aheadOf 47 = .ok (.goto (-43), 3) := by decide +kernel
theorem dX12_aheadOf_50 : decode cX12_aheadOf 50 = .ok (.iload_n 2, 1) := by decide +kernel
theorem dX12_aheadOf_51 : decode cX12_aheadOf 51 = .ok (.ireturn, 1) := by decide +kernel
theorem dX12_versionsOf_0 : decode cX12_versionsOf 0 = .ok (.iconst 0, 1) := by decide +kernel
theorem dX12_versionsOf_1 : decode cX12_versionsOf 1 = .ok (.istore_n 2, 1) := by decide +kernel
theorem dX12_versionsOf_2 : decode cX12_versionsOf 2 = .ok (.iconst 0, 1) := by decide +kernel
theorem dX12_versionsOf_3 : decode cX12_versionsOf 3 = .ok (.istore_n 3, 1) := by decide +kernel
theorem dX12_versionsOf_4 : decode cX12_versionsOf 4 = .ok (.iload_n 3, 1) := by decide +kernel
theorem dX12_versionsOf_5 : decode cX12_versionsOf 5 = .ok (.aload_n 0, 1) := by decide +kernel
theorem dX12_versionsOf_6 : decode cX12_versionsOf 6 = .ok (.getfield 192, 3) := by decide +kernel
theorem dX12_versionsOf_9 : decode cX12_versionsOf 9 = .ok (.if_icmp .ge 27, 3) := by decide +kernel
theorem dX12_versionsOf_12 : decode cX12_versionsOf 12 = .ok (.iload_n 2, 1) := by decide +kernel
theorem dX12_versionsOf_13 : decode cX12_versionsOf 13 = .ok (.aload_n 0, 1) := by decide +kernel
theorem dX12_versionsOf_14 : decode cX12_versionsOf 14 = .ok (.getfield 31, 3) := by decide +kernel
theorem dX12_versionsOf_17 : decode cX12_versionsOf 17 = .ok (.iload_n 3, 1) := by decide +kernel
theorem dX12_versionsOf_18 : decode cX12_versionsOf 18 = .ok (.iaload, 1) := by decide +kernel
theorem dX12_versionsOf_19 : decode cX12_versionsOf 19 = .ok (.iload_n 1, 1) := by decide +kernel
theorem dX12_versionsOf_20 : decode cX12_versionsOf 20 = .ok (.if_icmp .ne 7, 3) := by decide +kernel
theorem dX12_versionsOf_23 : decode cX12_versionsOf 23 = .ok (.iconst 1, 1) := by decide +kernel
theorem dX12_versionsOf_24 : decode cX12_versionsOf 24 = .ok (.goto 4, 3) := by decide +kernel
theorem dX12_versionsOf_27 : decode cX12_versionsOf 27 = .ok (.iconst 0, 1) := by decide +kernel
theorem dX12_versionsOf_28 : decode cX12_versionsOf 28 = .ok (.iadd, 1) := by decide +kernel
theorem dX12_versionsOf_29 : decode cX12_versionsOf 29 = .ok (.istore_n 2, 1) := by decide +kernel
theorem dX12_versionsOf_30 : decode cX12_versionsOf 30 = .ok (.iinc 3 1, 3) := by decide +kernel
theorem dX12_versionsOf_33 : decode cX12_versionsOf 33 = .ok (.goto (-29), 3) := by decide +kernel
theorem dX12_versionsOf_36 : decode cX12_versionsOf 36 = .ok (.iload_n 2, 1) := by decide +kernel
theorem dX12_versionsOf_37 : decode cX12_versionsOf 37 = .ok (.ireturn, 1) := by decide +kernel
theorem dX12_versionIn_0 : decode cX12_versionIn 0 = .ok (.iconst 0, 1) := by decide +kernel
theorem dX12_versionIn_1 : decode cX12_versionIn 1 = .ok (.istore_n 3, 1) := by decide +kernel
theorem dX12_versionIn_2 : decode cX12_versionIn 2 = .ok (.iload_n 3, 1) := by decide +kernel
theorem dX12_versionIn_3 : decode cX12_versionIn 3 = .ok (.aload_n 0, 1) := by decide +kernel
theorem dX12_versionIn_4 : decode cX12_versionIn 4 = .ok (.getfield 192, 3) := by decide +kernel
theorem dX12_versionIn_7 : decode cX12_versionIn 7 = .ok (.if_icmp .ge 30, 3) := by decide +kernel
theorem dX12_versionIn_10 : decode cX12_versionIn 10 = .ok (.aload_n 0, 1) := by decide +kernel
theorem dX12_versionIn_11 : decode cX12_versionIn 11 = .ok (.getfield 31, 3) := by decide +kernel
theorem dX12_versionIn_14 : decode cX12_versionIn 14 = .ok (.iload_n 3, 1) := by decide +kernel
theorem dX12_versionIn_15 : decode cX12_versionIn 15 = .ok (.iaload, 1) := by decide +kernel
theorem dX12_versionIn_16 : decode cX12_versionIn 16 = .ok (.iload_n 1, 1) := by decide +kernel
theorem dX12_versionIn_17 : decode cX12_versionIn 17 = .ok (.if_icmp .ne 14, 3) := by decide +kernel
theorem dX12_versionIn_20 : decode cX12_versionIn 20 = .ok (.aload_n 0, 1) := by decide +kernel
theorem dX12_versionIn_21 : decode cX12_versionIn 21 = .ok (.iload_n 3, 1) := by decide +kernel
theorem dX12_versionIn_22 : decode cX12_versionIn 22 = .ok (.invokevirtual 199, 3) := by decide +kernel
theorem dX12_versionIn_25 : decode cX12_versionIn 25 = .ok (.iload_n 2, 1) := by decide +kernel
theorem dX12_versionIn_26 : decode cX12_versionIn 26 = .ok (.if_icmp .ne 5, 3) := by decide +kernel
theorem dX12_versionIn_29 : decode cX12_versionIn 29 = .ok (.iload_n 3, 1) := by decide +kernel
theorem dX12_versionIn_30 : decode cX12_versionIn 30 = .ok (.ireturn, 1) := by decide +kernel
theorem dX12_versionIn_31 : decode cX12_versionIn 31 = .ok (.iinc 3 1, 3) := by decide +kernel
theorem dX12_versionIn_34 : decode cX12_versionIn 34 = .ok (.goto (-32), 3) := by decide +kernel
theorem dX12_versionIn_37 : decode cX12_versionIn 37 = .ok (.iconst (-1), 1) := by decide +kernel
theorem dX12_versionIn_38 : decode cX12_versionIn 38 = .ok (.ireturn, 1) := by decide +kernel
theorem dX12_presentOf_0 : decode cX12_presentOf 0 = .ok (.iconst (-1), 1) := by decide +kernel
theorem dX12_presentOf_1 : decode cX12_presentOf 1 = .ok (.istore_n 2, 1) := by decide +kernel
theorem dX12_presentOf_2 : decode cX12_presentOf 2 = .ok (.iconst 0, 1) := by decide +kernel
theorem dX12_presentOf_3 : decode cX12_presentOf 3 = .ok (.istore_n 3, 1) := by decide +kernel
theorem dX12_presentOf_4 : decode cX12_presentOf 4 = .ok (.iload_n 3, 1) := by decide +kernel
theorem dX12_presentOf_5 : decode cX12_presentOf 5 = .ok (.aload_n 0, 1) := by decide +kernel
theorem dX12_presentOf_6 : decode cX12_presentOf 6 = .ok (.getfield 192, 3) := by decide +kernel
theorem dX12_presentOf_9 : decode cX12_presentOf 9 = .ok (.if_icmp .ge 35, 3) := by decide +kernel
theorem dX12_presentOf_12 : decode cX12_presentOf 12 = .ok (.aload_n 0, 1) := by decide +kernel
theorem dX12_presentOf_13 : decode cX12_presentOf 13 = .ok (.getfield 31, 3) := by decide +kernel
theorem dX12_presentOf_16 : decode cX12_presentOf 16 = .ok (.iload_n 3, 1) := by decide +kernel
theorem dX12_presentOf_17 : decode cX12_presentOf 17 = .ok (.iaload, 1) := by decide +kernel
theorem dX12_presentOf_18 : decode cX12_presentOf 18 = .ok (.iload_n 1, 1) := by decide +kernel
theorem dX12_presentOf_19 : decode cX12_presentOf 19 = .ok (.if_icmp .ne 19, 3) := by decide +kernel
theorem dX12_presentOf_22 : decode cX12_presentOf 22 = .ok (.iload_n 2, 1) := by decide +kernel
theorem dX12_presentOf_23 : decode cX12_presentOf 23 = .ok (.iconst (-1), 1) := by decide +kernel
theorem dX12_presentOf_24 : decode cX12_presentOf 24 = .ok (.if_icmp .eq 12, 3) := by decide +kernel
theorem dX12_presentOf_27 : decode cX12_presentOf 27 = .ok (.aload_n 0, 1) := by decide +kernel
theorem dX12_presentOf_28 : decode cX12_presentOf 28 = .ok (.iload_n 2, 1) := by decide +kernel
theorem dX12_presentOf_29 : decode cX12_presentOf 29 = .ok (.iload_n 3, 1) := by decide +kernel
theorem dX12_presentOf_30 : decode cX12_presentOf 30 = .ok (.invokevirtual 195, 3) := by decide +kernel
theorem dX12_presentOf_33 : decode cX12_presentOf 33 = .ok (.ifCond .eq 5, 3) := by decide +kernel
theorem dX12_presentOf_36 : decode cX12_presentOf 36 = .ok (.iload_n 3, 1) := by decide +kernel
theorem dX12_presentOf_37 : decode cX12_presentOf 37 = .ok (.istore_n 2, 1) := by decide +kernel
theorem dX12_presentOf_38 : decode cX12_presentOf 38 = .ok (.iinc 3 1, 3) := by decide +kernel
theorem dX12_presentOf_41 : decode cX12_presentOf 41 = .ok (.goto (-37), 3) := by decide +kernel
theorem dX12_presentOf_44 : decode cX12_presentOf 44 = .ok (.iload_n 2, 1) := by decide +kernel
theorem dX12_presentOf_45 : decode cX12_presentOf 45 = .ok (.ireturn, 1) := by decide +kernel
theorem dX12_presentAt_0 : decode cX12_presentAt 0 = .ok (.aload_n 0, 1) := by decide +kernel
theorem dX12_presentAt_1 : decode cX12_presentAt 1 = .ok (.getfield 19, 3) := by decide +kernel
theorem dX12_presentAt_4 : decode cX12_presentAt 4 = .ok (.iload_n 1, 1) := by decide +kernel
theorem dX12_presentAt_5 : decode cX12_presentAt 5 = .ok (.iaload, 1) := by decide +kernel
theorem dX12_presentAt_6 : decode cX12_presentAt 6 = .ok (.iconst (-1), 1) := by decide +kernel
theorem dX12_presentAt_7 : decode cX12_presentAt 7 = .ok (.if_icmp .ne 7, 3) := by decide +kernel
theorem dX12_presentAt_10 : decode cX12_presentAt 10 = .ok (.iconst (-1), 1) := by decide +kernel
theorem dX12_presentAt_11 : decode cX12_presentAt 11 = .ok (.goto 13, 3) := by decide +kernel
theorem dX12_presentAt_14 : decode cX12_presentAt 14 = .ok (.aload_n 0, 1) := by decide +kernel
theorem dX12_presentAt_15 : decode cX12_presentAt 15 = .ok (.aload_n 0, 1) := by decide +kernel
theorem dX12_presentAt_16 : decode cX12_presentAt 16 = .ok (.getfield 19, 3) := by decide +kernel
theorem dX12_presentAt_19 : decode cX12_presentAt 19 = .ok (.iload_n 1, 1) := by decide +kernel
theorem dX12_presentAt_20 : decode cX12_presentAt 20 = .ok (.iaload, 1) := by decide +kernel
theorem dX12_presentAt_21 : decode cX12_presentAt 21 = .ok (.invokevirtual 203, 3) := by decide +kernel
theorem dX12_presentAt_24 : decode cX12_presentAt 24 = .ok (.ireturn, 1) := by decide +kernel
theorem dX12_opens_0 : decode cX12_opens 0 = .ok (.iload_n 0, 1) := by decide +kernel
theorem dX12_opens_1 : decode cX12_opens 1 = .ok (.iconst 2, 1) := by decide +kernel
theorem dX12_opens_2 : decode cX12_opens 2 = .ok (.if_icmp .eq 31, 3) := by decide +kernel
theorem dX12_opens_5 : decode cX12_opens 5 = .ok (.iload_n 0, 1) := by decide +kernel
theorem dX12_opens_6 : decode cX12_opens 6 = .ok (.iconst 3, 1) := by decide +kernel
theorem dX12_opens_7 : decode cX12_opens 7 = .ok (.if_icmp .eq 26, 3) := by decide +kernel
theorem dX12_opens_10 : decode cX12_opens 10 = .ok (.iload_n 0, 1) := by decide +kernel
theorem dX12_opens_11 : decode cX12_opens 11 = .ok (.iconst 4, 1) := by decide +kernel
theorem dX12_opens_12 : decode cX12_opens 12 = .ok (.if_icmp .eq 21, 3) := by decide +kernel
theorem dX12_opens_15 : decode cX12_opens 15 = .ok (.iload_n 0, 1) := by decide +kernel
theorem dX12_opens_16 : decode cX12_opens 16 = .ok (.bipush 8, 2) := by decide +kernel
theorem dX12_opens_18 : decode cX12_opens 18 = .ok (.if_icmp .eq 15, 3) := by decide +kernel
theorem dX12_opens_21 : decode cX12_opens 21 = .ok (.iload_n 0, 1) := by decide +kernel
theorem dX12_opens_22 : decode cX12_opens 22 = .ok (.bipush 9, 2) := by decide +kernel
theorem dX12_opens_24 : decode cX12_opens 24 = .ok (.if_icmp .eq 9, 3) := by decide +kernel
theorem dX12_opens_27 : decode cX12_opens 27 = .ok (.iload_n 0, 1) := by decide +kernel
theorem dX12_opens_28 : decode cX12_opens 28 = .ok (.bipush 10, 2) := by decide +kernel
theorem dX12_opens_30 : decode cX12_opens 30 = .ok (.if_icmp .ne 7, 3) := by decide +kernel
theorem dX12_opens_33 : decode cX12_opens 33 = .ok (.iconst 1, 1) := by decide +kernel
theorem dX12_opens_34 : decode cX12_opens 34 = .ok (.goto 4, 3) := by decide +kernel
theorem dX12_opens_37 : decode cX12_opens 37 = .ok (.iconst 0, 1) := by decide +kernel
theorem dX12_opens_38 : decode cX12_opens 38 = .ok (.ireturn, 1) := by decide +kernel
theorem dX12_isText_0 : decode cX12_isText 0 = .ok (.iconst 0, 1) := by decide +kernel
theorem dX12_isText_1 : decode cX12_isText 1 = .ok (.istore 4, 2) := by decide +kernel
theorem dX12_isText_3 : decode cX12_isText 3 = .ok (.iload_n 3, 1) := by decide +kernel
theorem dX12_isText_4 : decode cX12_isText 4 = .ok (.iconst 1, 1) := by decide +kernel
theorem dX12_isText_5 : decode cX12_isText 5 = .ok (.bipush 30, 2) := by decide +kernel
theorem dX12_isText_7 : decode cX12_isText 7 = .ok (.invokestatic 184, 3) := by decide +kernel
theorem dX12_isText_10 : decode cX12_isText 10 = .ok (.istore 5, 2) := by decide +kernel
theorem dX12_isText_12 : decode cX12_isText 12 = .ok (.iconst 0, 1) := by decide +kernel
theorem dX12_isText_13 : decode cX12_isText 13 = .ok (.istore 6, 2) := by decide +kernel
theorem dX12_isText_15 : decode cX12_isText 15 = .ok (.iload 6, 2) := by decide +kernel
theorem dX12_isText_17 : decode cX12_isText 17 = .ok (.iload_n 3, 1) := by decide +kernel
theorem dX12_isText_18 : decode cX12_isText 18 = .ok (.if_icmp .ge 326, 3) := by decide +kernel
theorem dX12_isText_21 : decode cX12_isText 21 = .ok (.iload 5, 2) := by decide +kernel
theorem dX12_isText_23 : decode cX12_isText 23 = .ok (.ifCond .eq 321, 3) := by decide +kernel
theorem dX12_isText_26 : decode cX12_isText 26 = .ok (.aload_n 1, 1) := by decide +kernel
theorem dX12_isText_27 : decode cX12_isText 27 = .ok (.iload_n 2, 1) := by decide +kernel
theorem dX12_isText_28 : decode cX12_isText 28 = .ok (.iload 6, 2) := by decide +kernel
theorem dX12_isText_30 : decode cX12_isText 30 = .ok (.iadd, 1) := by decide +kernel
theorem dX12_isText_31 : decode cX12_isText 31 = .ok (.iaload, 1) := by decide +kernel
theorem dX12_isText_32 : decode cX12_isText 32 = .ok (.sipush 1000, 3) := by decide +kernel
theorem dX12_isText_35 : decode cX12_isText 35 = .ok (.idiv, 1) := by decide +kernel
theorem dX12_isText_36 : decode cX12_isText 36 = .ok (.istore 7, 2) := by decide +kernel
theorem dX12_isText_38 : decode cX12_isText 38 = .ok (.iload 4, 2) := by decide +kernel
theorem dX12_isText_40 : decode cX12_isText 40 = .ok (.ifCond .ne 7, 3) := by decide +kernel
theorem dX12_isText_43 : decode cX12_isText 43 = .ok (.iconst (-1), 1) := by decide +kernel
theorem dX12_isText_44 : decode cX12_isText 44 = .ok (.goto 12, 3) := by decide +kernel
theorem dX12_isText_47 : decode cX12_isText 47 = .ok (.aload_n 0, 1) := by decide +kernel
theorem dX12_isText_48 : decode cX12_isText 48 = .ok (.getfield 98, 3) := by decide +kernel
theorem dX12_isText_51 : decode cX12_isText 51 = .ok (.iload 4, 2) := by decide +kernel
theorem dX12_isText_53 : decode cX12_isText 53 = .ok (.iconst 1, 1) := by decide +kernel
theorem dX12_isText_54 : decode cX12_isText 54 = .ok (.isub, 1) := by decide +kernel
theorem dX12_isText_55 : decode cX12_isText 55 = .ok (.iaload, 1) := by decide +kernel
theorem dX12_isText_56 : decode cX12_isText 56 = .ok (.istore 8, 2) := by decide +kernel
theorem dX12_isText_58 : decode cX12_isText 58 = .ok (.iload 6, 2) := by decide +kernel
theorem dX12_isText_60 : decode cX12_isText 60 = .ok (.ifCond .le 45, 3) := by decide +kernel
theorem dX12_isText_63 : decode cX12_isText 63 = .ok (.iload 4, 2) := by decide +kernel
theorem dX12_isText_65 : decode cX12_isText 65 = .ok (.ifCond .le 40, 3) := by decide +kernel
theorem dX12_isText_68 : decode cX12_isText 68 = .ok (.aload_n 1, 1) := by decide +kernel
theorem dX12_isText_69 : decode cX12_isText 69 = .ok (.iload_n 2, 1) := by decide +kernel
theorem dX12_isText_70 : decode cX12_isText 70 = .ok (.iload 6, 2) := by decide +kernel
theorem dX12_isText_72 : decode cX12_isText 72 = .ok (.iadd, 1) := by decide +kernel
theorem dX12_isText_73 : decode cX12_isText 73 = .ok (.iconst 1, 1) := by decide +kernel
theorem dX12_isText_74 : decode cX12_isText 74 = .ok (.isub, 1) := by decide +kernel
theorem dX12_isText_75 : decode cX12_isText 75 = .ok (.iaload, 1) := by decide +kernel
theorem dX12_isText_76 : decode cX12_isText 76 = .ok (.sipush 1000, 3) := by decide +kernel
theorem dX12_isText_79 : decode cX12_isText 79 = .ok (.idiv, 1) := by decide +kernel
theorem dX12_isText_80 : decode cX12_isText 80 = .ok (.iload 8, 2) := by decide +kernel
theorem dX12_isText_82 : decode cX12_isText 82 = .ok (.if_icmp .ne 23, 3) := by decide +kernel
theorem dX12_isText_85 : decode cX12_isText 85 = .ok (.aload_n 0, 1) := by decide +kernel
theorem dX12_isText_86 : decode cX12_isText 86 = .ok (.getfield 101, 3) := by decide +kernel
theorem dX12_isText_89 : decode cX12_isText 89 = .ok (.iload 4, 2) := by decide +kernel
theorem dX12_isText_91 : decode cX12_isText 91 = .ok (.iconst 1, 1) := by decide +kernel
theorem dX12_isText_92 : decode cX12_isText 92 = .ok (.isub, 1) := by decide +kernel
theorem dX12_isText_93 : decode cX12_isText 93 = .ok (.iaload, 1) := by decide +kernel
theorem dX12_isText_94 : decode cX12_isText 94 = .ok (.iload 6, 2) := by decide +kernel
theorem dX12_isText_96 : decode cX12_isText 96 = .ok (.iconst 1, 1) := by decide +kernel
theorem dX12_isText_97 : decode cX12_isText 97 = .ok (.isub, 1) := by decide +kernel
theorem dX12_isText_98 : decode cX12_isText 98 = .ok (.if_icmp .ne 7, 3) := by decide +kernel
theorem dX12_isText_101 : decode cX12_isText 101 = .ok (.iconst 1, 1) := by decide +kernel
theorem dX12_isText_102 : decode cX12_isText 102 = .ok (.goto 4, 3) := by decide +kernel
theorem dX12_isText_105 : decode cX12_isText 105 = .ok (.iconst 0, 1) := by decide +kernel
theorem dX12_isText_106 : decode cX12_isText 106 = .ok (.istore 9, 2) := by decide +kernel
theorem dX12_isText_108 : decode cX12_isText 108 = .ok (.iload 7, 2) := by decide +kernel
theorem dX12_isText_110 : decode cX12_isText 110 = .ok (.iconst 5, 1) := by decide +kernel
theorem dX12_isText_111 : decode cX12_isText 111 = .ok (.if_icmp .eq 10, 3) := by decide +kernel
theorem dX12_isText_114 : decode cX12_isText 114 = .ok (.iload 7, 2) := by decide +kernel
theorem dX12_isText_116 : decode cX12_isText 116 = .ok (.bipush 6, 2) := by decide +kernel
theorem dX12_isText_118 : decode cX12_isText 118 = .ok (.if_icmp .ne 7, 3) := by decide +kernel
theorem dX12_isText_121 : decode cX12_isText 121 = .ok (.iconst 1, 1) := by decide +kernel
theorem dX12_isText_122 : decode cX12_isText 122 = .ok (.goto 4, 3) := by decide +kernel
theorem dX12_isText_125 : decode cX12_isText 125 = .ok (.iconst 0, 1) := by decide +kernel
theorem dX12_isText_126 : decode cX12_isText 126 = .ok (.istore 10, 2) := by decide +kernel
theorem dX12_isText_128 : decode cX12_isText 128 = .ok (.iload 8, 2) := by decide +kernel
theorem dX12_isText_130 : decode cX12_isText 130 = .ok (.bipush 10, 2) := by decide +kernel
theorem dX12_isText_132 : decode cX12_isText 132 = .ok (.if_icmp .ne 15, 3) := by decide +kernel
theorem dX12_isText_135 : decode cX12_isText 135 = .ok (.iload 7, 2) := by decide +kernel
theorem dX12_isText_137 : decode cX12_isText 137 = .ok (.ifCond .eq 10, 3) := by decide +kernel
theorem dX12_isText_140 : decode cX12_isText 140 = .ok (.iload 7, 2) := by decide +kernel
theorem dX12_isText_142 : decode cX12_isText 142 = .ok (.bipush 7, 2) := by decide +kernel
theorem dX12_isText_144 : decode cX12_isText 144 = .ok (.if_icmp .ne 7, 3) := by decide +kernel
theorem dX12_isText_147 : decode cX12_isText 147 = .ok (.iconst 1, 1) := by decide +kernel
theorem dX12_isText_148 : decode cX12_isText 148 = .ok (.goto 4, 3) := by decide +kernel
theorem dX12_isText_151 : decode cX12_isText 151 = .ok (.iconst 0, 1) := by decide +kernel
theorem dX12_isText_152 : decode cX12_isText 152 = .ok (.istore 5, 2) := by decide +kernel
theorem dX12_isText_154 : decode cX12_isText 154 = .ok (.iload 5, 2) := by decide +kernel
theorem dX12_isText_156 : decode cX12_isText 156 = .ok (.ifCond .eq 43, 3) := by decide +kernel
theorem dX12_isText_159 : decode cX12_isText 159 = .ok (.iload 7, 2) := by decide +kernel
theorem dX12_isText_161 : decode cX12_isText 161 = .ok (.bipush 13, 2) := by decide +kernel
theorem dX12_isText_163 : decode cX12_isText 163 = .ok (.if_icmp .ne 8, 3) := by decide +kernel
theorem dX12_isText_166 : decode cX12_isText 166 = .ok (.iload 4, 2) := by decide +kernel
theorem dX12_isText_168 : decode cX12_isText 168 = .ok (.ifCond .ne 31, 3) := by decide +kernel
theorem dX12_isText_171 : decode cX12_isText 171 = .ok (.iload 7, 2) := by decide +kernel
theorem dX12_isText_173 : decode cX12_isText 173 = .ok (.bipush 12, 2) := by decide +kernel
theorem dX12_isText_175 : decode cX12_isText 175 = .ok (.if_icmp .ne 8, 3) := by decide +kernel
theorem dX12_isText_178 : decode cX12_isText 178 = .ok (.iload_n 3, 1) := by decide +kernel
theorem dX12_isText_179 : decode cX12_isText 179 = .ok (.iconst 1, 1) := by decide +kernel
theorem dX12_isText_180 : decode cX12_isText 180 = .ok (.if_icmp .ne 19, 3) := by decide +kernel
theorem dX12_isText_183 : decode cX12_isText 183 = .ok (.iload 7, 2) := by decide +kernel
theorem dX12_isText_185 : decode cX12_isText 185 = .ok (.bipush 7, 2) := by decide +kernel
theorem dX12_isText_187 : decode cX12_isText 187 = .ok (.if_icmp .ne 8, 3) := by decide +kernel
theorem dX12_isText_190 : decode cX12_isText 190 = .ok (.iload 4, 2) := by decide +kernel
theorem dX12_isText_192 : decode cX12_isText 192 = .ok (.ifCond .le 7, 3) := by decide +kernel
theorem dX12_isText_195 : decode cX12_isText 195 = .ok (.iconst 1, 1) := by decide +kernel
theorem dX12_isText_196 : decode cX12_isText 196 = .ok (.goto 4, 3) := by decide +kernel
theorem dX12_isText_199 : decode cX12_isText 199 = .ok (.iconst 0, 1) := by decide +kernel
theorem dX12_isText_200 : decode cX12_isText 200 = .ok (.istore 5, 2) := by decide +kernel
theorem dX12_isText_202 : decode cX12_isText 202 = .ok (.iload 5, 2) := by decide +kernel
theorem dX12_isText_204 : decode cX12_isText 204 = .ok (.ifCond .eq 38, 3) := by decide +kernel
theorem dX12_isText_207 : decode cX12_isText 207 = .ok (.iload 7, 2) := by decide +kernel
theorem dX12_isText_209 : decode cX12_isText 209 = .ok (.iconst 5, 1) := by decide +kernel
theorem dX12_isText_210 : decode cX12_isText 210 = .ok (.if_icmp .ne 15, 3) := by decide +kernel
theorem dX12_isText_213 : decode cX12_isText 213 = .ok (.iload 8, 2) := by decide +kernel
theorem dX12_isText_215 : decode cX12_isText 215 = .ok (.iconst 2, 1) := by decide +kernel
theorem dX12_isText_216 : decode cX12_isText 216 = .ok (.if_icmp .eq 9, 3) := by decide +kernel
theorem dX12_isText_219 : decode cX12_isText 219 = .ok (.iload 8, 2) := by decide +kernel
theorem dX12_isText_221 : decode cX12_isText 221 = .ok (.iconst 4, 1) := by decide +kernel
theorem dX12_isText_222 : decode cX12_isText 222 = .ok (.if_icmp .ne 20, 3) := by decide +kernel
theorem dX12_isText_225 : decode cX12_isText 225 = .ok (.iload 7, 2) := by decide +kernel
theorem dX12_isText_227 : decode cX12_isText 227 = .ok (.bipush 6, 2) := by decide +kernel
theorem dX12_isText_229 : decode cX12_isText 229 = .ok (.if_icmp .ne 9, 3) := by decide +kernel
theorem dX12_isText_232 : decode cX12_isText 232 = .ok (.iload 8, 2) := by decide +kernel
theorem dX12_isText_234 : decode cX12_isText 234 = .ok (.iconst 2, 1) := by decide +kernel
theorem dX12_isText_235 : decode cX12_isText 235 = .ok (.if_icmp .ne 7, 3) := by decide +kernel
theorem dX12_isText_238 : decode cX12_isText 238 = .ok (.iconst 1, 1) := by decide +kernel
theorem dX12_isText_239 : decode cX12_isText 239 = .ok (.goto 4, 3) := by decide +kernel
theorem dX12_isText_242 : decode cX12_isText 242 = .ok (.iconst 0, 1) := by decide +kernel
theorem dX12_isText_243 : decode cX12_isText 243 = .ok (.istore 5, 2) := by decide +kernel
theorem dX12_isText_245 : decode cX12_isText 245 = .ok (.iload 5, 2) := by decide +kernel
theorem dX12_isText_247 : decode cX12_isText 247 = .ok (.ifCond .eq 36, 3) := by decide +kernel
theorem dX12_isText_250 : decode cX12_isText 250 = .ok (.iload 9, 2) := by decide +kernel
theorem dX12_isText_252 : decode cX12_isText 252 = .ok (.ifCond .eq 27, 3) := by decide +kernel
theorem dX12_isText_255 : decode cX12_isText 255 = .ok (.iload 8, 2) := by decide +kernel
theorem dX12_isText_257 : decode cX12_isText 257 = .ok (.iconst 2, 1) := by decide +kernel
theorem dX12_isText_258 : decode cX12_isText 258 = .ok (.if_icmp .eq 9, 3) := by decide +kernel
theorem dX12_isText_261 : decode cX12_isText 261 = .ok (.iload 8, 2) := by decide +kernel
theorem dX12_isText_263 : decode cX12_isText 263 = .ok (.iconst 4, 1) := by decide +kernel
theorem dX12_isText_264 : decode cX12_isText 264 = .ok (.if_icmp .ne 15, 3) := by decide +kernel
theorem dX12_isText_267 : decode cX12_isText 267 = .ok (.iload 10, 2) := by decide +kernel
theorem dX12_isText_269 : decode cX12_isText 269 = .ok (.ifCond .ne 10, 3) := by decide +kernel
theorem dX12_isText_272 : decode cX12_isText 272 = .ok (.iload 7, 2) := by decide +kernel
theorem dX12_isText_274 : decode cX12_isText 274 = .ok (.bipush 7, 2) := by decide +kernel
theorem dX12_isText_276 : decode cX12_isText 276 = .ok (.if_icmp .ne 7, 3) := by decide +kernel
theorem dX12_isText_279 : decode cX12_isText 279 = .ok (.iconst 1, 1) := by decide +kernel
theorem dX12_isText_280 : decode cX12_isText 280 = .ok (.goto 4, 3) := by decide +kernel
theorem dX12_isText_283 : decode cX12_isText 283 = .ok (.iconst 0, 1) := by decide +kernel
theorem dX12_isText_284 : decode cX12_isText 284 = .ok (.istore 5, 2) := by decide +kernel
theorem dX12_isText_286 : decode cX12_isText 286 = .ok (.iload 5, 2) := by decide +kernel
theorem dX12_isText_288 : decode cX12_isText 288 = .ok (.ifCond .eq 16, 3) := by decide +kernel
theorem dX12_isText_291 : decode cX12_isText 291 = .ok (.iload 7, 2) := by decide +kernel
theorem dX12_isText_293 : decode cX12_isText 293 = .ok (.bipush 7, 2) := by decide +kernel
theorem dX12_isText_295 : decode cX12_isText 295 = .ok (.if_icmp .ne 9, 3) := by decide +kernel
theorem dX12_isText_298 : decode cX12_isText 298 = .ok (.iinc 4 (-1), 3) := by decide +kernel
theorem dX12_isText_301 : decode cX12_isText 301 = .ok (.goto 37, 3) := by decide +kernel
theorem dX12_isText_304 : decode cX12_isText 304 = .ok (.iload 5, 2) := by decide +kernel
theorem dX12_isText_306 : decode cX12_isText 306 = .ok (.ifCond .eq 32, 3) := by decide +kernel
theorem dX12_isText_309 : decode cX12_isText 309 = .ok (.iload 7, 2) := by decide +kernel
theorem dX12_isText_311 : decode cX12_isText 311 = .ok (.invokestatic 206, 3) := by decide +kernel
theorem dX12_isText_314 : decode cX12_isText 314 = .ok (.ifCond .eq 24, 3) := by decide +kernel
theorem dX12_isText_317 : decode cX12_isText 317 = .ok (.aload_n 0, 1) := by decide +kernel
theorem dX12_isText_318 : decode cX12_isText 318 = .ok (.getfield 98, 3) := by decide +kernel
theorem dX12_isText_321 : decode cX12_isText 321 = .ok (.iload 4, 2) := by decide +kernel
theorem dX12_isText_323 : decode cX12_isText 323 = .ok (.iload 7, 2) := by decide +kernel
theorem dX12_isText_325 : decode cX12_isText 325 = .ok (.iastore, 1) := by decide +kernel
theorem dX12_isText_326 : decode cX12_isText 326 = .ok (.aload_n 0, 1) := by decide +kernel
theorem dX12_isText_327 : decode cX12_isText 327 = .ok (.getfield 101, 3) := by decide +kernel
theorem dX12_isText_330 : decode cX12_isText 330 = .ok (.iload 4, 2) := by decide +kernel
theorem dX12_isText_332 : decode cX12_isText 332 = .ok (.iload 6, 2) := by decide +kernel
theorem dX12_isText_334 : decode cX12_isText 334 = .ok (.iastore, 1) := by decide +kernel
theorem dX12_isText_335 : decode cX12_isText 335 = .ok (.iinc 4 1, 3) := by decide +kernel
theorem dX12_isText_338 : decode cX12_isText 338 = .ok (.iinc 6 1, 3) := by decide +kernel
theorem dX12_isText_341 : decode cX12_isText 341 = .ok (.goto (-326), 3) := by decide +kernel
theorem dX12_isText_344 : decode cX12_isText 344 = .ok (.iload 5, 2) := by decide +kernel
theorem dX12_isText_346 : decode cX12_isText 346 = .ok (.ifCond .eq 12, 3) := by decide +kernel
theorem dX12_isText_349 : decode cX12_isText 349 = .ok (.iload 4, 2) := by decide +kernel
theorem dX12_isText_351 : decode cX12_isText 351 = .ok (.ifCond .ne 7, 3) := by decide +kernel
theorem dX12_isText_354 : decode cX12_isText 354 = .ok (.iconst 1, 1) := by decide +kernel
theorem dX12_isText_355 : decode cX12_isText 355 = .ok (.goto 4, 3) := by decide +kernel
theorem dX12_isText_358 : decode cX12_isText 358 = .ok (.iconst 0, 1) := by decide +kernel
theorem dX12_isText_359 : decode cX12_isText 359 = .ok (.ireturn, 1) := by decide +kernel
theorem dX12_settleTitles_0 : decode cX12_settleTitles 0 = .ok (.iconst 0, 1) := by decide +kernel
theorem dX12_settleTitles_1 : decode cX12_settleTitles 1 = .ok (.istore_n 1, 1) := by decide +kernel
theorem dX12_settleTitles_2 : decode cX12_settleTitles 2 = .ok (.iload_n 1, 1) := by decide +kernel
theorem dX12_settleTitles_3 : decode cX12_settleTitles 3 = .ok (.bipush 24, 2) := by decide +kernel
theorem dX12_settleTitles_5 : decode cX12_settleTitles 5 = .ok (.if_icmp .ge 52, 3) := by decide +kernel
theorem dX12_settleTitles_8 : decode cX12_settleTitles 8 = .ok (.aload_n 0, 1) := by decide +kernel
theorem dX12_settleTitles_9 : decode cX12_settleTitles 9 = .ok (.iload_n 1, 1) := by decide +kernel
theorem dX12_settleTitles_10 : decode cX12_settleTitles 10 = .ok (.invokevirtual 209, 3) := by decide +kernel
theorem dX12_settleTitles_13 : decode cX12_settleTitles 13 = .ok (.istore_n 2, 1) := by decide +kernel
theorem dX12_settleTitles_14 : decode cX12_settleTitles 14 = .ok (.iload_n 2, 1) := by decide +kernel
theorem dX12_settleTitles_15 : decode cX12_settleTitles 15 = .ok (.aload_n 0, 1) := by decide +kernel
theorem dX12_settleTitles_16 : decode cX12_settleTitles 16 = .ok (.getfield 67, 3) := by decide +kernel
theorem dX12_settleTitles_19 : decode cX12_settleTitles 19 = .ok (.iload_n 1, 1) := by decide +kernel
theorem dX12_settleTitles_20 : decode cX12_settleTitles 20 = .ok (.iaload, 1) := by decide +kernel
theorem dX12_settleTitles_21 : decode cX12_settleTitles 21 = .ok (.if_icmp .eq 30, 3) := by decide +kernel
theorem dX12_settleTitles_24 : decode cX12_settleTitles 24 = .ok (.aload_n 0, 1) := by decide +kernel
theorem dX12_settleTitles_25 : decode cX12_settleTitles 25 = .ok (.getfield 67, 3) := by decide +kernel
theorem dX12_settleTitles_28 : decode cX12_settleTitles 28 = .ok (.iload_n 1, 1) := by decide +kernel
theorem dX12_settleTitles_29 : decode cX12_settleTitles 29 = .ok (.iload_n 2, 1) := by decide +kernel
theorem dX12_settleTitles_30 : decode cX12_settleTitles 30 = .ok (.iastore, 1) := by decide +kernel
theorem dX12_settleTitles_31 : decode cX12_settleTitles 31 = .ok (.aload_n 0, 1) := by decide +kernel
theorem dX12_settleTitles_32 : decode cX12_settleTitles 32 = .ok (.dup, 1) := by decide +kernel
theorem dX12_settleTitles_33 : decode cX12_settleTitles 33 = .ok (.getfield 212, 3) := by decide +kernel
theorem dX12_settleTitles_36 : decode cX12_settleTitles 36 = .ok (.iconst 1, 1) := by decide +kernel
theorem dX12_settleTitles_37 : decode cX12_settleTitles 37 = .ok (.iadd, 1) := by decide +kernel
theorem dX12_settleTitles_38 : decode cX12_settleTitles 38 = .ok (.putfield 212, 3) := by decide +kernel
theorem dX12_settleTitles_41 : decode cX12_settleTitles 41 = .ok (.aload_n 0, 1) := by decide +kernel
theorem dX12_settleTitles_42 : decode cX12_settleTitles 42 = .ok (.getfield 58, 3) := by decide +kernel
theorem dX12_settleTitles_45 : decode cX12_settleTitles 45 = .ok (.iload_n 1, 1) := by decide +kernel
theorem dX12_settleTitles_46 : decode cX12_settleTitles 46 = .ok (.aload_n 0, 1) := by decide +kernel
theorem dX12_settleTitles_47 : decode cX12_settleTitles 47 = .ok (.getfield 212, 3) := by decide +kernel
theorem dX12_settleTitles_50 : decode cX12_settleTitles 50 = .ok (.iastore, 1) := by decide +kernel
theorem dX12_settleTitles_51 : decode cX12_settleTitles 51 = .ok (.iinc 1 1, 3) := by decide +kernel
theorem dX12_settleTitles_54 : decode cX12_settleTitles 54 = .ok (.goto (-52), 3) := by decide +kernel
theorem dX12_settleTitles_57 : decode cX12_settleTitles 57 = .ok (.return_, 1) := by decide +kernel
theorem dX12_newVersion_0 : decode cX12_newVersion 0 = .ok (.iconst 0, 1) := by decide +kernel
theorem dX12_newVersion_1 : decode cX12_newVersion 1 = .ok (.istore 6, 2) := by decide +kernel
theorem dX12_newVersion_3 : decode cX12_newVersion 3 = .ok (.iload 6, 2) := by decide +kernel
theorem dX12_newVersion_5 : decode cX12_newVersion 5 = .ok (.iload 5, 2) := by decide +kernel
theorem dX12_newVersion_7 : decode cX12_newVersion 7 = .ok (.if_icmp .ge 31, 3) := by decide +kernel
theorem dX12_newVersion_10 : decode cX12_newVersion 10 = .ok (.aload_n 0, 1) := by decide +kernel
theorem dX12_newVersion_11 : decode cX12_newVersion 11 = .ok (.getfield 22, 3) := by decide +kernel
theorem dX12_newVersion_14 : decode cX12_newVersion 14 = .ok (.bipush 30, 2) := by decide +kernel
theorem dX12_newVersion_16 : decode cX12_newVersion 16 = .ok (.aload_n 0, 1) := by decide +kernel
theorem dX12_newVersion_17 : decode cX12_newVersion 17 = .ok (.getfield 192, 3) := by decide +kernel
theorem dX12_newVersion_20 : decode cX12_newVersion 20 = .ok (.imul, 1) := by decide +kernel
theorem dX12_newVersion_21 : decode cX12_newVersion 21 = .ok (.iload 6, 2) := by decide +kernel
theorem dX12_newVersion_23 : decode cX12_newVersion 23 = .ok (.iadd, 1) := by decide +kernel
theorem dX12_newVersion_24 : decode cX12_newVersion 24 = .ok (.aload_n 3, 1) := by decide +kernel
theorem dX12_newVersion_25 : decode cX12_newVersion 25 = .ok (.iload 4, 2) := by decide +kernel
theorem dX12_newVersion_27 : decode cX12_newVersion 27 = .ok (.iload 6, 2) := by decide +kernel
theorem dX12_newVersion_29 : decode cX12_newVersion 29 = .ok (.iadd, 1) := by decide +kernel
theorem dX12_newVersion_30 : decode cX12_newVersion 30 = .ok (.iaload, 1) := by decide +kernel
theorem dX12_newVersion_31 : decode cX12_newVersion 31 = .ok (.iastore, 1) := by decide +kernel
theorem dX12_newVersion_32 : decode cX12_newVersion 32 = .ok (.iinc 6 1, 3) := by decide +kernel
theorem dX12_newVersion_35 : decode cX12_newVersion 35 = .ok (.goto (-32), 3) := by decide +kernel
theorem dX12_newVersion_38 : decode cX12_newVersion 38 = .ok (.aload_n 0, 1) := by decide +kernel
theorem dX12_newVersion_39 : decode cX12_newVersion 39 = .ok (.getfield 25, 3) := by decide +kernel
theorem dX12_newVersion_42 : decode cX12_newVersion 42 = .ok (.aload_n 0, 1) := by decide +kernel
theorem dX12_newVersion_43 : decode cX12_newVersion 43 = .ok (.getfield 192, 3) := by decide +kernel
theorem dX12_newVersion_46 : decode cX12_newVersion 46 = .ok (.iload 5, 2) := by decide +kernel
theorem dX12_newVersion_48 : decode cX12_newVersion 48 = .ok (.iastore, 1) := by decide +kernel
theorem dX12_newVersion_49 : decode cX12_newVersion 49 = .ok (.aload_n 0, 1) := by decide +kernel
theorem dX12_newVersion_50 : decode cX12_newVersion 50 = .ok (.getfield 28, 3) := by decide +kernel
theorem dX12_newVersion_53 : decode cX12_newVersion 53 = .ok (.aload_n 0, 1) := by decide +kernel
theorem dX12_newVersion_54 : decode cX12_newVersion 54 = .ok (.getfield 192, 3) := by decide +kernel
theorem dX12_newVersion_57 : decode cX12_newVersion 57 = .ok (.iload_n 2, 1) := by decide +kernel
theorem dX12_newVersion_58 : decode cX12_newVersion 58 = .ok (.iastore, 1) := by decide +kernel
theorem dX12_newVersion_59 : decode cX12_newVersion 59 = .ok (.aload_n 0, 1) := by decide +kernel
theorem dX12_newVersion_60 : decode cX12_newVersion 60 = .ok (.getfield 31, 3) := by decide +kernel
theorem dX12_newVersion_63 : decode cX12_newVersion 63 = .ok (.aload_n 0, 1) := by decide +kernel
theorem dX12_newVersion_64 : decode cX12_newVersion 64 = .ok (.getfield 192, 3) := by decide +kernel
theorem dX12_newVersion_67 : decode cX12_newVersion 67 = .ok (.iload_n 1, 1) := by decide +kernel
theorem dX12_newVersion_68 : decode cX12_newVersion 68 = .ok (.iastore, 1) := by decide +kernel
theorem dX12_newVersion_69 : decode cX12_newVersion 69 = .ok (.aload_n 0, 1) := by decide +kernel
theorem dX12_newVersion_70 : decode cX12_newVersion 70 = .ok (.dup, 1) := by decide +kernel
theorem dX12_newVersion_71 : decode cX12_newVersion 71 = .ok (.getfield 192, 3) := by decide +kernel
theorem dX12_newVersion_74 : decode cX12_newVersion 74 = .ok (.iconst 1, 1) := by decide +kernel
theorem dX12_newVersion_75 : decode cX12_newVersion 75 = .ok (.iadd, 1) := by decide +kernel
theorem dX12_newVersion_76 : decode cX12_newVersion 76 = .ok (.putfield 192, 3) := by decide +kernel
theorem dX12_newVersion_79 : decode cX12_newVersion 79 = .ok (.aload_n 0, 1) := by decide +kernel
theorem dX12_newVersion_80 : decode cX12_newVersion 80 = .ok (.getfield 192, 3) := by decide +kernel
theorem dX12_newVersion_83 : decode cX12_newVersion 83 = .ok (.iconst 1, 1) := by decide +kernel
theorem dX12_newVersion_84 : decode cX12_newVersion 84 = .ok (.isub, 1) := by decide +kernel
theorem dX12_newVersion_85 : decode cX12_newVersion 85 = .ok (.ireturn, 1) := by decide +kernel
theorem dX12_newVersionNow_0 : decode cX12_newVersionNow 0 = .ok (.aload_n 0, 1) := by decide +kernel
theorem dX12_newVersionNow_1 : decode cX12_newVersionNow 1 = .ok (.dup, 1) := by decide +kernel
theorem dX12_newVersionNow_2 : decode cX12_newVersionNow 2 = .ok (.getfield 215, 3) := by decide +kernel
theorem dX12_newVersionNow_5 : decode cX12_newVersionNow 5 = .ok (.iconst 1, 1) := by decide +kernel
theorem dX12_newVersionNow_6 : decode cX12_newVersionNow 6 = .ok (.iadd, 1) := by decide +kernel
theorem dX12_newVersionNow_7 : decode cX12_newVersionNow 7 = .ok (.putfield 215, 3) := by decide +kernel
theorem dX12_newVersionNow_10 : decode cX12_newVersionNow 10 = .ok (.aload_n 0, 1) := by decide +kernel
theorem dX12_newVersionNow_11 : decode cX12_newVersionNow 11 = .ok (.iload_n 1, 1) := by decide +kernel
theorem dX12_newVersionNow_12 : decode cX12_newVersionNow 12 = .ok (.aload_n 0, 1) := by decide +kernel
theorem dX12_newVersionNow_13 : decode cX12_newVersionNow 13 = .ok (.getfield 215, 3) := by decide +kernel
theorem dX12_newVersionNow_16 : decode cX12_newVersionNow 16 = .ok (.aload_n 2, 1) := by decide +kernel
theorem dX12_newVersionNow_17 : decode cX12_newVersionNow 17 = .ok (.iload_n 3, 1) := by decide +kernel
theorem dX12_newVersionNow_18 : decode cX12_newVersionNow 18 = .ok (.iload 4, 2) := by decide +kernel
theorem dX12_newVersionNow_20 : decode cX12_newVersionNow 20 = .ok (.invokevirtual 218, 3) := by decide +kernel
theorem dX12_newVersionNow_23 : decode cX12_newVersionNow 23 = .ok (.ireturn, 1) := by decide +kernel
theorem dX12_newPage_0 : decode cX12_newPage 0 = .ok (.aload_n 0, 1) := by decide +kernel
theorem dX12_newPage_1 : decode cX12_newPage 1 = .ok (.getfield 19, 3) := by decide +kernel
theorem dX12_newPage_4 : decode cX12_newPage 4 = .ok (.iload_n 1, 1) := by decide +kernel
theorem dX12_newPage_5 : decode cX12_newPage 5 = .ok (.aload_n 0, 1) := by decide +kernel
theorem dX12_newPage_6 : decode cX12_newPage 6 = .ok (.getfield 222, 3) := by decide +kernel
theorem dX12_newPage_9 : decode cX12_newPage 9 = .ok (.iastore, 1) := by decide +kernel
theorem dX12_newPage_10 : decode cX12_newPage 10 = .ok (.aload_n 0, 1) := by decide +kernel
theorem dX12_newPage_11 : decode cX12_newPage 11 = .ok (.dup, 1) := by decide +kernel
theorem dX12_newPage_12 : decode cX12_newPage 12 = .ok (.getfield 222, 3) := by decide +kernel
theorem dX12_newPage_15 : decode cX12_newPage 15 = .ok (.iconst 1, 1) := by decide +kernel
theorem dX12_newPage_16 : decode cX12_newPage 16 = .ok (.iadd, 1) := by decide +kernel
theorem dX12_newPage_17 : decode cX12_newPage 17 = .ok (.putfield 222, 3) := by decide +kernel
theorem dX12_newPage_20 : decode cX12_newPage 20 = .ok (.aload_n 0, 1) := by decide +kernel
theorem dX12_newPage_21 : decode cX12_newPage 21 = .ok (.getfield 19, 3) := by decide +kernel
theorem dX12_newPage_24 : decode cX12_newPage 24 = .ok (.iload_n 1, 1) := by decide +kernel
theorem dX12_newPage_25 : decode cX12_newPage 25 = .ok (.iaload, 1) := by decide +kernel
theorem dX12_newPage_26 : decode cX12_newPage 26 = .ok (.ireturn, 1) := by decide +kernel
theorem dX12_dropRendering_0 : decode cX12_dropRendering 0 = .ok (.aload_n 0, 1) := by decide +kernel
theorem dX12_dropRendering_1 : decode cX12_dropRendering 1 = .ok (.getfield 70, 3) := by decide +kernel
theorem dX12_dropRendering_4 : decode cX12_dropRendering 4 = .ok (.iload_n 1, 1) := by decide +kernel
theorem dX12_dropRendering_5 : decode cX12_dropRendering 5 = .ok (.baload, 1) := by decide +kernel
theorem dX12_dropRendering_6 : decode cX12_dropRendering 6 = .ok (.ifCond .eq 16, 3) := by decide +kernel
theorem dX12_dropRendering_9 : decode cX12_dropRendering 9 = .ok (.aload_n 0, 1) := by decide +kernel
theorem dX12_dropRendering_10 : decode cX12_dropRendering 10 = .ok (.getfield 70, 3) := by decide +kernel
theorem dX12_dropRendering_13 : decode cX12_dropRendering 13 = .ok (.iload_n 1, 1) := by decide +kernel
theorem dX12_dropRendering_14 : decode cX12_dropRendering 14 = .ok (.iconst 0, 1) := by decide +kernel
theorem dX12_dropRendering_15 : decode cX12_dropRendering 15 = .ok (.bastore, 1) := by decide +kernel
theorem dX12_dropRendering_16 : decode cX12_dropRendering 16 = .ok (.aload_n 0, 1) := by decide +kernel
theorem dX12_dropRendering_17 : decode cX12_dropRendering 17 = .ok (.iload_n 1, 1) := by decide +kernel
theorem dX12_dropRendering_18 : decode cX12_dropRendering 18 = .ok (.iconst 0, 1) := by decide +kernel
theorem dX12_dropRendering_19 : decode cX12_dropRendering 19 = .ok (.invokevirtual 225, 3) := by decide +kernel
theorem dX12_dropRendering_22 : decode cX12_dropRendering 22 = .ok (.return_, 1) := by decide +kernel
theorem dX12_setCategories_0 : decode cX12_setCategories 0 = .ok (.iconst 0, 1) := by decide +kernel
theorem dX12_setCategories_1 : decode cX12_setCategories 1 = .ok (.istore_n 3, 1) := by decide +kernel
theorem dX12_setCategories_2 : decode cX12_setCategories 2 = .ok (.iload_n 3, 1) := by decide +kernel
theorem dX12_setCategories_3 : decode cX12_setCategories 3 = .ok (.bipush 8, 2) := by decide +kernel
theorem dX12_setCategories_5 : decode cX12_setCategories 5 = .ok (.if_icmp .ge 47, 3) := by decide +kernel
theorem dX12_setCategories_8 : decode cX12_setCategories 8 = .ok (.aload_n 0, 1) := by decide +kernel
theorem dX12_setCategories_9 : decode cX12_setCategories 9 = .ok (.getfield 86, 3) := by decide +kernel
theorem dX12_setCategories_12 : decode cX12_setCategories 12 = .ok (.iload_n 1, 1) := by decide +kernel
theorem dX12_setCategories_13 : decode cX12_setCategories 13 = .ok (.iaload, 1) := by decide +kernel
theorem dX12_setCategories_14 : decode cX12_setCategories 14 = .ok (.iload_n 3, 1) := by decide +kernel
theorem dX12_setCategories_15 : decode cX12_setCategories 15 = .ok (.ishr, 1) := by decide +kernel
theorem dX12_setCategories_16 : decode cX12_setCategories 16 = .ok (.iconst 1, 1) := by decide +kernel
theorem dX12_setCategories_17 : decode cX12_setCategories 17 = .ok (.iand, 1) := by decide +kernel
theorem dX12_setCategories_18 : decode cX12_setCategories 18 = .ok (.iload_n 2, 1) := by decide +kernel
theorem dX12_setCategories_19 : decode cX12_setCategories 19 = .ok (.iload_n 3, 1) := by decide +kernel
theorem dX12_setCategories_20 : decode cX12_setCategories 20 = .ok (.ishr, 1) := by decide +kernel
theorem dX12_setCategories_21 : decode cX12_setCategories 21 = .ok (.iconst 1, 1) := by decide +kernel
theorem dX12_setCategories_22 : decode cX12_setCategories 22 = .ok (.iand, 1) := by decide +kernel
theorem dX12_setCategories_23 : decode cX12_setCategories 23 = .ok (.if_icmp .eq 23, 3) := by decide +kernel
theorem dX12_setCategories_26 : decode cX12_setCategories 26 = .ok (.aload_n 0, 1) := by decide +kernel
theorem dX12_setCategories_27 : decode cX12_setCategories 27 = .ok (.dup, 1) := by decide +kernel
theorem dX12_setCategories_28 : decode cX12_setCategories 28 = .ok (.getfield 212, 3) := by decide +kernel
theorem dX12_setCategories_31 : decode cX12_setCategories 31 = .ok (.iconst 1, 1) := by decide +kernel
theorem dX12_setCategories_32 : decode cX12_setCategories 32 = .ok (.iadd, 1) := by decide +kernel
theorem dX12_setCategories_33 : decode cX12_setCategories 33 = .ok (.putfield 212, 3) := by decide +kernel
theorem dX12_setCategories_36 : decode cX12_setCategories 36 = .ok (.aload_n 0, 1) := by decide +kernel
theorem dX12_setCategories_37 : decode cX12_setCategories 37 = .ok (.getfield 61, 3) := by decide +kernel
theorem dX12_setCategories_40 : decode cX12_setCategories 40 = .ok (.iload_n 3, 1) := by decide +kernel
theorem dX12_setCategories_41 : decode cX12_setCategories 41 = .ok (.aload_n 0, 1) := by decide +kernel
theorem dX12_setCategories_42 : decode cX12_setCategories 42 = .ok (.getfield 212, 3) := by decide +kernel
theorem dX12_setCategories_45 : decode cX12_setCategories 45 = .ok (.iastore, 1) := by decide +kernel
theorem dX12_setCategories_46 : decode cX12_setCategories 46 = .ok (.iinc 3 1, 3) := by decide +kernel
theorem dX12_setCategories_49 : decode cX12_setCategories 49 = .ok (.goto (-47), 3) := by decide +kernel
theorem dX12_setCategories_52 : decode cX12_setCategories 52 = .ok (.aload_n 0, 1) := by decide +kernel
theorem dX12_setCategories_53 : decode cX12_setCategories 53 = .ok (.getfield 86, 3) := by decide +kernel
theorem dX12_setCategories_56 : decode cX12_setCategories 56 = .ok (.iload_n 1, 1) := by decide +kernel
theorem dX12_setCategories_57 : decode cX12_setCategories 57 = .ok (.iload_n 2, 1) := by decide +kernel
theorem dX12_setCategories_58 : decode cX12_setCategories 58 = .ok (.iastore, 1) := by decide +kernel
theorem dX12_setCategories_59 : decode cX12_setCategories 59 = .ok (.return_, 1) := by decide +kernel
theorem dX12_redirectOf_0 : decode cX12_redirectOf 0 = .ok (.aload_n 0, 1) := by decide +kernel
theorem dX12_redirectOf_1 : decode cX12_redirectOf 1 = .ok (.getfield 22, 3) := by decide +kernel
theorem dX12_redirectOf_4 : decode cX12_redirectOf 4 = .ok (.bipush 30, 2) := by decide +kernel
theorem dX12_redirectOf_6 : decode cX12_redirectOf 6 = .ok (.iload_n 1, 1) := by decide +kernel
theorem dX12_redirectOf_7 : decode cX12_redirectOf 7 = .ok (.imul, 1) := by decide +kernel
theorem dX12_redirectOf_8 : decode cX12_redirectOf 8 = .ok (.iaload, 1) := by decide +kernel
theorem dX12_redirectOf_9 : decode cX12_redirectOf 9 = .ok (.istore_n 2, 1) := by decide +kernel
theorem dX12_redirectOf_10 : decode cX12_redirectOf 10 = .ok (.iload_n 2, 1) := by decide +kernel
theorem dX12_redirectOf_11 : decode cX12_redirectOf 11 = .ok (.sipush 1000, 3) := by decide +kernel
theorem dX12_redirectOf_14 : decode cX12_redirectOf 14 = .ok (.idiv, 1) := by decide +kernel
theorem dX12_redirectOf_15 : decode cX12_redirectOf 15 = .ok (.bipush 12, 2) := by decide +kernel
theorem dX12_redirectOf_17 : decode cX12_redirectOf 17 = .ok (.if_icmp .ne 11, 3) := by decide +kernel
theorem dX12_redirectOf_20 : decode cX12_redirectOf 20 = .ok (.iload_n 2, 1) := by decide +kernel
theorem dX12_redirectOf_21 : decode cX12_redirectOf 21 = .ok (.sipush 1000, 3) := by decide +kernel
theorem dX12_redirectOf_24 : decode cX12_redirectOf 24 = .ok (.irem, 1) := by decide +kernel
theorem dX12_redirectOf_25 : decode cX12_redirectOf 25 = .ok (.goto 4, 3) := by decide +kernel
theorem dX12_redirectOf_28 : decode cX12_redirectOf 28 = .ok (.iconst (-1), 1) := by decide +kernel
theorem dX12_redirectOf_29 : decode cX12_redirectOf 29 = .ok (.ireturn, 1) := by decide +kernel
theorem dX12_approvedUpTo_0 : decode cX12_approvedUpTo 0 = .ok (.iconst (-1), 1) := by decide +kernel
theorem dX12_approvedUpTo_1 : decode cX12_approvedUpTo 1 = .ok (.istore_n 3, 1) := by decide +kernel
theorem dX12_approvedUpTo_2 : decode cX12_approvedUpTo 2 = .ok (.iconst 0, 1) := by decide +kernel
theorem dX12_approvedUpTo_3 : decode cX12_approvedUpTo 3 = .ok (.istore 4, 2) := by decide +kernel
theorem dX12_approvedUpTo_5 : decode cX12_approvedUpTo 5 = .ok (.iload 4, 2) := by decide +kernel
theorem dX12_approvedUpTo_7 : decode cX12_approvedUpTo 7 = .ok (.aload_n 0, 1) := by decide +kernel
theorem dX12_approvedUpTo_8 : decode cX12_approvedUpTo 8 = .ok (.getfield 229, 3) := by decide +kernel
theorem dX12_approvedUpTo_11 : decode cX12_approvedUpTo 11 = .ok (.if_icmp .ge 43, 3) := by decide +kernel
theorem dX12_approvedUpTo_14 : decode cX12_approvedUpTo 14 = .ok (.aload_n 0, 1) := by decide +kernel
theorem dX12_approvedUpTo_15 : decode cX12_approvedUpTo 15 = .ok (.getfield 34, 3) := by decide +kernel
theorem dX12_approvedUpTo_18 : decode cX12_approvedUpTo 18 = .ok (.iload 4, 2) := by decide +kernel
theorem dX12_approvedUpTo_20 : decode cX12_approvedUpTo 20 = .ok (.iaload, 1) := by decide +kernel
theorem dX12_approvedUpTo_21 : decode cX12_approvedUpTo 21 = .ok (.iload_n 1, 1) := by decide +kernel
theorem dX12_approvedUpTo_22 : decode cX12_approvedUpTo 22 = .ok (.if_icmp .ne 24, 3) := by decide +kernel
theorem dX12_approvedUpTo_25 : decode cX12_approvedUpTo 25 = .ok (.aload_n 0, 1) := by decide +kernel
theorem dX12_approvedUpTo_26 : decode cX12_approvedUpTo 26 = .ok (.getfield 37, 3) := by decide +kernel
theorem dX12_approvedUpTo_29 : decode cX12_approvedUpTo 29 = .ok (.iload 4, 2) := by decide +kernel
theorem dX12_approvedUpTo_31 : decode cX12_approvedUpTo 31 = .ok (.iaload, 1) := by decide +kernel
theorem dX12_approvedUpTo_32 : decode cX12_approvedUpTo 32 = .ok (.iload_n 2, 1) := by decide +kernel
theorem dX12_approvedUpTo_33 : decode cX12_approvedUpTo 33 = .ok (.if_icmp .gt 13, 3) := by decide +kernel
theorem dX12_approvedUpTo_36 : decode cX12_approvedUpTo 36 = .ok (.aload_n 0, 1) := by decide +kernel
theorem dX12_approvedUpTo_37 : decode cX12_approvedUpTo 37 = .ok (.getfield 40, 3) := by decide +kernel
theorem dX12_approvedUpTo_40 : decode cX12_approvedUpTo 40 = .ok (.iload 4, 2) := by decide +kernel
theorem dX12_approvedUpTo_42 : decode cX12_approvedUpTo 42 = .ok (.iaload, 1) := by decide +kernel
theorem dX12_approvedUpTo_43 : decode cX12_approvedUpTo 43 = .ok (.goto 4, 3) := by decide +kernel
theorem dX12_approvedUpTo_46 : decode cX12_approvedUpTo 46 = .ok (.iload_n 3, 1) := by decide +kernel
theorem dX12_approvedUpTo_47 : decode cX12_approvedUpTo 47 = .ok (.istore_n 3, 1) := by decide +kernel
theorem dX12_approvedUpTo_48 : decode cX12_approvedUpTo 48 = .ok (.iinc 4 1, 3) := by decide +kernel
theorem dX12_approvedUpTo_51 : decode cX12_approvedUpTo 51 = .ok (.goto (-46), 3) := by decide +kernel
theorem dX12_approvedUpTo_54 : decode cX12_approvedUpTo 54 = .ok (.iload_n 3, 1) := by decide +kernel
theorem dX12_approvedUpTo_55 : decode cX12_approvedUpTo 55 = .ok (.ireturn, 1) := by decide +kernel
theorem dX12_seenAt_0 : decode cX12_seenAt 0 = .ok (.aload_n 0, 1) := by decide +kernel
theorem dX12_seenAt_1 : decode cX12_seenAt 1 = .ok (.getfield 232, 3) := by decide +kernel
theorem dX12_seenAt_4 : decode cX12_seenAt 4 = .ok (.iconst (-1), 1) := by decide +kernel
theorem dX12_seenAt_5 : decode cX12_seenAt 5 = .ok (.if_icmp .eq 13, 3) := by decide +kernel
theorem dX12_seenAt_8 : decode cX12_seenAt 8 = .ok (.aload_n 0, 1) := by decide +kernel
theorem dX12_seenAt_9 : decode cX12_seenAt 9 = .ok (.getfield 19, 3) := by decide +kernel
theorem dX12_seenAt_12 : decode cX12_seenAt 12 = .ok (.iload_n 1, 1) := by decide +kernel
