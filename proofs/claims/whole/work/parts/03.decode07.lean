theorem dX12_isValue_37 : decode cX12_isValue 37 = .ok (.bipush 6, 2) := by decide +kernel
theorem dX12_isValue_39 : decode cX12_isValue 39 = .ok (.if_icmp .ne 8, 3) := by decide +kernel
theorem dX12_isValue_42 : decode cX12_isValue 42 = .ok (.bipush 9, 2) := by decide +kernel
theorem dX12_isValue_44 : decode cX12_isValue 44 = .ok (.goto 25, 3) := by decide +kernel
theorem dX12_isValue_47 : decode cX12_isValue 47 = .ok (.iload_n 0, 1) := by decide +kernel
theorem dX12_isValue_48 : decode cX12_isValue 48 = .ok (.iconst 4, 1) := by decide +kernel
theorem dX12_isValue_49 : decode cX12_isValue 49 = .ok (.if_icmp .ne 8, 3) := by decide +kernel
theorem dX12_isValue_52 : decode cX12_isValue 52 = .ok (.bipush 6, 2) := by decide +kernel
theorem dX12_isValue_54 : decode cX12_isValue 54 = .ok (.goto 15, 3) := by decide +kernel
theorem dX12_isValue_57 : decode cX12_isValue 57 = .ok (.iload_n 0, 1) := by decide +kernel
theorem dX12_isValue_58 : decode cX12_isValue 58 = .ok (.bipush 11, 2) := by decide +kernel
theorem dX12_isValue_60 : decode cX12_isValue 60 = .ok (.if_icmp .ne 8, 3) := by decide +kernel
theorem dX12_isValue_63 : decode cX12_isValue 63 = .ok (.bipush 7, 2) := by decide +kernel
theorem dX12_isValue_65 : decode cX12_isValue 65 = .ok (.goto 4, 3) := by decide +kernel
theorem dX12_isValue_68 : decode cX12_isValue 68 = .ok (.iconst 0, 1) := by decide +kernel
theorem dX12_isValue_69 : decode cX12_isValue 69 = .ok (.istore_n 2, 1) := by decide +kernel
theorem dX12_isValue_70 : decode cX12_isValue 70 = .ok (.iload_n 1, 1) := by decide +kernel
theorem dX12_isValue_71 : decode cX12_isValue 71 = .ok (.iconst 0, 1) := by decide +kernel
theorem dX12_isValue_72 : decode cX12_isValue 72 = .ok (.iload_n 2, 1) := by decide +kernel
theorem dX12_isValue_73 : decode cX12_isValue 73 = .ok (.invokestatic 184, 3) := by decide +kernel
theorem dX12_isValue_76 : decode cX12_isValue 76 = .ok (.ireturn, 1) := by decide +kernel
theorem dX12_token_0 : decode cX12_token 0 = .ok (.aload_n 0, 1) := by decide +kernel
theorem dX12_token_1 : decode cX12_token 1 = .ok (.iload_n 1, 1) := by decide +kernel
theorem dX12_token_2 : decode cX12_token 2 = .ok (.iconst 0, 1) := by decide +kernel
theorem dX12_token_3 : decode cX12_token 3 = .ok (.bipush 13, 2) := by decide +kernel
theorem dX12_token_5 : decode cX12_token 5 = .ok (.invokestatic 184, 3) := by decide +kernel
theorem dX12_token_8 : decode cX12_token 8 = .ok (.ifCond .eq 11, 3) := by decide +kernel
theorem dX12_token_11 : decode cX12_token 11 = .ok (.iload_n 1, 1) := by decide +kernel
theorem dX12_token_12 : decode cX12_token 12 = .ok (.iload_n 2, 1) := by decide +kernel
theorem dX12_token_13 : decode cX12_token 13 = .ok (.invokestatic 384, 3) := by decide +kernel
theorem dX12_token_16 : decode cX12_token 16 = .ok (.ifCond .ne 7, 3) := by decide +kernel
theorem dX12_token_19 : decode cX12_token 19 = .ok (.iconst 1, 1) := by decide +kernel
theorem dX12_token_20 : decode cX12_token 20 = .ok (.goto 17, 3) := by decide +kernel
theorem dX12_token_23 : decode cX12_token 23 = .ok (.aload_n 0, 1) := by decide +kernel
theorem dX12_token_24 : decode cX12_token 24 = .ok (.getfield 387, 3) := by decide +kernel
theorem dX12_token_27 : decode cX12_token 27 = .ok (.bipush 30, 2) := by decide +kernel
theorem dX12_token_29 : decode cX12_token 29 = .ok (.if_icmp .ne 7, 3) := by decide +kernel
theorem dX12_token_32 : decode cX12_token 32 = .ok (.iconst 2, 1) := by decide +kernel
theorem dX12_token_33 : decode cX12_token 33 = .ok (.goto 4, 3) := by decide +kernel
theorem dX12_token_36 : decode cX12_token 36 = .ok (.iconst 0, 1) := by decide +kernel
theorem dX12_token_37 : decode cX12_token 37 = .ok (.putfield 180, 3) := by decide +kernel
theorem dX12_token_40 : decode cX12_token 40 = .ok (.aload_n 0, 1) := by decide +kernel
theorem dX12_token_41 : decode cX12_token 41 = .ok (.getfield 180, 3) := by decide +kernel
theorem dX12_token_44 : decode cX12_token 44 = .ok (.ifCond .le 5, 3) := by decide +kernel
theorem dX12_token_47 : decode cX12_token 47 = .ok (.iconst 0, 1) := by decide +kernel
theorem dX12_token_48 : decode cX12_token 48 = .ok (.ireturn, 1) := by decide +kernel
theorem dX12_token_49 : decode cX12_token 49 = .ok (.aload_n 0, 1) := by decide +kernel
theorem dX12_token_50 : decode cX12_token 50 = .ok (.getfield 7, 3) := by decide +kernel
theorem dX12_token_53 : decode cX12_token 53 = .ok (.aload_n 0, 1) := by decide +kernel
theorem dX12_token_54 : decode cX12_token 54 = .ok (.getfield 387, 3) := by decide +kernel
theorem dX12_token_57 : decode cX12_token 57 = .ok (.sipush 1000, 3) := by decide +kernel
theorem dX12_token_60 : decode cX12_token 60 = .ok (.iload_n 1, 1) := by decide +kernel
theorem dX12_token_61 : decode cX12_token 61 = .ok (.imul, 1) := by decide +kernel
theorem dX12_token_62 : decode cX12_token 62 = .ok (.iload_n 2, 1) := by decide +kernel
theorem dX12_token_63 : decode cX12_token 63 = .ok (.iadd, 1) := by decide +kernel
theorem dX12_token_64 : decode cX12_token 64 = .ok (.iastore, 1) := by decide +kernel
theorem dX12_token_65 : decode cX12_token 65 = .ok (.aload_n 0, 1) := by decide +kernel
theorem dX12_token_66 : decode cX12_token 66 = .ok (.dup, 1) := by decide +kernel
theorem dX12_token_67 : decode cX12_token 67 = .ok (.getfield 387, 3) := by decide +kernel
theorem dX12_token_70 : decode cX12_token 70 = .ok (.iconst 1, 1) := by decide +kernel
theorem dX12_token_71 : decode cX12_token 71 = .ok (.iadd, 1) := by decide +kernel
theorem dX12_token_72 : decode cX12_token 72 = .ok (.putfield 387, 3) := by decide +kernel
theorem dX12_token_75 : decode cX12_token 75 = .ok (.aload_n 0, 1) := by decide +kernel
theorem dX12_token_76 : decode cX12_token 76 = .ok (.getfield 387, 3) := by decide +kernel
theorem dX12_token_79 : decode cX12_token 79 = .ok (.ireturn, 1) := by decide +kernel
theorem dX12_wipe_0 : decode cX12_wipe 0 = .ok (.aload_n 0, 1) := by decide +kernel
theorem dX12_wipe_1 : decode cX12_wipe 1 = .ok (.iconst 0, 1) := by decide +kernel
theorem dX12_wipe_2 : decode cX12_wipe 2 = .ok (.putfield 180, 3) := by decide +kernel
theorem dX12_wipe_5 : decode cX12_wipe 5 = .ok (.aload_n 0, 1) := by decide +kernel
theorem dX12_wipe_6 : decode cX12_wipe 6 = .ok (.getfield 387, 3) := by decide +kernel
theorem dX12_wipe_9 : decode cX12_wipe 9 = .ok (.istore_n 1, 1) := by decide +kernel
theorem dX12_wipe_10 : decode cX12_wipe 10 = .ok (.aload_n 0, 1) := by decide +kernel
theorem dX12_wipe_11 : decode cX12_wipe 11 = .ok (.iconst 0, 1) := by decide +kernel
theorem dX12_wipe_12 : decode cX12_wipe 12 = .ok (.putfield 387, 3) := by decide +kernel
theorem dX12_wipe_15 : decode cX12_wipe 15 = .ok (.iload_n 1, 1) := by decide +kernel
theorem dX12_wipe_16 : decode cX12_wipe 16 = .ok (.ireturn, 1) := by decide +kernel
theorem dX12_act_0 : decode cX12_act 0 = .ok (.aload_n 0, 1) := by decide +kernel
theorem dX12_act_1 : decode cX12_act 1 = .ok (.iload_n 1, 1) := by decide +kernel
theorem dX12_act_2 : decode cX12_act 2 = .ok (.iconst 0, 1) := by decide +kernel
theorem dX12_act_3 : decode cX12_act 3 = .ok (.iconst 2, 1) := by decide +kernel
theorem dX12_act_4 : decode cX12_act 4 = .ok (.invokestatic 184, 3) := by decide +kernel
theorem dX12_act_7 : decode cX12_act 7 = .ok (.ifCond .eq 7, 3) := by decide +kernel
theorem dX12_act_10 : decode cX12_act 10 = .ok (.iconst 0, 1) := by decide +kernel
theorem dX12_act_11 : decode cX12_act 11 = .ok (.goto 4, 3) := by decide +kernel
theorem dX12_act_14 : decode cX12_act 14 = .ok (.iconst 1, 1) := by decide +kernel
theorem dX12_act_15 : decode cX12_act 15 = .ok (.putfield 180, 3) := by decide +kernel
theorem dX12_act_18 : decode cX12_act 18 = .ok (.aload_n 0, 1) := by decide +kernel
theorem dX12_act_19 : decode cX12_act 19 = .ok (.getfield 180, 3) := by decide +kernel
theorem dX12_act_22 : decode cX12_act 22 = .ok (.ifCond .le 5, 3) := by decide +kernel
theorem dX12_act_25 : decode cX12_act 25 = .ok (.iconst 0, 1) := by decide +kernel
theorem dX12_act_26 : decode cX12_act 26 = .ok (.ireturn, 1) := by decide +kernel
theorem dX12_act_27 : decode cX12_act 27 = .ok (.aload_n 0, 1) := by decide +kernel
theorem dX12_act_28 : decode cX12_act 28 = .ok (.getfield 390, 3) := by decide +kernel
theorem dX12_act_31 : decode cX12_act 31 = .ok (.istore_n 2, 1) := by decide +kernel
theorem dX12_act_32 : decode cX12_act 32 = .ok (.aload_n 0, 1) := by decide +kernel
theorem dX12_act_33 : decode cX12_act 33 = .ok (.iload_n 1, 1) := by decide +kernel
theorem dX12_act_34 : decode cX12_act 34 = .ok (.putfield 390, 3) := by decide +kernel
theorem dX12_act_37 : decode cX12_act 37 = .ok (.iload_n 2, 1) := by decide +kernel
theorem dX12_act_38 : decode cX12_act 38 = .ok (.ireturn, 1) := by decide +kernel
theorem dX12_mayAt_0 : decode cX12_mayAt 0 = .ok (.aload_n 0, 1) := by decide +kernel
theorem dX12_mayAt_1 : decode cX12_mayAt 1 = .ok (.getfield 390, 3) := by decide +kernel
theorem dX12_mayAt_4 : decode cX12_mayAt 4 = .ok (.aload_n 0, 1) := by decide +kernel
theorem dX12_mayAt_5 : decode cX12_mayAt 5 = .ok (.getfield 13, 3) := by decide +kernel
theorem dX12_mayAt_8 : decode cX12_mayAt 8 = .ok (.iload_n 1, 1) := by decide +kernel
theorem dX12_mayAt_9 : decode cX12_mayAt 9 = .ok (.iaload, 1) := by decide +kernel
theorem dX12_mayAt_10 : decode cX12_mayAt 10 = .ok (.if_icmp .lt 7, 3) := by decide +kernel
theorem dX12_mayAt_13 : decode cX12_mayAt 13 = .ok (.iconst 1, 1) := by decide +kernel
theorem dX12_mayAt_14 : decode cX12_mayAt 14 = .ok (.goto 4, 3) := by decide +kernel
theorem dX12_mayAt_17 : decode cX12_mayAt 17 = .ok (.iconst 0, 1) := by decide +kernel
theorem dX12_mayAt_18 : decode cX12_mayAt 18 = .ok (.ireturn, 1) := by decide +kernel
theorem dX12_protect_0 : decode cX12_protect 0 = .ok (.aload_n 0, 1) := by decide +kernel
theorem dX12_protect_1 : decode cX12_protect 1 = .ok (.iload_n 1, 1) := by decide +kernel
theorem dX12_protect_2 : decode cX12_protect 2 = .ok (.invokestatic 188, 3) := by decide +kernel
theorem dX12_protect_5 : decode cX12_protect 5 = .ok (.ifCond .ne 7, 3) := by decide +kernel
theorem dX12_protect_8 : decode cX12_protect 8 = .ok (.iconst 1, 1) := by decide +kernel
theorem dX12_protect_9 : decode cX12_protect 9 = .ok (.goto 37, 3) := by decide +kernel
theorem dX12_protect_12 : decode cX12_protect 12 = .ok (.iload_n 2, 1) := by decide +kernel
theorem dX12_protect_13 : decode cX12_protect 13 = .ok (.iconst 0, 1) := by decide +kernel
theorem dX12_protect_14 : decode cX12_protect 14 = .ok (.iconst 2, 1) := by decide +kernel
theorem dX12_protect_15 : decode cX12_protect 15 = .ok (.invokestatic 184, 3) := by decide +kernel
theorem dX12_protect_18 : decode cX12_protect 18 = .ok (.ifCond .ne 7, 3) := by decide +kernel
theorem dX12_protect_21 : decode cX12_protect 21 = .ok (.iconst 2, 1) := by decide +kernel
theorem dX12_protect_22 : decode cX12_protect 22 = .ok (.goto 24, 3) := by decide +kernel
theorem dX12_protect_25 : decode cX12_protect 25 = .ok (.aload_n 0, 1) := by decide +kernel
theorem dX12_protect_26 : decode cX12_protect 26 = .ok (.iload_n 1, 1) := by decide +kernel
theorem dX12_protect_27 : decode cX12_protect 27 = .ok (.invokevirtual 393, 3) := by decide +kernel
theorem dX12_protect_30 : decode cX12_protect 30 = .ok (.ifCond .eq 11, 3) := by decide +kernel
theorem dX12_protect_33 : decode cX12_protect 33 = .ok (.aload_n 0, 1) := by decide +kernel
theorem dX12_protect_34 : decode cX12_protect 34 = .ok (.getfield 390, 3) := by decide +kernel
theorem dX12_protect_37 : decode cX12_protect 37 = .ok (.iload_n 2, 1) := by decide +kernel
theorem dX12_protect_38 : decode cX12_protect 38 = .ok (.if_icmp .ge 7, 3) := by decide +kernel
theorem dX12_protect_41 : decode cX12_protect 41 = .ok (.iconst 3, 1) := by decide +kernel
theorem dX12_protect_42 : decode cX12_protect 42 = .ok (.goto 4, 3) := by decide +kernel
theorem dX12_protect_45 : decode cX12_protect 45 = .ok (.iconst 0, 1) := by decide +kernel
theorem dX12_protect_46 : decode cX12_protect 46 = .ok (.putfield 180, 3) := by decide +kernel
theorem dX12_protect_49 : decode cX12_protect 49 = .ok (.aload_n 0, 1) := by decide +kernel
theorem dX12_protect_50 : decode cX12_protect 50 = .ok (.getfield 180, 3) := by decide +kernel
theorem dX12_protect_53 : decode cX12_protect 53 = .ok (.ifCond .le 5, 3) := by decide +kernel
theorem dX12_protect_56 : decode cX12_protect 56 = .ok (.iconst 0, 1) := by decide +kernel
theorem dX12_protect_57 : decode cX12_protect 57 = .ok (.ireturn, 1) := by decide +kernel
theorem dX12_protect_58 : decode cX12_protect 58 = .ok (.aload_n 0, 1) := by decide +kernel
theorem dX12_protect_59 : decode cX12_protect 59 = .ok (.getfield 13, 3) := by decide +kernel
theorem dX12_protect_62 : decode cX12_protect 62 = .ok (.iload_n 1, 1) := by decide +kernel
theorem dX12_protect_63 : decode cX12_protect 63 = .ok (.iaload, 1) := by decide +kernel
theorem dX12_protect_64 : decode cX12_protect 64 = .ok (.istore_n 3, 1) := by decide +kernel
theorem dX12_protect_65 : decode cX12_protect 65 = .ok (.aload_n 0, 1) := by decide +kernel
theorem dX12_protect_66 : decode cX12_protect 66 = .ok (.getfield 13, 3) := by decide +kernel
theorem dX12_protect_69 : decode cX12_protect 69 = .ok (.iload_n 1, 1) := by decide +kernel
theorem dX12_protect_70 : decode cX12_protect 70 = .ok (.iload_n 2, 1) := by decide +kernel
theorem dX12_protect_71 : decode cX12_protect 71 = .ok (.iastore, 1) := by decide +kernel
theorem dX12_protect_72 : decode cX12_protect 72 = .ok (.iload_n 3, 1) := by decide +kernel
theorem dX12_protect_73 : decode cX12_protect 73 = .ok (.ireturn, 1) := by decide +kernel
theorem dX12_fromDraft_0 : decode cX12_fromDraft 0 = .ok (.aload_n 0, 1) := by decide +kernel
theorem dX12_fromDraft_1 : decode cX12_fromDraft 1 = .ok (.iload_n 1, 1) := by decide +kernel
theorem dX12_fromDraft_2 : decode cX12_fromDraft 2 = .ok (.iload_n 2, 1) := by decide +kernel
theorem dX12_fromDraft_3 : decode cX12_fromDraft 3 = .ok (.aload_n 0, 1) := by decide +kernel
theorem dX12_fromDraft_4 : decode cX12_fromDraft 4 = .ok (.getfield 7, 3) := by decide +kernel
theorem dX12_fromDraft_7 : decode cX12_fromDraft 7 = .ok (.iconst 0, 1) := by decide +kernel
theorem dX12_fromDraft_8 : decode cX12_fromDraft 8 = .ok (.aload_n 0, 1) := by decide +kernel
theorem dX12_fromDraft_9 : decode cX12_fromDraft 9 = .ok (.getfield 387, 3) := by decide +kernel
theorem dX12_fromDraft_12 : decode cX12_fromDraft 12 = .ok (.invokevirtual 218, 3) := by decide +kernel
theorem dX12_fromDraft_15 : decode cX12_fromDraft 15 = .ok (.istore_n 3, 1) := by decide +kernel
theorem dX12_fromDraft_16 : decode cX12_fromDraft 16 = .ok (.aload_n 0, 1) := by decide +kernel
theorem dX12_fromDraft_17 : decode cX12_fromDraft 17 = .ok (.iconst 0, 1) := by decide +kernel
theorem dX12_fromDraft_18 : decode cX12_fromDraft 18 = .ok (.putfield 387, 3) := by decide +kernel
theorem dX12_fromDraft_21 : decode cX12_fromDraft 21 = .ok (.aload_n 0, 1) := by decide +kernel
theorem dX12_fromDraft_22 : decode cX12_fromDraft 22 = .ok (.invokevirtual 396, 3) := by decide +kernel
theorem dX12_fromDraft_25 : decode cX12_fromDraft 25 = .ok (.iload_n 3, 1) := by decide +kernel
theorem dX12_fromDraft_26 : decode cX12_fromDraft 26 = .ok (.ireturn, 1) := by decide +kernel
theorem dX12_create_0 : decode cX12_create 0 = .ok (.aload_n 0, 1) := by decide +kernel
theorem dX12_create_1 : decode cX12_create 1 = .ok (.iload_n 1, 1) := by decide +kernel
theorem dX12_create_2 : decode cX12_create 2 = .ok (.invokestatic 188, 3) := by decide +kernel
theorem dX12_create_5 : decode cX12_create 5 = .ok (.ifCond .ne 7, 3) := by decide +kernel
theorem dX12_create_8 : decode cX12_create 8 = .ok (.iconst 1, 1) := by decide +kernel
theorem dX12_create_9 : decode cX12_create 9 = .ok (.goto 51, 3) := by decide +kernel
theorem dX12_create_12 : decode cX12_create 12 = .ok (.aload_n 0, 1) := by decide +kernel
theorem dX12_create_13 : decode cX12_create 13 = .ok (.getfield 19, 3) := by decide +kernel
theorem dX12_create_16 : decode cX12_create 16 = .ok (.iload_n 1, 1) := by decide +kernel
theorem dX12_create_17 : decode cX12_create 17 = .ok (.iaload, 1) := by decide +kernel
theorem dX12_create_18 : decode cX12_create 18 = .ok (.iconst (-1), 1) := by decide +kernel
theorem dX12_create_19 : decode cX12_create 19 = .ok (.if_icmp .ne 36, 3) := by decide +kernel
theorem dX12_create_22 : decode cX12_create 22 = .ok (.aload_n 0, 1) := by decide +kernel
theorem dX12_create_23 : decode cX12_create 23 = .ok (.iload_n 1, 1) := by decide +kernel
theorem dX12_create_24 : decode cX12_create 24 = .ok (.invokevirtual 393, 3) := by decide +kernel
theorem dX12_create_27 : decode cX12_create 27 = .ok (.ifCond .eq 28, 3) := by decide +kernel
theorem dX12_create_30 : decode cX12_create 30 = .ok (.aload_n 0, 1) := by decide +kernel
theorem dX12_create_31 : decode cX12_create 31 = .ok (.aload_n 0, 1) := by decide +kernel
theorem dX12_create_32 : decode cX12_create 32 = .ok (.getfield 7, 3) := by decide +kernel
theorem dX12_create_35 : decode cX12_create 35 = .ok (.iconst 0, 1) := by decide +kernel
theorem dX12_create_36 : decode cX12_create 36 = .ok (.aload_n 0, 1) := by decide +kernel
theorem dX12_create_37 : decode cX12_create 37 = .ok (.getfield 387, 3) := by decide +kernel
theorem dX12_create_40 : decode cX12_create 40 = .ok (.invokevirtual 399, 3) := by decide +kernel
theorem dX12_create_43 : decode cX12_create 43 = .ok (.ifCond .eq 12, 3) := by decide +kernel
theorem dX12_create_46 : decode cX12_create 46 = .ok (.aload_n 0, 1) := by decide +kernel
theorem dX12_create_47 : decode cX12_create 47 = .ok (.getfield 192, 3) := by decide +kernel
theorem dX12_create_50 : decode cX12_create 50 = .ok (.bipush 120, 2) := by decide +kernel
theorem dX12_create_52 : decode cX12_create 52 = .ok (.if_icmp .ne 7, 3) := by decide +kernel
theorem dX12_create_55 : decode cX12_create 55 = .ok (.iconst 2, 1) := by decide +kernel
theorem dX12_create_56 : decode cX12_create 56 = .ok (.goto 4, 3) := by decide +kernel
theorem dX12_create_59 : decode cX12_create 59 = .ok (.iconst 0, 1) := by decide +kernel
theorem dX12_create_60 : decode cX12_create 60 = .ok (.putfield 180, 3) := by decide +kernel
theorem dX12_create_63 : decode cX12_create 63 = .ok (.aload_n 0, 1) := by decide +kernel
theorem dX12_create_64 : decode cX12_create 64 = .ok (.getfield 180, 3) := by decide +kernel
theorem dX12_create_67 : decode cX12_create 67 = .ok (.ifCond .le 5, 3) := by decide +kernel
theorem dX12_create_70 : decode cX12_create 70 = .ok (.iconst 0, 1) := by decide +kernel
theorem dX12_create_71 : decode cX12_create 71 = .ok (.ireturn, 1) := by decide +kernel
theorem dX12_create_72 : decode cX12_create 72 = .ok (.aload_n 0, 1) := by decide +kernel
theorem dX12_create_73 : decode cX12_create 73 = .ok (.dup, 1) := by decide +kernel
theorem dX12_create_74 : decode cX12_create 74 = .ok (.getfield 215, 3) := by decide +kernel
theorem dX12_create_77 : decode cX12_create 77 = .ok (.iconst 1, 1) := by decide +kernel
theorem dX12_create_78 : decode cX12_create 78 = .ok (.iadd, 1) := by decide +kernel
theorem dX12_create_79 : decode cX12_create 79 = .ok (.putfield 215, 3) := by decide +kernel
theorem dX12_create_82 : decode cX12_create 82 = .ok (.aload_n 0, 1) := by decide +kernel
theorem dX12_create_83 : decode cX12_create 83 = .ok (.aload_n 0, 1) := by decide +kernel
theorem dX12_create_84 : decode cX12_create 84 = .ok (.iload_n 1, 1) := by decide +kernel
theorem dX12_create_85 : decode cX12_create 85 = .ok (.invokevirtual 403, 3) := by decide +kernel
theorem dX12_create_88 : decode cX12_create 88 = .ok (.aload_n 0, 1) := by decide +kernel
theorem dX12_create_89 : decode cX12_create 89 = .ok (.getfield 215, 3) := by decide +kernel
theorem dX12_create_92 : decode cX12_create 92 = .ok (.invokevirtual 406, 3) := by decide +kernel
theorem dX12_create_95 : decode cX12_create 95 = .ok (.ireturn, 1) := by decide +kernel
theorem dX12_sectionMany_0 : decode cX12_sectionMany 0 = .ok (.iconst 1, 1) := by decide +kernel
theorem dX12_sectionMany_1 : decode cX12_sectionMany 1 = .ok (.istore_n 3, 1) := by decide +kernel
theorem dX12_sectionMany_2 : decode cX12_sectionMany 2 = .ok (.iconst 0, 1) := by decide +kernel
theorem dX12_sectionMany_3 : decode cX12_sectionMany 3 = .ok (.istore 4, 2) := by decide +kernel
theorem dX12_sectionMany_5 : decode cX12_sectionMany 5 = .ok (.iload 4, 2) := by decide +kernel
theorem dX12_sectionMany_7 : decode cX12_sectionMany 7 = .ok (.iload_n 2, 1) := by decide +kernel
theorem dX12_sectionMany_8 : decode cX12_sectionMany 8 = .ok (.if_icmp .ge 32, 3) := by decide +kernel
theorem dX12_sectionMany_11 : decode cX12_sectionMany 11 = .ok (.iload_n 3, 1) := by decide +kernel
theorem dX12_sectionMany_12 : decode cX12_sectionMany 12 = .ok (.aload_n 0, 1) := by decide +kernel
theorem dX12_sectionMany_13 : decode cX12_sectionMany 13 = .ok (.iload_n 1, 1) := by decide +kernel
theorem dX12_sectionMany_14 : decode cX12_sectionMany 14 = .ok (.iload 4, 2) := by decide +kernel
theorem dX12_sectionMany_16 : decode cX12_sectionMany 16 = .ok (.iadd, 1) := by decide +kernel
theorem dX12_sectionMany_17 : decode cX12_sectionMany 17 = .ok (.iaload, 1) := by decide +kernel
theorem dX12_sectionMany_18 : decode cX12_sectionMany 18 = .ok (.sipush 1000, 3) := by decide +kernel
theorem dX12_sectionMany_21 : decode cX12_sectionMany 21 = .ok (.idiv, 1) := by decide +kernel
theorem dX12_sectionMany_22 : decode cX12_sectionMany 22 = .ok (.bipush 13, 2) := by decide +kernel
theorem dX12_sectionMany_24 : decode cX12_sectionMany 24 = .ok (.if_icmp .ne 7, 3) := by decide +kernel
theorem dX12_sectionMany_27 : decode cX12_sectionMany 27 = .ok (.iconst 1, 1) := by decide +kernel
theorem dX12_sectionMany_28 : decode cX12_sectionMany 28 = .ok (.goto 4, 3) := by decide +kernel
theorem dX12_sectionMany_31 : decode cX12_sectionMany 31 = .ok (.iconst 0, 1) := by decide +kernel
theorem dX12_sectionMany_32 : decode cX12_sectionMany 32 = .ok (.iadd, 1) := by decide +kernel
theorem dX12_sectionMany_33 : decode cX12_sectionMany 33 = .ok (.istore_n 3, 1) := by decide +kernel
theorem dX12_sectionMany_34 : decode cX12_sectionMany 34 = .ok (.iinc 4 1, 3) := by decide +kernel
theorem dX12_sectionMany_37 : decode cX12_sectionMany 37 = .ok (.goto (-32), 3) := by decide +kernel
theorem dX12_sectionMany_40 : decode cX12_sectionMany 40 = .ok (.iload_n 3, 1) := by decide +kernel
theorem dX12_sectionMany_41 : decode cX12_sectionMany 41 = .ok (.ireturn, 1) := by decide +kernel
theorem dX12_sectionFrom_0 : decode cX12_sectionFrom 0 = .ok (.iload_n 3, 1) := by decide +kernel
theorem dX12_sectionFrom_1 : decode cX12_sectionFrom 1 = .ok (.istore 4, 2) := by decide +kernel
theorem dX12_sectionFrom_3 : decode cX12_sectionFrom 3 = .ok (.iconst 0, 1) := by decide +kernel
theorem dX12_sectionFrom_4 : decode cX12_sectionFrom 4 = .ok (.istore 5, 2) := by decide +kernel
theorem dX12_sectionFrom_6 : decode cX12_sectionFrom 6 = .ok (.iload 5, 2) := by decide +kernel
theorem dX12_sectionFrom_8 : decode cX12_sectionFrom 8 = .ok (.iload_n 2, 1) := by decide +kernel
theorem dX12_sectionFrom_9 : decode cX12_sectionFrom 9 = .ok (.if_icmp .ge 46, 3) := by decide +kernel
theorem dX12_sectionFrom_12 : decode cX12_sectionFrom 12 = .ok (.iload_n 3, 1) := by decide +kernel
theorem dX12_sectionFrom_13 : decode cX12_sectionFrom 13 = .ok (.ifCond .le 42, 3) := by decide +kernel
theorem dX12_sectionFrom_16 : decode cX12_sectionFrom 16 = .ok (.iload 4, 2) := by decide +kernel
theorem dX12_sectionFrom_18 : decode cX12_sectionFrom 18 = .ok (.aload_n 0, 1) := by decide +kernel
theorem dX12_sectionFrom_19 : decode cX12_sectionFrom 19 = .ok (.iload_n 1, 1) := by decide +kernel
theorem dX12_sectionFrom_20 : decode cX12_sectionFrom 20 = .ok (.iload 5, 2) := by decide +kernel
theorem dX12_sectionFrom_22 : decode cX12_sectionFrom 22 = .ok (.iadd, 1) := by decide +kernel
theorem dX12_sectionFrom_23 : decode cX12_sectionFrom 23 = .ok (.iaload, 1) := by decide +kernel
theorem dX12_sectionFrom_24 : decode cX12_sectionFrom 24 = .ok (.sipush 1000, 3) := by decide +kernel
theorem dX12_sectionFrom_27 : decode cX12_sectionFrom 27 = .ok (.idiv, 1) := by decide +kernel
theorem dX12_sectionFrom_28 : decode cX12_sectionFrom 28 = .ok (.bipush 13, 2) := by decide +kernel
theorem dX12_sectionFrom_30 : decode cX12_sectionFrom 30 = .ok (.if_icmp .ne 7, 3) := by decide +kernel
theorem dX12_sectionFrom_33 : decode cX12_sectionFrom 33 = .ok (.iconst 1, 1) := by decide +kernel
theorem dX12_sectionFrom_34 : decode cX12_sectionFrom 34 = .ok (.goto 4, 3) := by decide +kernel
theorem dX12_sectionFrom_37 : decode cX12_sectionFrom 37 = .ok (.iconst 0, 1) := by decide +kernel
theorem dX12_sectionFrom_38 : decode cX12_sectionFrom 38 = .ok (.isub, 1) := by decide +kernel
theorem dX12_sectionFrom_39 : decode cX12_sectionFrom 39 = .ok (.istore 4, 2) := by decide +kernel
theorem dX12_sectionFrom_41 : decode cX12_sectionFrom 41 = .ok (.iload 4, 2) := by decide +kernel
theorem dX12_sectionFrom_43 : decode cX12_sectionFrom 43 = .ok (.ifCond .ne 6, 3) := by decide +kernel
theorem dX12_sectionFrom_46 : decode cX12_sectionFrom 46 = .ok (.iload 5, 2) := by decide +kernel
theorem dX12_sectionFrom_48 : decode cX12_sectionFrom 48 = .ok (.ireturn, 1) := by decide +kernel
theorem dX12_sectionFrom_49 : decode cX12_sectionFrom 49 = .ok (.iinc 5 1, 3) := by decide +kernel
theorem dX12_sectionFrom_52 : decode cX12_sectionFrom 52 = .ok (.goto (-46), 3) := by decide +kernel
theorem dX12_sectionFrom_55 : decode cX12_sectionFrom 55 = .ok (.iload_n 3, 1) := by decide +kernel
theorem dX12_sectionFrom_56 : decode cX12_sectionFrom 56 = .ok (.ifCond .ne 7, 3) := by decide +kernel
theorem dX12_sectionFrom_59 : decode cX12_sectionFrom 59 = .ok (.iconst 0, 1) := by decide +kernel
theorem dX12_sectionFrom_60 : decode cX12_sectionFrom 60 = .ok (.goto 4, 3) := by decide +kernel
theorem dX12_sectionFrom_63 : decode cX12_sectionFrom 63 = .ok (.iload_n 2, 1) := by decide +kernel
theorem dX12_sectionFrom_64 : decode cX12_sectionFrom 64 = .ok (.ireturn, 1) := by decide +kernel
theorem dX12_putResult_0 : decode cX12_putResult 0 = .ok (.iload_n 2, 1) := by decide +kernel
theorem dX12_putResult_1 : decode cX12_putResult 1 = .ok (.istore 4, 2) := by decide +kernel
theorem dX12_putResult_3 : decode cX12_putResult 3 = .ok (.iload 4, 2) := by decide +kernel
theorem dX12_putResult_5 : decode cX12_putResult 5 = .ok (.iload_n 3, 1) := by decide +kernel
theorem dX12_putResult_6 : decode cX12_putResult 6 = .ok (.if_icmp .ge 32, 3) := by decide +kernel
theorem dX12_putResult_9 : decode cX12_putResult 9 = .ok (.aload_n 0, 1) := by decide +kernel
theorem dX12_putResult_10 : decode cX12_putResult 10 = .ok (.getfield 174, 3) := by decide +kernel
theorem dX12_putResult_13 : decode cX12_putResult 13 = .ok (.aload_n 0, 1) := by decide +kernel
theorem dX12_putResult_14 : decode cX12_putResult 14 = .ok (.getfield 409, 3) := by decide +kernel
theorem dX12_putResult_17 : decode cX12_putResult 17 = .ok (.aload_n 1, 1) := by decide +kernel
theorem dX12_putResult_18 : decode cX12_putResult 18 = .ok (.iload 4, 2) := by decide +kernel
theorem dX12_putResult_20 : decode cX12_putResult 20 = .ok (.iaload, 1) := by decide +kernel
theorem dX12_putResult_21 : decode cX12_putResult 21 = .ok (.iastore, 1) := by decide +kernel
theorem dX12_putResult_22 : decode cX12_putResult 22 = .ok (.aload_n 0, 1) := by decide +kernel
theorem dX12_putResult_23 : decode cX12_putResult 23 = .ok (.dup, 1) := by decide +kernel
theorem dX12_putResult_24 : decode cX12_putResult 24 = .ok (.getfield 409, 3) := by decide +kernel
theorem dX12_putResult_27 : decode cX12_putResult 27 = .ok (.iconst 1, 1) := by decide +kernel
theorem dX12_putResult_28 : decode cX12_putResult 28 = .ok (.iadd, 1) := by decide +kernel
theorem dX12_putResult_29 : decode cX12_putResult 29 = .ok (.putfield 409, 3) := by decide +kernel
theorem dX12_putResult_32 : decode cX12_putResult 32 = .ok (.iinc 4 1, 3) := by decide +kernel
theorem dX12_putResult_35 : decode cX12_putResult 35 = .ok (.goto (-32), 3) := by decide +kernel
theorem dX12_putResult_38 : decode cX12_putResult 38 = .ok (.return_, 1) := by decide +kernel
theorem dX12_layMeant_0 : decode cX12_layMeant 0 = .ok (.aload_n 0, 1) := by decide +kernel
theorem dX12_layMeant_1 : decode cX12_layMeant 1 = .ok (.iconst 0, 1) := by decide +kernel
theorem dX12_layMeant_2 : decode cX12_layMeant 2 = .ok (.putfield 409, 3) := by decide +kernel
theorem dX12_layMeant_5 : decode cX12_layMeant 5 = .ok (.iload_n 2, 1) := by decide +kernel
theorem dX12_layMeant_6 : decode cX12_layMeant 6 = .ok (.iconst (-1), 1) := by decide +kernel
theorem dX12_layMeant_7 : decode cX12_layMeant 7 = .ok (.if_icmp .ne 19, 3) := by decide +kernel
theorem dX12_layMeant_10 : decode cX12_layMeant 10 = .ok (.aload_n 0, 1) := by decide +kernel
theorem dX12_layMeant_11 : decode cX12_layMeant 11 = .ok (.aload_n 0, 1) := by decide +kernel
theorem dX12_layMeant_12 : decode cX12_layMeant 12 = .ok (.getfield 7, 3) := by decide +kernel
theorem dX12_layMeant_15 : decode cX12_layMeant 15 = .ok (.iconst 0, 1) := by decide +kernel
theorem dX12_layMeant_16 : decode cX12_layMeant 16 = .ok (.aload_n 0, 1) := by decide +kernel
theorem dX12_layMeant_17 : decode cX12_layMeant 17 = .ok (.getfield 387, 3) := by decide +kernel
theorem dX12_layMeant_20 : decode cX12_layMeant 20 = .ok (.invokevirtual 412, 3) := by decide +kernel
theorem dX12_layMeant_23 : decode cX12_layMeant 23 = .ok (.goto 78, 3) := by decide +kernel
theorem dX12_layMeant_26 : decode cX12_layMeant 26 = .ok (.bipush 30, 2) := by decide +kernel
theorem dX12_layMeant_28 : decode cX12_layMeant 28 = .ok (.iload_n 1, 1) := by decide +kernel
theorem dX12_layMeant_29 : decode cX12_layMeant 29 = .ok (.imul, 1) := by decide +kernel
theorem dX12_layMeant_30 : decode cX12_layMeant 30 = .ok (.istore_n 3, 1) := by decide +kernel
theorem dX12_layMeant_31 : decode cX12_layMeant 31 = .ok (.aload_n 0, 1) := by decide +kernel
theorem dX12_layMeant_32 : decode cX12_layMeant 32 = .ok (.getfield 25, 3) := by decide +kernel
theorem dX12_layMeant_35 : decode cX12_layMeant 35 = .ok (.iload_n 1, 1) := by decide +kernel
theorem dX12_layMeant_36 : decode cX12_layMeant 36 = .ok (.iaload, 1) := by decide +kernel
theorem dX12_layMeant_37 : decode cX12_layMeant 37 = .ok (.istore 4, 2) := by decide +kernel
theorem dX12_layMeant_39 : decode cX12_layMeant 39 = .ok (.aload_n 0, 1) := by decide +kernel
theorem dX12_layMeant_40 : decode cX12_layMeant 40 = .ok (.aload_n 0, 1) := by decide +kernel
theorem dX12_layMeant_41 : decode cX12_layMeant 41 = .ok (.getfield 22, 3) := by decide +kernel
theorem dX12_layMeant_44 : decode cX12_layMeant 44 = .ok (.iload_n 3, 1) := by decide +kernel
theorem dX12_layMeant_45 : decode cX12_layMeant 45 = .ok (.iload_n 3, 1) := by decide +kernel
theorem dX12_layMeant_46 : decode cX12_layMeant 46 = .ok (.aload_n 0, 1) := by decide +kernel
theorem dX12_layMeant_47 : decode cX12_layMeant 47 = .ok (.getfield 22, 3) := by decide +kernel
theorem dX12_layMeant_50 : decode cX12_layMeant 50 = .ok (.iload_n 3, 1) := by decide +kernel
theorem dX12_layMeant_51 : decode cX12_layMeant 51 = .ok (.iload 4, 2) := by decide +kernel
theorem dX12_layMeant_53 : decode cX12_layMeant 53 = .ok (.iload_n 2, 1) := by decide +kernel
theorem dX12_layMeant_54 : decode cX12_layMeant 54 = .ok (.invokestatic 416, 3) := by decide +kernel
theorem dX12_layMeant_57 : decode cX12_layMeant 57 = .ok (.iadd, 1) := by decide +kernel
theorem dX12_layMeant_58 : decode cX12_layMeant 58 = .ok (.invokevirtual 412, 3) := by decide +kernel
theorem dX12_layMeant_61 : decode cX12_layMeant 61 = .ok (.aload_n 0, 1) := by decide +kernel
theorem dX12_layMeant_62 : decode cX12_layMeant 62 = .ok (.aload_n 0, 1) := by decide +kernel
theorem dX12_layMeant_63 : decode cX12_layMeant 63 = .ok (.getfield 7, 3) := by decide +kernel
theorem dX12_layMeant_66 : decode cX12_layMeant 66 = .ok (.iconst 0, 1) := by decide +kernel
theorem dX12_layMeant_67 : decode cX12_layMeant 67 = .ok (.aload_n 0, 1) := by decide +kernel
theorem dX12_layMeant_68 : decode cX12_layMeant 68 = .ok (.getfield 387, 3) := by decide +kernel
theorem dX12_layMeant_71 : decode cX12_layMeant 71 = .ok (.invokevirtual 412, 3) := by decide +kernel
theorem dX12_layMeant_74 : decode cX12_layMeant 74 = .ok (.aload_n 0, 1) := by decide +kernel
theorem dX12_layMeant_75 : decode cX12_layMeant 75 = .ok (.aload_n 0, 1) := by decide +kernel
theorem dX12_layMeant_76 : decode cX12_layMeant 76 = .ok (.getfield 22, 3) := by decide +kernel
theorem dX12_layMeant_79 : decode cX12_layMeant 79 = .ok (.iload_n 3, 1) := by decide +kernel
theorem dX12_layMeant_80 : decode cX12_layMeant 80 = .ok (.aload_n 0, 1) := by decide +kernel
theorem dX12_layMeant_81 : decode cX12_layMeant 81 = .ok (.getfield 22, 3) := by decide +kernel
theorem dX12_layMeant_84 : decode cX12_layMeant 84 = .ok (.iload_n 3, 1) := by decide +kernel
theorem dX12_layMeant_85 : decode cX12_layMeant 85 = .ok (.iload 4, 2) := by decide +kernel
theorem dX12_layMeant_87 : decode cX12_layMeant 87 = .ok (.iload_n 2, 1) := by decide +kernel
theorem dX12_layMeant_88 : decode cX12_layMeant 88 = .ok (.iconst 1, 1) := by decide +kernel
theorem dX12_layMeant_89 : decode cX12_layMeant 89 = .ok (.iadd, 1) := by decide +kernel
theorem dX12_layMeant_90 : decode cX12_layMeant 90 = .ok (.invokestatic 416, 3) := by decide +kernel
theorem dX12_layMeant_93 : decode cX12_layMeant 93 = .ok (.iadd, 1) := by decide +kernel
theorem dX12_layMeant_94 : decode cX12_layMeant 94 = .ok (.iload_n 3, 1) := by decide +kernel
theorem dX12_layMeant_95 : decode cX12_layMeant 95 = .ok (.iload 4, 2) := by decide +kernel
theorem dX12_layMeant_97 : decode cX12_layMeant 97 = .ok (.iadd, 1) := by decide +kernel
theorem dX12_layMeant_98 : decode cX12_layMeant 98 = .ok (.invokevirtual 412, 3) := by decide +kernel
theorem dX12_layMeant_101 : decode cX12_layMeant 101 = .ok (.aload_n 0, 1) := by decide +kernel
theorem dX12_layMeant_102 : decode cX12_layMeant 102 = .ok (.aload_n 0, 1) := by decide +kernel
theorem dX12_layMeant_103 : decode cX12_layMeant 103 = .ok (.getfield 409, 3) := by decide +kernel
theorem dX12_layMeant_106 : decode cX12_layMeant 106 = .ok (.putfield 420, 3) := by decide +kernel
theorem dX12_layMeant_109 : decode cX12_layMeant 109 = .ok (.iconst 0, 1) := by decide +kernel
theorem dX12_layMeant_110 : decode cX12_layMeant 110 = .ok (.istore_n 3, 1) := by decide +kernel
theorem dX12_layMeant_111 : decode cX12_layMeant 111 = .ok (.iload_n 3, 1) := by decide +kernel
theorem dX12_layMeant_112 : decode cX12_layMeant 112 = .ok (.aload_n 0, 1) := by decide +kernel
theorem dX12_layMeant_113 : decode cX12_layMeant 113 = .ok (.getfield 409, 3) := by decide +kernel
theorem dX12_layMeant_116 : decode cX12_layMeant 116 = .ok (.if_icmp .ge 21, 3) := by decide +kernel
theorem dX12_layMeant_119 : decode cX12_layMeant 119 = .ok (.aload_n 0, 1) := by decide +kernel
theorem dX12_layMeant_120 : decode cX12_layMeant 120 = .ok (.getfield 171, 3) := by decide +kernel
theorem dX12_layMeant_123 : decode cX12_layMeant 123 = .ok (.iload_n 3, 1) := by decide +kernel
theorem dX12_layMeant_124 : decode cX12_layMeant 124 = .ok (.aload_n 0, 1) := by decide +kernel
theorem dX12_layMeant_125 : decode cX12_layMeant 125 = .ok (.getfield 174, 3) := by decide +kernel
theorem dX12_layMeant_128 : decode cX12_layMeant 128 = .ok (.iload_n 3, 1) := by decide +kernel
theorem dX12_layMeant_129 : decode cX12_layMeant 129 = .ok (.iaload, 1) := by decide +kernel
theorem dX12_layMeant_130 : decode cX12_layMeant 130 = .ok (.iastore, 1) := by decide +kernel
theorem dX12_layMeant_131 : decode cX12_layMeant 131 = .ok (.iinc 3 1, 3) := by decide +kernel
theorem dX12_layMeant_134 : decode cX12_layMeant 134 = .ok (.goto (-23), 3) := by decide +kernel
theorem dX12_layMeant_137 : decode cX12_layMeant 137 = .ok (.return_, 1) := by decide +kernel
theorem dX12_areAlike_0 : decode cX12_areAlike 0 = .ok (.aload_n 0, 1) := by decide +kernel
theorem dX12_areAlike_1 : decode cX12_areAlike 1 = .ok (.iload_n 1, 1) := by decide +kernel
theorem dX12_areAlike_2 : decode cX12_areAlike 2 = .ok (.iload_n 2, 1) := by decide +kernel
theorem dX12_areAlike_3 : decode cX12_areAlike 3 = .ok (.iload 6, 2) := by decide +kernel
theorem dX12_areAlike_5 : decode cX12_areAlike 5 = .ok (.invokestatic 416, 3) := by decide +kernel
theorem dX12_areAlike_8 : decode cX12_areAlike 8 = .ok (.istore 7, 2) := by decide +kernel
theorem dX12_areAlike_10 : decode cX12_areAlike 10 = .ok (.aload_n 0, 1) := by decide +kernel
theorem dX12_areAlike_11 : decode cX12_areAlike 11 = .ok (.iload_n 1, 1) := by decide +kernel
theorem dX12_areAlike_12 : decode cX12_areAlike 12 = .ok (.iload_n 2, 1) := by decide +kernel
theorem dX12_areAlike_13 : decode cX12_areAlike 13 = .ok (.iload 6, 2) := by decide +kernel
theorem dX12_areAlike_15 : decode cX12_areAlike 15 = .ok (.iconst 1, 1) := by decide +kernel
theorem dX12_areAlike_16 : decode cX12_areAlike 16 = .ok (.iadd, 1) := by decide +kernel
theorem dX12_areAlike_17 : decode cX12_areAlike 17 = .ok (.invokestatic 416, 3) := by decide +kernel
theorem dX12_areAlike_20 : decode cX12_areAlike 20 = .ok (.iload 7, 2) := by decide +kernel
theorem dX12_areAlike_22 : decode cX12_areAlike 22 = .ok (.isub, 1) := by decide +kernel
theorem dX12_areAlike_23 : decode cX12_areAlike 23 = .ok (.istore 8, 2) := by decide +kernel
theorem dX12_areAlike_25 : decode cX12_areAlike 25 = .ok (.aload_n 3, 1) := by decide +kernel
theorem dX12_areAlike_26 : decode cX12_areAlike 26 = .ok (.iload 4, 2) := by decide +kernel
theorem dX12_areAlike_28 : decode cX12_areAlike 28 = .ok (.iload 5, 2) := by decide +kernel
theorem dX12_areAlike_30 : decode cX12_areAlike 30 = .ok (.iload 6, 2) := by decide +kernel
theorem dX12_areAlike_32 : decode cX12_areAlike 32 = .ok (.invokestatic 416, 3) := by decide +kernel
theorem dX12_areAlike_35 : decode cX12_areAlike 35 = .ok (.istore 9, 2) := by decide +kernel
theorem dX12_areAlike_37 : decode cX12_areAlike 37 = .ok (.iload 8, 2) := by decide +kernel
theorem dX12_areAlike_39 : decode cX12_areAlike 39 = .ok (.aload_n 3, 1) := by decide +kernel
theorem dX12_areAlike_40 : decode cX12_areAlike 40 = .ok (.iload 4, 2) := by decide +kernel
theorem dX12_areAlike_42 : decode cX12_areAlike 42 = .ok (.iload 5, 2) := by decide +kernel
theorem dX12_areAlike_44 : decode cX12_areAlike 44 = .ok (.iload 6, 2) := by decide +kernel
theorem dX12_areAlike_46 : decode cX12_areAlike 46 = .ok (.iconst 1, 1) := by decide +kernel
theorem dX12_areAlike_47 : decode cX12_areAlike 47 = .ok (.iadd, 1) := by decide +kernel
theorem dX12_areAlike_48 : decode cX12_areAlike 48 = .ok (.invokestatic 416, 3) := by decide +kernel
theorem dX12_areAlike_51 : decode cX12_areAlike 51 = .ok (.iload 9, 2) := by decide +kernel
theorem dX12_areAlike_53 : decode cX12_areAlike 53 = .ok (.isub, 1) := by decide +kernel
theorem dX12_areAlike_54 : decode cX12_areAlike 54 = .ok (.if_icmp .ne 7, 3) := by decide +kernel
theorem dX12_areAlike_57 : decode cX12_areAlike 57 = .ok (.iconst 1, 1) := by decide +kernel
theorem dX12_areAlike_58 : decode cX12_areAlike 58 = .ok (.goto 4, 3) := by decide +kernel
theorem dX12_areAlike_61 : decode cX12_areAlike 61 = .ok (.iconst 0, 1) := by decide +kernel
theorem dX12_areAlike_62 : decode cX12_areAlike 62 = .ok (.istore 10, 2) := by decide +kernel
theorem dX12_areAlike_64 : decode cX12_areAlike 64 = .ok (.iconst 0, 1) := by decide +kernel
theorem dX12_areAlike_65 : decode cX12_areAlike 65 = .ok (.istore 11, 2) := by decide +kernel
theorem dX12_areAlike_67 : decode cX12_areAlike 67 = .ok (.iload 11, 2) := by decide +kernel
theorem dX12_areAlike_69 : decode cX12_areAlike 69 = .ok (.iload 8, 2) := by decide +kernel
theorem dX12_areAlike_71 : decode cX12_areAlike 71 = .ok (.if_icmp .ge 43, 3) := by decide +kernel
theorem dX12_areAlike_74 : decode cX12_areAlike 74 = .ok (.iload 10, 2) := by decide +kernel
theorem dX12_areAlike_76 : decode cX12_areAlike 76 = .ok (.ifCond .eq 38, 3) := by decide +kernel
theorem dX12_areAlike_79 : decode cX12_areAlike 79 = .ok (.aload_n 0, 1) := by decide +kernel
theorem dX12_areAlike_80 : decode cX12_areAlike 80 = .ok (.iload_n 1, 1) := by decide +kernel
theorem dX12_areAlike_81 : decode cX12_areAlike 81 = .ok (.iload 7, 2) := by decide +kernel
theorem dX12_areAlike_83 : decode cX12_areAlike 83 = .ok (.iadd, 1) := by decide +kernel
theorem dX12_areAlike_84 : decode cX12_areAlike 84 = .ok (.iload 11, 2) := by decide +kernel
theorem dX12_areAlike_86 : decode cX12_areAlike 86 = .ok (.iadd, 1) := by decide +kernel
theorem dX12_areAlike_87 : decode cX12_areAlike 87 = .ok (.iaload, 1) := by decide +kernel
theorem dX12_areAlike_88 : decode cX12_areAlike 88 = .ok (.aload_n 3, 1) := by decide +kernel
theorem dX12_areAlike_89 : decode cX12_areAlike 89 = .ok (.iload 4, 2) := by decide +kernel
theorem dX12_areAlike_91 : decode cX12_areAlike 91 = .ok (.iload 9, 2) := by decide +kernel
theorem dX12_areAlike_93 : decode cX12_areAlike 93 = .ok (.iadd, 1) := by decide +kernel
theorem dX12_areAlike_94 : decode cX12_areAlike 94 = .ok (.iload 11, 2) := by decide +kernel
theorem dX12_areAlike_96 : decode cX12_areAlike 96 = .ok (.iadd, 1) := by decide +kernel
theorem dX12_areAlike_97 : decode cX12_areAlike 97 = .ok (.iaload, 1) := by decide +kernel
theorem dX12_areAlike_98 : decode cX12_areAlike 98 = .ok (.if_icmp .ne 7, 3) := by decide +kernel
theorem dX12_areAlike_101 : decode cX12_areAlike 101 = .ok (.iconst 1, 1) := by decide +kernel
theorem dX12_areAlike_102 : decode cX12_areAlike 102 = .ok (.goto 4, 3) := by decide +kernel
theorem dX12_areAlike_105 : decode cX12_areAlike 105 = .ok (.iconst 0, 1) := by decide +kernel
theorem dX12_areAlike_106 : decode cX12_areAlike 106 = .ok (.istore 10, 2) := by decide +kernel
theorem dX12_areAlike_108 : decode cX12_areAlike 108 = .ok (.iinc 11 1, 3) := by decide +kernel
theorem dX12_areAlike_111 : decode cX12_areAlike 111 = .ok (.goto (-44), 3) := by decide +kernel
theorem dX12_areAlike_114 : decode cX12_areAlike 114 = .ok (.iload 10, 2) := by decide +kernel
theorem dX12_areAlike_116 : decode cX12_areAlike 116 = .ok (.ireturn, 1) := by decide +kernel
theorem dX12_putSection_0 : decode cX12_putSection 0 = .ok (.aload_n 0, 1) := by decide +kernel
theorem dX12_putSection_1 : decode cX12_putSection 1 = .ok (.aload_n 1, 1) := by decide +kernel
theorem dX12_putSection_2 : decode cX12_putSection 2 = .ok (.iload_n 2, 1) := by decide +kernel
theorem dX12_putSection_3 : decode cX12_putSection 3 = .ok (.aload_n 1, 1) := by decide +kernel
theorem dX12_putSection_4 : decode cX12_putSection 4 = .ok (.iload_n 2, 1) := by decide +kernel
theorem dX12_putSection_5 : decode cX12_putSection 5 = .ok (.iload_n 3, 1) := by decide +kernel
theorem dX12_putSection_6 : decode cX12_putSection 6 = .ok (.iload 4, 2) := by decide +kernel
theorem dX12_putSection_8 : decode cX12_putSection 8 = .ok (.invokestatic 416, 3) := by decide +kernel
theorem dX12_putSection_11 : decode cX12_putSection 11 = .ok (.iadd, 1) := by decide +kernel
theorem dX12_putSection_12 : decode cX12_putSection 12 = .ok (.iload_n 2, 1) := by decide +kernel
theorem dX12_putSection_13 : decode cX12_putSection 13 = .ok (.aload_n 1, 1) := by decide +kernel
theorem dX12_putSection_14 : decode cX12_putSection 14 = .ok (.iload_n 2, 1) := by decide +kernel
theorem dX12_putSection_15 : decode cX12_putSection 15 = .ok (.iload_n 3, 1) := by decide +kernel
theorem dX12_putSection_16 : decode cX12_putSection 16 = .ok (.iload 4, 2) := by decide +kernel
theorem dX12_putSection_18 : decode cX12_putSection 18 = .ok (.iconst 1, 1) := by decide +kernel
theorem dX12_putSection_19 : decode cX12_putSection 19 = .ok (.iadd, 1) := by decide +kernel
theorem dX12_putSection_20 : decode cX12_putSection 20 = .ok (.invokestatic 416, 3) := by decide +kernel
theorem dX12_putSection_23 : decode cX12_putSection 23 = .ok (.iadd, 1) := by decide +kernel
theorem dX12_putSection_24 : decode cX12_putSection 24 = .ok (.invokevirtual 412, 3) := by decide +kernel
theorem dX12_putSection_27 : decode cX12_putSection 27 = .ok (.return_, 1) := by decide +kernel
theorem dX12_sectionsOf_0 : decode cX12_sectionsOf 0 = .ok (.aload_n 0, 1) := by decide +kernel
theorem dX12_sectionsOf_1 : decode cX12_sectionsOf 1 = .ok (.getfield 22, 3) := by decide +kernel
theorem dX12_sectionsOf_4 : decode cX12_sectionsOf 4 = .ok (.bipush 30, 2) := by decide +kernel
theorem dX12_sectionsOf_6 : decode cX12_sectionsOf 6 = .ok (.iload_n 1, 1) := by decide +kernel
theorem dX12_sectionsOf_7 : decode cX12_sectionsOf 7 = .ok (.imul, 1) := by decide +kernel
theorem dX12_sectionsOf_8 : decode cX12_sectionsOf 8 = .ok (.aload_n 0, 1) := by decide +kernel
theorem dX12_sectionsOf_9 : decode cX12_sectionsOf 9 = .ok (.getfield 25, 3) := by decide +kernel
theorem dX12_sectionsOf_12 : decode cX12_sectionsOf 12 = .ok (.iload_n 1, 1) := by decide +kernel
theorem dX12_sectionsOf_13 : decode cX12_sectionsOf 13 = .ok (.iaload, 1) := by decide +kernel
theorem dX12_sectionsOf_14 : decode cX12_sectionsOf 14 = .ok (.invokestatic 423, 3) := by decide +kernel
theorem dX12_sectionsOf_17 : decode cX12_sectionsOf 17 = .ok (.ireturn, 1) := by decide +kernel
theorem dX12_merges_0 : decode cX12_merges 0 = .ok (.bipush 30, 2) := by decide +kernel
theorem dX12_merges_2 : decode cX12_merges 2 = .ok (.iload_n 1, 1) := by decide +kernel
theorem dX12_merges_3 : decode cX12_merges 3 = .ok (.imul, 1) := by decide +kernel
theorem dX12_merges_4 : decode cX12_merges 4 = .ok (.istore_n 3, 1) := by decide +kernel
theorem dX12_merges_5 : decode cX12_merges 5 = .ok (.bipush 30, 2) := by decide +kernel
theorem dX12_merges_7 : decode cX12_merges 7 = .ok (.iload_n 2, 1) := by decide +kernel
theorem dX12_merges_8 : decode cX12_merges 8 = .ok (.imul, 1) := by decide +kernel
theorem dX12_merges_9 : decode cX12_merges 9 = .ok (.istore 4, 2) := by decide +kernel
theorem dX12_merges_11 : decode cX12_merges 11 = .ok (.aload_n 0, 1) := by decide +kernel
theorem dX12_merges_12 : decode cX12_merges 12 = .ok (.getfield 171, 3) := by decide +kernel
theorem dX12_merges_15 : decode cX12_merges 15 = .ok (.iconst 0, 1) := by decide +kernel
theorem dX12_merges_16 : decode cX12_merges 16 = .ok (.aload_n 0, 1) := by decide +kernel
theorem dX12_merges_17 : decode cX12_merges 17 = .ok (.getfield 420, 3) := by decide +kernel
theorem dX12_merges_20 : decode cX12_merges 20 = .ok (.invokestatic 423, 3) := by decide +kernel
theorem dX12_merges_23 : decode cX12_merges 23 = .ok (.istore 5, 2) := by decide +kernel
theorem dX12_merges_25 : decode cX12_merges 25 = .ok (.iload 5, 2) := by decide +kernel
theorem dX12_merges_27 : decode cX12_merges 27 = .ok (.aload_n 0, 1) := by decide +kernel
theorem dX12_merges_28 : decode cX12_merges 28 = .ok (.iload_n 1, 1) := by decide +kernel
theorem dX12_merges_29 : decode cX12_merges 29 = .ok (.invokevirtual 427, 3) := by decide +kernel
theorem dX12_merges_32 : decode cX12_merges 32 = .ok (.if_icmp .ne 17, 3) := by decide +kernel
theorem dX12_merges_35 : decode cX12_merges 35 = .ok (.iload 5, 2) := by decide +kernel
theorem dX12_merges_37 : decode cX12_merges 37 = .ok (.aload_n 0, 1) := by decide +kernel
theorem dX12_merges_38 : decode cX12_merges 38 = .ok (.iload_n 2, 1) := by decide +kernel
theorem dX12_merges_39 : decode cX12_merges 39 = .ok (.invokevirtual 427, 3) := by decide +kernel
theorem dX12_merges_42 : decode cX12_merges 42 = .ok (.if_icmp .ne 7, 3) := by decide +kernel
theorem dX12_merges_45 : decode cX12_merges 45 = .ok (.iconst 1, 1) := by decide +kernel
theorem dX12_merges_46 : decode cX12_merges 46 = .ok (.goto 4, 3) := by decide +kernel
theorem dX12_merges_49 : decode cX12_merges 49 = .ok (.iconst 0, 1) := by decide +kernel
theorem dX12_merges_50 : decode cX12_merges 50 = .ok (.istore 6, 2) := by decide +kernel
theorem dX12_merges_52 : decode cX12_merges 52 = .ok (.aload_n 0, 1) := by decide +kernel
theorem dX12_merges_53 : decode cX12_merges 53 = .ok (.iconst 0, 1) := by decide +kernel
theorem dX12_merges_54 : decode cX12_merges 54 = .ok (.putfield 409, 3) := by decide +kernel
theorem dX12_merges_57 : decode cX12_merges 57 = .ok (.iconst 0, 1) := by decide +kernel
theorem dX12_merges_58 : decode cX12_merges 58 = .ok (.istore 7, 2) := by decide +kernel
theorem dX12_merges_60 : decode cX12_merges 60 = .ok (.iload 7, 2) := by decide +kernel
theorem dX12_merges_62 : decode cX12_merges 62 = .ok (.iload 5, 2) := by decide +kernel
theorem dX12_merges_64 : decode cX12_merges 64 = .ok (.if_icmp .ge 145, 3) := by decide +kernel
theorem dX12_merges_67 : decode cX12_merges 67 = .ok (.iload 6, 2) := by decide +kernel
theorem dX12_merges_69 : decode cX12_merges 69 = .ok (.ifCond .eq 140, 3) := by decide +kernel
theorem dX12_merges_72 : decode cX12_merges 72 = .ok (.aload_n 0, 1) := by decide +kernel
theorem dX12_merges_73 : decode cX12_merges 73 = .ok (.getfield 171, 3) := by decide +kernel
theorem dX12_merges_76 : decode cX12_merges 76 = .ok (.iconst 0, 1) := by decide +kernel
theorem dX12_merges_77 : decode cX12_merges 77 = .ok (.aload_n 0, 1) := by decide +kernel
theorem dX12_merges_78 : decode cX12_merges 78 = .ok (.getfield 420, 3) := by decide +kernel
theorem dX12_merges_81 : decode cX12_merges 81 = .ok (.aload_n 0, 1) := by decide +kernel
theorem dX12_merges_82 : decode cX12_merges 82 = .ok (.getfield 22, 3) := by decide +kernel
theorem dX12_merges_85 : decode cX12_merges 85 = .ok (.iload_n 3, 1) := by decide +kernel
theorem dX12_merges_86 : decode cX12_merges 86 = .ok (.aload_n 0, 1) := by decide +kernel
theorem dX12_merges_87 : decode cX12_merges 87 = .ok (.getfield 25, 3) := by decide +kernel
theorem dX12_merges_90 : decode cX12_merges 90 = .ok (.iload_n 1, 1) := by decide +kernel
theorem dX12_merges_91 : decode cX12_merges 91 = .ok (.iaload, 1) := by decide +kernel
theorem dX12_merges_92 : decode cX12_merges 92 = .ok (.iload 7, 2) := by decide +kernel
theorem dX12_merges_94 : decode cX12_merges 94 = .ok (.invokestatic 430, 3) := by decide +kernel
theorem dX12_merges_97 : decode cX12_merges 97 = .ok (.ifCond .eq 24, 3) := by decide +kernel
theorem dX12_merges_100 : decode cX12_merges 100 = .ok (.aload_n 0, 1) := by decide +kernel
theorem dX12_merges_101 : decode cX12_merges 101 = .ok (.aload_n 0, 1) := by decide +kernel
theorem dX12_merges_102 : decode cX12_merges 102 = .ok (.getfield 22, 3) := by decide +kernel
theorem dX12_merges_105 : decode cX12_merges 105 = .ok (.iload 4, 2) := by decide +kernel
theorem dX12_merges_107 : decode cX12_merges 107 = .ok (.aload_n 0, 1) := by decide +kernel
theorem dX12_merges_108 : decode cX12_merges 108 = .ok (.getfield 25, 3) := by decide +kernel
theorem dX12_merges_111 : decode cX12_merges 111 = .ok (.iload_n 2, 1) := by decide +kernel
theorem dX12_merges_112 : decode cX12_merges 112 = .ok (.iaload, 1) := by decide +kernel
theorem dX12_merges_113 : decode cX12_merges 113 = .ok (.iload 7, 2) := by decide +kernel
theorem dX12_merges_115 : decode cX12_merges 115 = .ok (.invokevirtual 434, 3) := by decide +kernel
theorem dX12_merges_118 : decode cX12_merges 118 = .ok (.goto 85, 3) := by decide +kernel
theorem dX12_merges_121 : decode cX12_merges 121 = .ok (.aload_n 0, 1) := by decide +kernel
theorem dX12_merges_122 : decode cX12_merges 122 = .ok (.getfield 22, 3) := by decide +kernel
theorem dX12_merges_125 : decode cX12_merges 125 = .ok (.iload 4, 2) := by decide +kernel
theorem dX12_merges_127 : decode cX12_merges 127 = .ok (.aload_n 0, 1) := by decide +kernel
theorem dX12_merges_128 : decode cX12_merges 128 = .ok (.getfield 25, 3) := by decide +kernel
theorem dX12_merges_131 : decode cX12_merges 131 = .ok (.iload_n 2, 1) := by decide +kernel
theorem dX12_merges_132 : decode cX12_merges 132 = .ok (.iaload, 1) := by decide +kernel
theorem dX12_merges_133 : decode cX12_merges 133 = .ok (.aload_n 0, 1) := by decide +kernel
theorem dX12_merges_134 : decode cX12_merges 134 = .ok (.getfield 22, 3) := by decide +kernel
theorem dX12_merges_137 : decode cX12_merges 137 = .ok (.iload_n 3, 1) := by decide +kernel
theorem dX12_merges_138 : decode cX12_merges 138 = .ok (.aload_n 0, 1) := by decide +kernel
theorem dX12_merges_139 : decode cX12_merges 139 = .ok (.getfield 25, 3) := by decide +kernel
theorem dX12_merges_142 : decode cX12_merges 142 = .ok (.iload_n 1, 1) := by decide +kernel
theorem dX12_merges_143 : decode cX12_merges 143 = .ok (.iaload, 1) := by decide +kernel
theorem dX12_merges_144 : decode cX12_merges 144 = .ok (.iload 7, 2) := by decide +kernel
theorem dX12_merges_146 : decode cX12_merges 146 = .ok (.invokestatic 430, 3) := by decide +kernel
theorem dX12_merges_149 : decode cX12_merges 149 = .ok (.ifCond .ne 32, 3) := by decide +kernel
theorem dX12_merges_152 : decode cX12_merges 152 = .ok (.aload_n 0, 1) := by decide +kernel
theorem dX12_merges_153 : decode cX12_merges 153 = .ok (.getfield 22, 3) := by decide +kernel
theorem dX12_merges_156 : decode cX12_merges 156 = .ok (.iload 4, 2) := by decide +kernel
theorem dX12_merges_158 : decode cX12_merges 158 = .ok (.aload_n 0, 1) := by decide +kernel
theorem dX12_merges_159 : decode cX12_merges 159 = .ok (.getfield 25, 3) := by decide +kernel
theorem dX12_merges_162 : decode cX12_merges 162 = .ok (.iload_n 2, 1) := by decide +kernel
theorem dX12_merges_163 : decode cX12_merges 163 = .ok (.iaload, 1) := by decide +kernel
theorem dX12_merges_164 : decode cX12_merges 164 = .ok (.aload_n 0, 1) := by decide +kernel
theorem dX12_merges_165 : decode cX12_merges 165 = .ok (.getfield 171, 3) := by decide +kernel
theorem dX12_merges_168 : decode cX12_merges 168 = .ok (.iconst 0, 1) := by decide +kernel
theorem dX12_merges_169 : decode cX12_merges 169 = .ok (.aload_n 0, 1) := by decide +kernel
theorem dX12_merges_170 : decode cX12_merges 170 = .ok (.getfield 420, 3) := by decide +kernel
theorem dX12_merges_173 : decode cX12_merges 173 = .ok (.iload 7, 2) := by decide +kernel
theorem dX12_merges_175 : decode cX12_merges 175 = .ok (.invokestatic 430, 3) := by decide +kernel
theorem dX12_merges_178 : decode cX12_merges 178 = .ok (.ifCond .eq 7, 3) := by decide +kernel
theorem dX12_merges_181 : decode cX12_merges 181 = .ok (.iconst 1, 1) := by decide +kernel
theorem dX12_merges_182 : decode cX12_merges 182 = .ok (.goto 4, 3) := by decide +kernel
theorem dX12_merges_185 : decode cX12_merges 185 = .ok (.iconst 0, 1) := by decide +kernel
theorem dX12_merges_186 : decode cX12_merges 186 = .ok (.istore 6, 2) := by decide +kernel
theorem dX12_merges_188 : decode cX12_merges 188 = .ok (.aload_n 0, 1) := by decide +kernel
theorem dX12_merges_189 : decode cX12_merges 189 = .ok (.aload_n 0, 1) := by decide +kernel
theorem dX12_merges_190 : decode cX12_merges 190 = .ok (.getfield 171, 3) := by decide +kernel
theorem dX12_merges_193 : decode cX12_merges 193 = .ok (.iconst 0, 1) := by decide +kernel
theorem dX12_merges_194 : decode cX12_merges 194 = .ok (.aload_n 0, 1) := by decide +kernel
theorem dX12_merges_195 : decode cX12_merges 195 = .ok (.getfield 420, 3) := by decide +kernel
theorem dX12_merges_198 : decode cX12_merges 198 = .ok (.iload 7, 2) := by decide +kernel
theorem dX12_merges_200 : decode cX12_merges 200 = .ok (.invokevirtual 434, 3) := by decide +kernel
theorem dX12_merges_203 : decode cX12_merges 203 = .ok (.iinc 7 1, 3) := by decide +kernel
theorem dX12_merges_206 : decode cX12_merges 206 = .ok (.goto (-146), 3) := by decide +kernel
theorem dX12_merges_209 : decode cX12_merges 209 = .ok (.iload 6, 2) := by decide +kernel
theorem dX12_merges_211 : decode cX12_merges 211 = .ok (.ireturn, 1) := by decide +kernel
theorem dX12_isNew_0 : decode cX12_isNew 0 = .ok (.aload_n 0, 1) := by decide +kernel
theorem dX12_isNew_1 : decode cX12_isNew 1 = .ok (.getfield 409, 3) := by decide +kernel
theorem dX12_isNew_4 : decode cX12_isNew 4 = .ok (.aload_n 0, 1) := by decide +kernel
theorem dX12_isNew_5 : decode cX12_isNew 5 = .ok (.getfield 25, 3) := by decide +kernel
theorem dX12_isNew_8 : decode cX12_isNew 8 = .ok (.iload_n 1, 1) := by decide +kernel
theorem dX12_isNew_9 : decode cX12_isNew 9 = .ok (.iaload, 1) := by decide +kernel
theorem dX12_isNew_10 : decode cX12_isNew 10 = .ok (.if_icmp .eq 7, 3) := by decide +kernel
theorem dX12_isNew_13 : decode cX12_isNew 13 = .ok (.iconst 1, 1) := by decide +kernel
theorem dX12_isNew_14 : decode cX12_isNew 14 = .ok (.goto 4, 3) := by decide +kernel
theorem dX12_isNew_17 : decode cX12_isNew 17 = .ok (.iconst 0, 1) := by decide +kernel
theorem dX12_isNew_18 : decode cX12_isNew 18 = .ok (.istore_n 2, 1) := by decide +kernel
theorem dX12_isNew_19 : decode cX12_isNew 19 = .ok (.iconst 0, 1) := by decide +kernel
theorem dX12_isNew_20 : decode cX12_isNew 20 = .ok (.istore_n 3, 1) := by decide +kernel
theorem dX12_isNew_21 : decode cX12_isNew 21 = .ok (.iload_n 3, 1) := by decide +kernel
theorem dX12_isNew_22 : decode cX12_isNew 22 = .ok (.aload_n 0, 1) := by decide +kernel
theorem dX12_isNew_23 : decode cX12_isNew 23 = .ok (.getfield 409, 3) := by decide +kernel
theorem dX12_isNew_26 : decode cX12_isNew 26 = .ok (.if_icmp .ge 39, 3) := by decide +kernel
theorem dX12_isNew_29 : decode cX12_isNew 29 = .ok (.iload_n 2, 1) := by decide +kernel
theorem dX12_isNew_30 : decode cX12_isNew 30 = .ok (.ifCond .ne 35, 3) := by decide +kernel
theorem dX12_isNew_33 : decode cX12_isNew 33 = .ok (.aload_n 0, 1) := by decide +kernel
theorem dX12_isNew_34 : decode cX12_isNew 34 = .ok (.getfield 174, 3) := by decide +kernel
theorem dX12_isNew_37 : decode cX12_isNew 37 = .ok (.iload_n 3, 1) := by decide +kernel
theorem dX12_isNew_38 : decode cX12_isNew 38 = .ok (.iaload, 1) := by decide +kernel
theorem dX12_isNew_39 : decode cX12_isNew 39 = .ok (.aload_n 0, 1) := by decide +kernel
theorem dX12_isNew_40 : decode cX12_isNew 40 = .ok (.getfield 22, 3) := by decide +kernel
theorem dX12_isNew_43 : decode cX12_isNew 43 = .ok (.bipush 30, 2) := by decide +kernel
theorem dX12_isNew_45 : decode cX12_isNew 45 = .ok (.iload_n 1, 1) := by decide +kernel
theorem dX12_isNew_46 : decode cX12_isNew 46 = .ok (.imul, 1) := by decide +kernel
theorem dX12_isNew_47 : decode cX12_isNew 47 = .ok (.iload_n 3, 1) := by decide +kernel
theorem dX12_isNew_48 : decode cX12_isNew 48 = .ok (.iadd, 1) := by decide +kernel
theorem dX12_isNew_49 : decode cX12_isNew 49 = .ok (.iaload, 1) := by decide +kernel
theorem dX12_isNew_50 : decode cX12_isNew 50 = .ok (.if_icmp .eq 7, 3) := by decide +kernel
theorem dX12_isNew_53 : decode cX12_isNew 53 = .ok (.iconst 1, 1) := by decide +kernel
theorem dX12_isNew_54 : decode cX12_isNew 54 = .ok (.goto 4, 3) := by decide +kernel
theorem dX12_isNew_57 : decode cX12_isNew 57 = .ok (.iconst 0, 1) := by decide +kernel
theorem dX12_isNew_58 : decode cX12_isNew 58 = .ok (.istore_n 2, 1) := by decide +kernel
theorem dX12_isNew_59 : decode cX12_isNew 59 = .ok (.iinc 3 1, 3) := by decide +kernel
theorem dX12_isNew_62 : decode cX12_isNew 62 = .ok (.goto (-41), 3) := by decide +kernel
theorem dX12_isNew_65 : decode cX12_isNew 65 = .ok (.iload_n 2, 1) := by decide +kernel
theorem dX12_isNew_66 : decode cX12_isNew 66 = .ok (.ifCond .eq 32, 3) := by decide +kernel
theorem dX12_isNew_69 : decode cX12_isNew 69 = .ok (.aload_n 0, 1) := by decide +kernel
theorem dX12_isNew_70 : decode cX12_isNew 70 = .ok (.aload_n 0, 1) := by decide +kernel
theorem dX12_isNew_71 : decode cX12_isNew 71 = .ok (.getfield 174, 3) := by decide +kernel
theorem dX12_isNew_74 : decode cX12_isNew 74 = .ok (.iconst 0, 1) := by decide +kernel
theorem dX12_isNew_75 : decode cX12_isNew 75 = .ok (.aload_n 0, 1) := by decide +kernel
theorem dX12_isNew_76 : decode cX12_isNew 76 = .ok (.getfield 409, 3) := by decide +kernel
theorem dX12_isNew_79 : decode cX12_isNew 79 = .ok (.invokevirtual 399, 3) := by decide +kernel
theorem dX12_isNew_82 : decode cX12_isNew 82 = .ok (.ifCond .eq 16, 3) := by decide +kernel
theorem dX12_isNew_85 : decode cX12_isNew 85 = .ok (.aload_n 0, 1) := by decide +kernel
theorem dX12_isNew_86 : decode cX12_isNew 86 = .ok (.getfield 192, 3) := by decide +kernel
theorem dX12_isNew_89 : decode cX12_isNew 89 = .ok (.bipush 120, 2) := by decide +kernel
theorem dX12_isNew_91 : decode cX12_isNew 91 = .ok (.if_icmp .ge 7, 3) := by decide +kernel
theorem dX12_isNew_94 : decode cX12_isNew 94 = .ok (.iconst 1, 1) := by decide +kernel
theorem dX12_isNew_95 : decode cX12_isNew 95 = .ok (.goto 4, 3) := by decide +kernel
theorem dX12_isNew_98 : decode cX12_isNew 98 = .ok (.iconst 0, 1) := by decide +kernel
theorem dX12_isNew_99 : decode cX12_isNew 99 = .ok (.ireturn, 1) := by decide +kernel
theorem dX12_isVersionAt_0 : decode cX12_isVersionAt 0 = .ok (.aload_n 0, 1) := by decide +kernel
theorem dX12_isVersionAt_1 : decode cX12_isVersionAt 1 = .ok (.iload_n 1, 1) := by decide +kernel
theorem dX12_isVersionAt_2 : decode cX12_isVersionAt 2 = .ok (.invokevirtual 381, 3) := by decide +kernel
theorem dX12_isVersionAt_5 : decode cX12_isVersionAt 5 = .ok (.ifCond .eq 36, 3) := by decide +kernel
theorem dX12_isVersionAt_8 : decode cX12_isVersionAt 8 = .ok (.iload_n 2, 1) := by decide +kernel
theorem dX12_isVersionAt_9 : decode cX12_isVersionAt 9 = .ok (.iconst 0, 1) := by decide +kernel
theorem dX12_isVersionAt_10 : decode cX12_isVersionAt 10 = .ok (.aload_n 0, 1) := by decide +kernel
theorem dX12_isVersionAt_11 : decode cX12_isVersionAt 11 = .ok (.getfield 192, 3) := by decide +kernel
theorem dX12_isVersionAt_14 : decode cX12_isVersionAt 14 = .ok (.iconst 1, 1) := by decide +kernel
theorem dX12_isVersionAt_15 : decode cX12_isVersionAt 15 = .ok (.isub, 1) := by decide +kernel
theorem dX12_isVersionAt_16 : decode cX12_isVersionAt 16 = .ok (.invokestatic 184, 3) := by decide +kernel
theorem dX12_isVersionAt_19 : decode cX12_isVersionAt 19 = .ok (.ifCond .eq 22, 3) := by decide +kernel
theorem dX12_isVersionAt_22 : decode cX12_isVersionAt 22 = .ok (.aload_n 0, 1) := by decide +kernel
theorem dX12_isVersionAt_23 : decode cX12_isVersionAt 23 = .ok (.getfield 31, 3) := by decide +kernel
theorem dX12_isVersionAt_26 : decode cX12_isVersionAt 26 = .ok (.iload_n 2, 1) := by decide +kernel
theorem dX12_isVersionAt_27 : decode cX12_isVersionAt 27 = .ok (.iaload, 1) := by decide +kernel
theorem dX12_isVersionAt_28 : decode cX12_isVersionAt 28 = .ok (.aload_n 0, 1) := by decide +kernel
theorem dX12_isVersionAt_29 : decode cX12_isVersionAt 29 = .ok (.getfield 19, 3) := by decide +kernel
theorem dX12_isVersionAt_32 : decode cX12_isVersionAt 32 = .ok (.iload_n 1, 1) := by decide +kernel
theorem dX12_isVersionAt_33 : decode cX12_isVersionAt 33 = .ok (.iaload, 1) := by decide +kernel
theorem dX12_isVersionAt_34 : decode cX12_isVersionAt 34 = .ok (.if_icmp .ne 7, 3) := by decide +kernel
theorem dX12_isVersionAt_37 : decode cX12_isVersionAt 37 = .ok (.iconst 1, 1) := by decide +kernel
theorem dX12_isVersionAt_38 : decode cX12_isVersionAt 38 = .ok (.goto 4, 3) := by decide +kernel
theorem dX12_isVersionAt_41 : decode cX12_isVersionAt 41 = .ok (.iconst 0, 1) := by decide +kernel
theorem dX12_isVersionAt_42 : decode cX12_isVersionAt 42 = .ok (.ireturn, 1) := by decide +kernel
theorem dX12_edit_0 : decode cX12_edit 0 = .ok (.aload_n 0, 1) := by decide +kernel
theorem dX12_edit_1 : decode cX12_edit 1 = .ok (.iload_n 1, 1) := by decide +kernel
theorem dX12_edit_2 : decode cX12_edit 2 = .ok (.iload_n 2, 1) := by decide +kernel
theorem dX12_edit_3 : decode cX12_edit 3 = .ok (.invokevirtual 438, 3) := by decide +kernel
theorem dX12_edit_6 : decode cX12_edit 6 = .ok (.istore 4, 2) := by decide +kernel
theorem dX12_edit_8 : decode cX12_edit 8 = .ok (.aload_n 0, 1) := by decide +kernel
theorem dX12_edit_9 : decode cX12_edit 9 = .ok (.iload 4, 2) := by decide +kernel
theorem dX12_edit_11 : decode cX12_edit 11 = .ok (.ifCond .eq 23, 3) := by decide +kernel
theorem dX12_edit_14 : decode cX12_edit 14 = .ok (.iload_n 3, 1) := by decide +kernel
theorem dX12_edit_15 : decode cX12_edit 15 = .ok (.iconst (-1), 1) := by decide +kernel
theorem dX12_edit_16 : decode cX12_edit 16 = .ok (.if_icmp .eq 22, 3) := by decide +kernel
theorem dX12_edit_19 : decode cX12_edit 19 = .ok (.iload_n 3, 1) := by decide +kernel
theorem dX12_edit_20 : decode cX12_edit 20 = .ok (.iconst 0, 1) := by decide +kernel
theorem dX12_edit_21 : decode cX12_edit 21 = .ok (.aload_n 0, 1) := by decide +kernel
theorem dX12_edit_22 : decode cX12_edit 22 = .ok (.iload_n 2, 1) := by decide +kernel
theorem dX12_edit_23 : decode cX12_edit 23 = .ok (.invokevirtual 427, 3) := by decide +kernel
theorem dX12_edit_26 : decode cX12_edit 26 = .ok (.iconst 1, 1) := by decide +kernel
theorem dX12_edit_27 : decode cX12_edit 27 = .ok (.isub, 1) := by decide +kernel
theorem dX12_edit_28 : decode cX12_edit 28 = .ok (.invokestatic 184, 3) := by decide +kernel
theorem dX12_edit_31 : decode cX12_edit 31 = .ok (.ifCond .ne 7, 3) := by decide +kernel
theorem dX12_edit_34 : decode cX12_edit 34 = .ok (.iconst 1, 1) := by decide +kernel
theorem dX12_edit_35 : decode cX12_edit 35 = .ok (.goto 4, 3) := by decide +kernel
theorem dX12_edit_38 : decode cX12_edit 38 = .ok (.iconst 0, 1) := by decide +kernel
theorem dX12_edit_39 : decode cX12_edit 39 = .ok (.putfield 180, 3) := by decide +kernel
theorem dX12_edit_42 : decode cX12_edit 42 = .ok (.aload_n 0, 1) := by decide +kernel
theorem dX12_edit_43 : decode cX12_edit 43 = .ok (.getfield 180, 3) := by decide +kernel
theorem dX12_edit_46 : decode cX12_edit 46 = .ok (.ifCond .le 5, 3) := by decide +kernel
theorem dX12_edit_49 : decode cX12_edit 49 = .ok (.iconst 0, 1) := by decide +kernel
theorem dX12_edit_50 : decode cX12_edit 50 = .ok (.ireturn, 1) := by decide +kernel
theorem dX12_edit_51 : decode cX12_edit 51 = .ok (.aload_n 0, 1) := by decide +kernel
theorem dX12_edit_52 : decode cX12_edit 52 = .ok (.iload_n 1, 1) := by decide +kernel
theorem dX12_edit_53 : decode cX12_edit 53 = .ok (.invokevirtual 209, 3) := by decide +kernel
theorem dX12_edit_56 : decode cX12_edit 56 = .ok (.istore 5, 2) := by decide +kernel
theorem dX12_edit_58 : decode cX12_edit 58 = .ok (.aload_n 0, 1) := by decide +kernel
theorem dX12_edit_59 : decode cX12_edit 59 = .ok (.iload_n 2, 1) := by decide +kernel
theorem dX12_edit_60 : decode cX12_edit 60 = .ok (.iload_n 3, 1) := by decide +kernel
theorem dX12_edit_61 : decode cX12_edit 61 = .ok (.invokevirtual 441, 3) := by decide +kernel
theorem dX12_edit_64 : decode cX12_edit 64 = .ok (.aload_n 0, 1) := by decide +kernel
theorem dX12_edit_65 : decode cX12_edit 65 = .ok (.iload_n 1, 1) := by decide +kernel
theorem dX12_edit_66 : decode cX12_edit 66 = .ok (.invokevirtual 393, 3) := by decide +kernel
theorem dX12_edit_69 : decode cX12_edit 69 = .ok (.ifCond .eq 23, 3) := by decide +kernel
theorem dX12_edit_72 : decode cX12_edit 72 = .ok (.iload_n 2, 1) := by decide +kernel
theorem dX12_edit_73 : decode cX12_edit 73 = .ok (.iload 5, 2) := by decide +kernel
theorem dX12_edit_75 : decode cX12_edit 75 = .ok (.if_icmp .eq 13, 3) := by decide +kernel
theorem dX12_edit_78 : decode cX12_edit 78 = .ok (.aload_n 0, 1) := by decide +kernel
theorem dX12_edit_79 : decode cX12_edit 79 = .ok (.iload_n 2, 1) := by decide +kernel
theorem dX12_edit_80 : decode cX12_edit 80 = .ok (.iload 5, 2) := by decide +kernel
theorem dX12_edit_82 : decode cX12_edit 82 = .ok (.invokevirtual 444, 3) := by decide +kernel
theorem dX12_edit_85 : decode cX12_edit 85 = .ok (.ifCond .eq 7, 3) := by decide +kernel
theorem dX12_edit_88 : decode cX12_edit 88 = .ok (.iconst 1, 1) := by decide +kernel
theorem dX12_edit_89 : decode cX12_edit 89 = .ok (.goto 4, 3) := by decide +kernel
theorem dX12_edit_92 : decode cX12_edit 92 = .ok (.iconst 0, 1) := by decide +kernel
theorem dX12_edit_93 : decode cX12_edit 93 = .ok (.istore 6, 2) := by decide +kernel
theorem dX12_edit_95 : decode cX12_edit 95 = .ok (.aload_n 0, 1) := by decide +kernel
theorem dX12_edit_96 : decode cX12_edit 96 = .ok (.iload 6, 2) := by decide +kernel
theorem dX12_edit_98 : decode cX12_edit 98 = .ok (.ifCond .eq 16, 3) := by decide +kernel
theorem dX12_edit_101 : decode cX12_edit 101 = .ok (.aload_n 0, 1) := by decide +kernel
theorem dX12_edit_102 : decode cX12_edit 102 = .ok (.iload 5, 2) := by decide +kernel
theorem dX12_edit_104 : decode cX12_edit 104 = .ok (.invokevirtual 447, 3) := by decide +kernel
theorem dX12_edit_107 : decode cX12_edit 107 = .ok (.ifCond .eq 7, 3) := by decide +kernel
theorem dX12_edit_110 : decode cX12_edit 110 = .ok (.iconst 0, 1) := by decide +kernel
theorem dX12_edit_111 : decode cX12_edit 111 = .ok (.goto 4, 3) := by decide +kernel
theorem dX12_edit_114 : decode cX12_edit 114 = .ok (.iconst 2, 1) := by decide +kernel
theorem dX12_edit_115 : decode cX12_edit 115 = .ok (.putfield 180, 3) := by decide +kernel
theorem dX12_edit_118 : decode cX12_edit 118 = .ok (.aload_n 0, 1) := by decide +kernel
theorem dX12_edit_119 : decode cX12_edit 119 = .ok (.getfield 180, 3) := by decide +kernel
theorem dX12_edit_122 : decode cX12_edit 122 = .ok (.ifCond .le 5, 3) := by decide +kernel
theorem dX12_edit_125 : decode cX12_edit 125 = .ok (.iconst 0, 1) := by decide +kernel
theorem dX12_edit_126 : decode cX12_edit 126 = .ok (.ireturn, 1) := by decide +kernel
theorem dX12_edit_127 : decode cX12_edit 127 = .ok (.aload_n 0, 1) := by decide +kernel
theorem dX12_edit_128 : decode cX12_edit 128 = .ok (.iconst 0, 1) := by decide +kernel
theorem dX12_edit_129 : decode cX12_edit 129 = .ok (.putfield 387, 3) := by decide +kernel
theorem dX12_edit_132 : decode cX12_edit 132 = .ok (.aload_n 0, 1) := by decide +kernel
theorem dX12_edit_133 : decode cX12_edit 133 = .ok (.aload_n 0, 1) := by decide +kernel
theorem dX12_edit_134 : decode cX12_edit 134 = .ok (.getfield 19, 3) := by decide +kernel
theorem dX12_edit_137 : decode cX12_edit 137 = .ok (.iload_n 1, 1) := by decide +kernel
theorem dX12_edit_138 : decode cX12_edit 138 = .ok (.iaload, 1) := by decide +kernel
theorem dX12_edit_139 : decode cX12_edit 139 = .ok (.aload_n 0, 1) := by decide +kernel
theorem dX12_edit_140 : decode cX12_edit 140 = .ok (.getfield 174, 3) := by decide +kernel
theorem dX12_edit_143 : decode cX12_edit 143 = .ok (.iconst 0, 1) := by decide +kernel
theorem dX12_edit_144 : decode cX12_edit 144 = .ok (.aload_n 0, 1) := by decide +kernel
theorem dX12_edit_145 : decode cX12_edit 145 = .ok (.getfield 409, 3) := by decide +kernel
theorem dX12_edit_148 : decode cX12_edit 148 = .ok (.invokevirtual 450, 3) := by decide +kernel
theorem dX12_edit_151 : decode cX12_edit 151 = .ok (.istore 7, 2) := by decide +kernel
theorem dX12_edit_153 : decode cX12_edit 153 = .ok (.aload_n 0, 1) := by decide +kernel
theorem dX12_edit_154 : decode cX12_edit 154 = .ok (.invokevirtual 396, 3) := by decide +kernel
theorem dX12_edit_157 : decode cX12_edit 157 = .ok (.iload 7, 2) := by decide +kernel
theorem dX12_edit_159 : decode cX12_edit 159 = .ok (.ireturn, 1) := by decide +kernel
theorem dX12_undoes_0 : decode cX12_undoes 0 = .ok (.aload_n 0, 1) := by decide +kernel
theorem dX12_undoes_1 : decode cX12_undoes 1 = .ok (.iload_n 2, 1) := by decide +kernel
theorem dX12_undoes_2 : decode cX12_undoes 2 = .ok (.invokevirtual 427, 3) := by decide +kernel
theorem dX12_undoes_5 : decode cX12_undoes 5 = .ok (.istore 4, 2) := by decide +kernel
theorem dX12_undoes_7 : decode cX12_undoes 7 = .ok (.iload 4, 2) := by decide +kernel
theorem dX12_undoes_9 : decode cX12_undoes 9 = .ok (.aload_n 0, 1) := by decide +kernel
theorem dX12_undoes_10 : decode cX12_undoes 10 = .ok (.iload_n 1, 1) := by decide +kernel
theorem dX12_undoes_11 : decode cX12_undoes 11 = .ok (.invokevirtual 427, 3) := by decide +kernel
theorem dX12_undoes_14 : decode cX12_undoes 14 = .ok (.if_icmp .ne 17, 3) := by decide +kernel
theorem dX12_undoes_17 : decode cX12_undoes 17 = .ok (.iload 4, 2) := by decide +kernel
theorem dX12_undoes_19 : decode cX12_undoes 19 = .ok (.aload_n 0, 1) := by decide +kernel
theorem dX12_undoes_20 : decode cX12_undoes 20 = .ok (.iload_n 3, 1) := by decide +kernel
theorem dX12_undoes_21 : decode cX12_undoes 21 = .ok (.invokevirtual 427, 3) := by decide +kernel
theorem dX12_undoes_24 : decode cX12_undoes 24 = .ok (.if_icmp .ne 7, 3) := by decide +kernel
theorem dX12_undoes_27 : decode cX12_undoes 27 = .ok (.iconst 1, 1) := by decide +kernel
theorem dX12_undoes_28 : decode cX12_undoes 28 = .ok (.goto 4, 3) := by decide +kernel
theorem dX12_undoes_31 : decode cX12_undoes 31 = .ok (.iconst 0, 1) := by decide +kernel
theorem dX12_undoes_32 : decode cX12_undoes 32 = .ok (.istore 5, 2) := by decide +kernel
theorem dX12_undoes_34 : decode cX12_undoes 34 = .ok (.bipush 30, 2) := by decide +kernel
theorem dX12_undoes_36 : decode cX12_undoes 36 = .ok (.iload_n 1, 1) := by decide +kernel
theorem dX12_undoes_37 : decode cX12_undoes 37 = .ok (.imul, 1) := by decide +kernel
theorem dX12_undoes_38 : decode cX12_undoes 38 = .ok (.istore 6, 2) := by decide +kernel
theorem dX12_undoes_40 : decode cX12_undoes 40 = .ok (.bipush 30, 2) := by decide +kernel
theorem dX12_undoes_42 : decode cX12_undoes 42 = .ok (.iload_n 2, 1) := by decide +kernel
theorem dX12_undoes_43 : decode cX12_undoes 43 = .ok (.imul, 1) := by decide +kernel
theorem dX12_undoes_44 : decode cX12_undoes 44 = .ok (.istore 7, 2) := by decide +kernel
theorem dX12_undoes_46 : decode cX12_undoes 46 = .ok (.bipush 30, 2) := by decide +kernel
theorem dX12_undoes_48 : decode cX12_undoes 48 = .ok (.iload_n 3, 1) := by decide +kernel
theorem dX12_undoes_49 : decode cX12_undoes 49 = .ok (.imul, 1) := by decide +kernel
theorem dX12_undoes_50 : decode cX12_undoes 50 = .ok (.istore 8, 2) := by decide +kernel
theorem dX12_undoes_52 : decode cX12_undoes 52 = .ok (.aload_n 0, 1) := by decide +kernel
theorem dX12_undoes_53 : decode cX12_undoes 53 = .ok (.iconst 0, 1) := by decide +kernel
theorem dX12_undoes_54 : decode cX12_undoes 54 = .ok (.putfield 409, 3) := by decide +kernel
theorem dX12_undoes_57 : decode cX12_undoes 57 = .ok (.iconst 0, 1) := by decide +kernel
theorem dX12_undoes_58 : decode cX12_undoes 58 = .ok (.istore 9, 2) := by decide +kernel
theorem dX12_undoes_60 : decode cX12_undoes 60 = .ok (.iload 9, 2) := by decide +kernel
theorem dX12_undoes_62 : decode cX12_undoes 62 = .ok (.iload 4, 2) := by decide +kernel
theorem dX12_undoes_64 : decode cX12_undoes 64 = .ok (.if_icmp .ge 116, 3) := by decide +kernel
theorem dX12_undoes_67 : decode cX12_undoes 67 = .ok (.iload 5, 2) := by decide +kernel
theorem dX12_undoes_69 : decode cX12_undoes 69 = .ok (.ifCond .eq 111, 3) := by decide +kernel
theorem dX12_undoes_72 : decode cX12_undoes 72 = .ok (.aload_n 0, 1) := by decide +kernel
theorem dX12_undoes_73 : decode cX12_undoes 73 = .ok (.getfield 22, 3) := by decide +kernel
theorem dX12_undoes_76 : decode cX12_undoes 76 = .ok (.iload 6, 2) := by decide +kernel
theorem dX12_undoes_78 : decode cX12_undoes 78 = .ok (.aload_n 0, 1) := by decide +kernel
theorem dX12_undoes_79 : decode cX12_undoes 79 = .ok (.getfield 25, 3) := by decide +kernel
theorem dX12_undoes_82 : decode cX12_undoes 82 = .ok (.iload_n 1, 1) := by decide +kernel
theorem dX12_undoes_83 : decode cX12_undoes 83 = .ok (.iaload, 1) := by decide +kernel
theorem dX12_undoes_84 : decode cX12_undoes 84 = .ok (.aload_n 0, 1) := by decide +kernel
theorem dX12_undoes_85 : decode cX12_undoes 85 = .ok (.getfield 22, 3) := by decide +kernel
theorem dX12_undoes_88 : decode cX12_undoes 88 = .ok (.iload 7, 2) := by decide +kernel
theorem dX12_undoes_90 : decode cX12_undoes 90 = .ok (.aload_n 0, 1) := by decide +kernel
theorem dX12_undoes_91 : decode cX12_undoes 91 = .ok (.getfield 25, 3) := by decide +kernel
theorem dX12_undoes_94 : decode cX12_undoes 94 = .ok (.iload_n 2, 1) := by decide +kernel
theorem dX12_undoes_95 : decode cX12_undoes 95 = .ok (.iaload, 1) := by decide +kernel
theorem dX12_undoes_96 : decode cX12_undoes 96 = .ok (.iload 9, 2) := by decide +kernel
theorem dX12_undoes_98 : decode cX12_undoes 98 = .ok (.invokestatic 430, 3) := by decide +kernel
theorem dX12_undoes_101 : decode cX12_undoes 101 = .ok (.ifCond .eq 24, 3) := by decide +kernel
theorem dX12_undoes_104 : decode cX12_undoes 104 = .ok (.aload_n 0, 1) := by decide +kernel
theorem dX12_undoes_105 : decode cX12_undoes 105 = .ok (.aload_n 0, 1) := by decide +kernel
theorem dX12_undoes_106 : decode cX12_undoes 106 = .ok (.getfield 22, 3) := by decide +kernel
theorem dX12_undoes_109 : decode cX12_undoes 109 = .ok (.iload 8, 2) := by decide +kernel
theorem dX12_undoes_111 : decode cX12_undoes 111 = .ok (.aload_n 0, 1) := by decide +kernel
theorem dX12_undoes_112 : decode cX12_undoes 112 = .ok (.getfield 25, 3) := by decide +kernel
theorem dX12_undoes_115 : decode cX12_undoes 115 = .ok (.iload_n 3, 1) := by decide +kernel
theorem dX12_undoes_116 : decode cX12_undoes 116 = .ok (.iaload, 1) := by decide +kernel
theorem dX12_undoes_117 : decode cX12_undoes 117 = .ok (.iload 9, 2) := by decide +kernel
theorem dX12_undoes_119 : decode cX12_undoes 119 = .ok (.invokevirtual 434, 3) := by decide +kernel
theorem dX12_undoes_122 : decode cX12_undoes 122 = .ok (.goto 52, 3) := by decide +kernel
theorem dX12_undoes_125 : decode cX12_undoes 125 = .ok (.aload_n 0, 1) := by decide +kernel
theorem dX12_undoes_126 : decode cX12_undoes 126 = .ok (.getfield 22, 3) := by decide +kernel
theorem dX12_undoes_129 : decode cX12_undoes 129 = .ok (.iload 8, 2) := by decide +kernel
theorem dX12_undoes_131 : decode cX12_undoes 131 = .ok (.aload_n 0, 1) := by decide +kernel
theorem dX12_undoes_132 : decode cX12_undoes 132 = .ok (.getfield 25, 3) := by decide +kernel
theorem dX12_undoes_135 : decode cX12_undoes 135 = .ok (.iload_n 3, 1) := by decide +kernel
theorem dX12_undoes_136 : decode cX12_undoes 136 = .ok (.iaload, 1) := by decide +kernel
theorem dX12_undoes_137 : decode cX12_undoes 137 = .ok (.aload_n 0, 1) := by decide +kernel
theorem dX12_undoes_138 : decode cX12_undoes 138 = .ok (.getfield 22, 3) := by decide +kernel
theorem dX12_undoes_141 : decode cX12_undoes 141 = .ok (.iload 7, 2) := by decide +kernel
theorem dX12_undoes_143 : decode cX12_undoes 143 = .ok (.aload_n 0, 1) := by decide +kernel
theorem dX12_undoes_144 : decode cX12_undoes 144 = .ok (.getfield 25, 3) := by decide +kernel
theorem dX12_undoes_147 : decode cX12_undoes 147 = .ok (.iload_n 2, 1) := by decide +kernel
theorem dX12_undoes_148 : decode cX12_undoes 148 = .ok (.iaload, 1) := by decide +kernel
theorem dX12_undoes_149 : decode cX12_undoes 149 = .ok (.iload 9, 2) := by decide +kernel
theorem dX12_undoes_151 : decode cX12_undoes 151 = .ok (.invokestatic 430, 3) := by decide +kernel
theorem dX12_undoes_154 : decode cX12_undoes 154 = .ok (.istore 5, 2) := by decide +kernel
theorem dX12_undoes_156 : decode cX12_undoes 156 = .ok (.aload_n 0, 1) := by decide +kernel
theorem dX12_undoes_157 : decode cX12_undoes 157 = .ok (.aload_n 0, 1) := by decide +kernel
theorem dX12_undoes_158 : decode cX12_undoes 158 = .ok (.getfield 22, 3) := by decide +kernel
theorem dX12_undoes_161 : decode cX12_undoes 161 = .ok (.iload 6, 2) := by decide +kernel
theorem dX12_undoes_163 : decode cX12_undoes 163 = .ok (.aload_n 0, 1) := by decide +kernel
theorem dX12_undoes_164 : decode cX12_undoes 164 = .ok (.getfield 25, 3) := by decide +kernel
theorem dX12_undoes_167 : decode cX12_undoes 167 = .ok (.iload_n 1, 1) := by decide +kernel
theorem dX12_undoes_168 : decode cX12_undoes 168 = .ok (.iaload, 1) := by decide +kernel
theorem dX12_undoes_169 : decode cX12_undoes 169 = .ok (.iload 9, 2) := by decide +kernel
theorem dX12_undoes_171 : decode cX12_undoes 171 = .ok (.invokevirtual 434, 3) := by decide +kernel
theorem dX12_undoes_174 : decode cX12_undoes 174 = .ok (.iinc 9 1, 3) := by decide +kernel
theorem dX12_undoes_177 : decode cX12_undoes 177 = .ok (.goto (-117), 3) := by decide +kernel
theorem dX12_undoes_180 : decode cX12_undoes 180 = .ok (.iload 5, 2) := by decide +kernel
theorem dX12_undoes_182 : decode cX12_undoes 182 = .ok (.ireturn, 1) := by decide +kernel
theorem dX12_undo_0 : decode cX12_undo 0 = .ok (.aload_n 0, 1) := by decide +kernel
theorem dX12_undo_1 : decode cX12_undo 1 = .ok (.iload_n 1, 1) := by decide +kernel
theorem dX12_undo_2 : decode cX12_undo 2 = .ok (.iload_n 2, 1) := by decide +kernel
theorem dX12_undo_3 : decode cX12_undo 3 = .ok (.invokevirtual 438, 3) := by decide +kernel
theorem dX12_undo_6 : decode cX12_undo 6 = .ok (.istore_n 3, 1) := by decide +kernel
theorem dX12_undo_7 : decode cX12_undo 7 = .ok (.aload_n 0, 1) := by decide +kernel
theorem dX12_undo_8 : decode cX12_undo 8 = .ok (.iload_n 3, 1) := by decide +kernel
theorem dX12_undo_9 : decode cX12_undo 9 = .ok (.ifCond .eq 15, 3) := by decide +kernel
theorem dX12_undo_12 : decode cX12_undo 12 = .ok (.aload_n 0, 1) := by decide +kernel
theorem dX12_undo_13 : decode cX12_undo 13 = .ok (.iload_n 2, 1) := by decide +kernel
theorem dX12_undo_14 : decode cX12_undo 14 = .ok (.invokevirtual 199, 3) := by decide +kernel
theorem dX12_undo_17 : decode cX12_undo 17 = .ok (.ifCond .le 7, 3) := by decide +kernel
theorem dX12_undo_20 : decode cX12_undo 20 = .ok (.iconst 0, 1) := by decide +kernel
theorem dX12_undo_21 : decode cX12_undo 21 = .ok (.goto 4, 3) := by decide +kernel
theorem dX12_undo_24 : decode cX12_undo 24 = .ok (.iconst 1, 1) := by decide +kernel
theorem dX12_undo_25 : decode cX12_undo 25 = .ok (.putfield 180, 3) := by decide +kernel
theorem dX12_undo_28 : decode cX12_undo 28 = .ok (.aload_n 0, 1) := by decide +kernel
theorem dX12_undo_29 : decode cX12_undo 29 = .ok (.getfield 180, 3) := by decide +kernel
theorem dX12_undo_32 : decode cX12_undo 32 = .ok (.ifCond .le 5, 3) := by decide +kernel
theorem dX12_undo_35 : decode cX12_undo 35 = .ok (.iconst 0, 1) := by decide +kernel
theorem dX12_undo_36 : decode cX12_undo 36 = .ok (.ireturn, 1) := by decide +kernel
theorem dX12_undo_37 : decode cX12_undo 37 = .ok (.aload_n 0, 1) := by decide +kernel
theorem dX12_undo_38 : decode cX12_undo 38 = .ok (.iload_n 1, 1) := by decide +kernel
theorem dX12_undo_39 : decode cX12_undo 39 = .ok (.invokevirtual 209, 3) := by decide +kernel
theorem dX12_undo_42 : decode cX12_undo 42 = .ok (.istore 4, 2) := by decide +kernel
theorem dX12_undo_44 : decode cX12_undo 44 = .ok (.aload_n 0, 1) := by decide +kernel
theorem dX12_undo_45 : decode cX12_undo 45 = .ok (.aload_n 0, 1) := by decide +kernel
theorem dX12_undo_46 : decode cX12_undo 46 = .ok (.getfield 19, 3) := by decide +kernel
theorem dX12_undo_49 : decode cX12_undo 49 = .ok (.iload_n 1, 1) := by decide +kernel
theorem dX12_undo_50 : decode cX12_undo 50 = .ok (.iaload, 1) := by decide +kernel
theorem dX12_undo_51 : decode cX12_undo 51 = .ok (.aload_n 0, 1) := by decide +kernel
theorem dX12_undo_52 : decode cX12_undo 52 = .ok (.iload_n 2, 1) := by decide +kernel
theorem dX12_undo_53 : decode cX12_undo 53 = .ok (.invokevirtual 199, 3) := by decide +kernel
theorem dX12_undo_56 : decode cX12_undo 56 = .ok (.iconst 1, 1) := by decide +kernel
theorem dX12_undo_57 : decode cX12_undo 57 = .ok (.isub, 1) := by decide +kernel
theorem dX12_undo_58 : decode cX12_undo 58 = .ok (.invokevirtual 454, 3) := by decide +kernel
theorem dX12_undo_61 : decode cX12_undo 61 = .ok (.istore 5, 2) := by decide +kernel
theorem dX12_undo_63 : decode cX12_undo 63 = .ok (.aload_n 0, 1) := by decide +kernel
theorem dX12_undo_64 : decode cX12_undo 64 = .ok (.aload_n 0, 1) := by decide +kernel
theorem dX12_undo_65 : decode cX12_undo 65 = .ok (.iload_n 1, 1) := by decide +kernel
theorem dX12_undo_66 : decode cX12_undo 66 = .ok (.invokevirtual 393, 3) := by decide +kernel
theorem dX12_undo_69 : decode cX12_undo 69 = .ok (.ifCond .eq 28, 3) := by decide +kernel
theorem dX12_undo_72 : decode cX12_undo 72 = .ok (.aload_n 0, 1) := by decide +kernel
theorem dX12_undo_73 : decode cX12_undo 73 = .ok (.iload 5, 2) := by decide +kernel
theorem dX12_undo_75 : decode cX12_undo 75 = .ok (.iload_n 2, 1) := by decide +kernel
theorem dX12_undo_76 : decode cX12_undo 76 = .ok (.iload 4, 2) := by decide +kernel
theorem dX12_undo_78 : decode cX12_undo 78 = .ok (.invokevirtual 457, 3) := by decide +kernel
theorem dX12_undo_81 : decode cX12_undo 81 = .ok (.ifCond .eq 16, 3) := by decide +kernel
theorem dX12_undo_84 : decode cX12_undo 84 = .ok (.aload_n 0, 1) := by decide +kernel
theorem dX12_undo_85 : decode cX12_undo 85 = .ok (.iload 4, 2) := by decide +kernel
theorem dX12_undo_87 : decode cX12_undo 87 = .ok (.invokevirtual 447, 3) := by decide +kernel
theorem dX12_undo_90 : decode cX12_undo 90 = .ok (.ifCond .eq 7, 3) := by decide +kernel
theorem dX12_undo_93 : decode cX12_undo 93 = .ok (.iconst 0, 1) := by decide +kernel
theorem dX12_undo_94 : decode cX12_undo 94 = .ok (.goto 4, 3) := by decide +kernel
theorem dX12_undo_97 : decode cX12_undo 97 = .ok (.iconst 2, 1) := by decide +kernel
theorem dX12_undo_98 : decode cX12_undo 98 = .ok (.putfield 180, 3) := by decide +kernel
theorem dX12_undo_101 : decode cX12_undo 101 = .ok (.aload_n 0, 1) := by decide +kernel
theorem dX12_undo_102 : decode cX12_undo 102 = .ok (.getfield 180, 3) := by decide +kernel
theorem dX12_undo_105 : decode cX12_undo 105 = .ok (.ifCond .le 5, 3) := by decide +kernel
theorem dX12_undo_108 : decode cX12_undo 108 = .ok (.iconst 0, 1) := by decide +kernel
theorem dX12_undo_109 : decode cX12_undo 109 = .ok (.ireturn, 1) := by decide +kernel
theorem dX12_undo_110 : decode cX12_undo 110 = .ok (.aload_n 0, 1) := by decide +kernel
theorem dX12_undo_111 : decode cX12_undo 111 = .ok (.aload_n 0, 1) := by decide +kernel
theorem dX12_undo_112 : decode cX12_undo 112 = .ok (.getfield 19, 3) := by decide +kernel
theorem dX12_undo_115 : decode cX12_undo 115 = .ok (.iload_n 1, 1) := by decide +kernel
theorem dX12_undo_116 : decode cX12_undo 116 = .ok (.iaload, 1) := by decide +kernel
theorem dX12_undo_117 : decode cX12_undo 117 = .ok (.aload_n 0, 1) := by decide +kernel
theorem dX12_undo_118 : decode cX12_undo 118 = .ok (.getfield 174, 3) := by decide +kernel
theorem dX12_undo_121 : decode cX12_undo 121 = .ok (.iconst 0, 1) := by decide +kernel
theorem dX12_undo_122 : decode cX12_undo 122 = .ok (.aload_n 0, 1) := by decide +kernel
theorem dX12_undo_123 : decode cX12_undo 123 = .ok (.getfield 409, 3) := by decide +kernel
theorem dX12_undo_126 : decode cX12_undo 126 = .ok (.invokevirtual 450, 3) := by decide +kernel
theorem dX12_undo_129 : decode cX12_undo 129 = .ok (.istore 6, 2) := by decide +kernel
theorem dX12_undo_131 : decode cX12_undo 131 = .ok (.aload_n 0, 1) := by decide +kernel
theorem dX12_undo_132 : decode cX12_undo 132 = .ok (.invokevirtual 396, 3) := by decide +kernel
theorem dX12_undo_135 : decode cX12_undo 135 = .ok (.iload 6, 2) := by decide +kernel
theorem dX12_undo_137 : decode cX12_undo 137 = .ok (.ireturn, 1) := by decide +kernel
theorem dX12_bringIn_0 : decode cX12_bringIn 0 = .ok (.aload_n 0, 1) := by decide +kernel
theorem dX12_bringIn_1 : decode cX12_bringIn 1 = .ok (.aload_n 0, 1) := by decide +kernel
theorem dX12_bringIn_2 : decode cX12_bringIn 2 = .ok (.iload_n 1, 1) := by decide +kernel
theorem dX12_bringIn_3 : decode cX12_bringIn 3 = .ok (.invokevirtual 381, 3) := by decide +kernel
theorem dX12_bringIn_6 : decode cX12_bringIn 6 = .ok (.ifCond .ne 7, 3) := by decide +kernel
theorem dX12_bringIn_9 : decode cX12_bringIn 9 = .ok (.iconst 1, 1) := by decide +kernel
theorem dX12_bringIn_10 : decode cX12_bringIn 10 = .ok (.goto 57, 3) := by decide +kernel
theorem dX12_bringIn_13 : decode cX12_bringIn 13 = .ok (.iload_n 2, 1) := by decide +kernel
theorem dX12_bringIn_14 : decode cX12_bringIn 14 = .ok (.iconst 1, 1) := by decide +kernel
theorem dX12_bringIn_15 : decode cX12_bringIn 15 = .ok (.aload_n 0, 1) := by decide +kernel
theorem dX12_bringIn_16 : decode cX12_bringIn 16 = .ok (.getfield 215, 3) := by decide +kernel
theorem dX12_bringIn_19 : decode cX12_bringIn 19 = .ok (.invokestatic 184, 3) := by decide +kernel
theorem dX12_bringIn_22 : decode cX12_bringIn 22 = .ok (.ifCond .ne 7, 3) := by decide +kernel
theorem dX12_bringIn_25 : decode cX12_bringIn 25 = .ok (.iconst 2, 1) := by decide +kernel
theorem dX12_bringIn_26 : decode cX12_bringIn 26 = .ok (.goto 41, 3) := by decide +kernel
theorem dX12_bringIn_29 : decode cX12_bringIn 29 = .ok (.aload_n 0, 1) := by decide +kernel
theorem dX12_bringIn_30 : decode cX12_bringIn 30 = .ok (.iload_n 1, 1) := by decide +kernel
theorem dX12_bringIn_31 : decode cX12_bringIn 31 = .ok (.invokevirtual 393, 3) := by decide +kernel
theorem dX12_bringIn_34 : decode cX12_bringIn 34 = .ok (.ifCond .eq 28, 3) := by decide +kernel
theorem dX12_bringIn_37 : decode cX12_bringIn 37 = .ok (.aload_n 0, 1) := by decide +kernel
theorem dX12_bringIn_38 : decode cX12_bringIn 38 = .ok (.aload_n 0, 1) := by decide +kernel
theorem dX12_bringIn_39 : decode cX12_bringIn 39 = .ok (.getfield 7, 3) := by decide +kernel
theorem dX12_bringIn_42 : decode cX12_bringIn 42 = .ok (.iconst 0, 1) := by decide +kernel
theorem dX12_bringIn_43 : decode cX12_bringIn 43 = .ok (.aload_n 0, 1) := by decide +kernel
theorem dX12_bringIn_44 : decode cX12_bringIn 44 = .ok (.getfield 387, 3) := by decide +kernel
theorem dX12_bringIn_47 : decode cX12_bringIn 47 = .ok (.invokevirtual 399, 3) := by decide +kernel
theorem dX12_bringIn_50 : decode cX12_bringIn 50 = .ok (.ifCond .eq 12, 3) := by decide +kernel
theorem dX12_bringIn_53 : decode cX12_bringIn 53 = .ok (.aload_n 0, 1) := by decide +kernel
theorem dX12_bringIn_54 : decode cX12_bringIn 54 = .ok (.getfield 192, 3) := by decide +kernel
theorem dX12_bringIn_57 : decode cX12_bringIn 57 = .ok (.bipush 120, 2) := by decide +kernel
theorem dX12_bringIn_59 : decode cX12_bringIn 59 = .ok (.if_icmp .ne 7, 3) := by decide +kernel
theorem dX12_bringIn_62 : decode cX12_bringIn 62 = .ok (.iconst 3, 1) := by decide +kernel
theorem dX12_bringIn_63 : decode cX12_bringIn 63 = .ok (.goto 4, 3) := by decide +kernel
theorem dX12_bringIn_66 : decode cX12_bringIn 66 = .ok (.iconst 0, 1) := by decide +kernel
theorem dX12_bringIn_67 : decode cX12_bringIn 67 = .ok (.putfield 180, 3) := by decide +kernel
theorem dX12_bringIn_70 : decode cX12_bringIn 70 = .ok (.aload_n 0, 1) := by decide +kernel
theorem dX12_bringIn_71 : decode cX12_bringIn 71 = .ok (.getfield 180, 3) := by decide +kernel
theorem dX12_bringIn_74 : decode cX12_bringIn 74 = .ok (.ifCond .ne 17, 3) := by decide +kernel
theorem dX12_bringIn_77 : decode cX12_bringIn 77 = .ok (.aload_n 0, 1) := by decide +kernel
theorem dX12_bringIn_78 : decode cX12_bringIn 78 = .ok (.aload_n 0, 1) := by decide +kernel
theorem dX12_bringIn_79 : decode cX12_bringIn 79 = .ok (.getfield 19, 3) := by decide +kernel
theorem dX12_bringIn_82 : decode cX12_bringIn 82 = .ok (.iload_n 1, 1) := by decide +kernel
theorem dX12_bringIn_83 : decode cX12_bringIn 83 = .ok (.iaload, 1) := by decide +kernel
theorem dX12_bringIn_84 : decode cX12_bringIn 84 = .ok (.iload_n 2, 1) := by decide +kernel
theorem dX12_bringIn_85 : decode cX12_bringIn 85 = .ok (.invokevirtual 406, 3) := by decide +kernel
theorem dX12_bringIn_88 : decode cX12_bringIn 88 = .ok (.goto 4, 3) := by decide +kernel
theorem dX12_bringIn_91 : decode cX12_bringIn 91 = .ok (.iconst 0, 1) := by decide +kernel
theorem dX12_bringIn_92 : decode cX12_bringIn 92 = .ok (.ireturn, 1) := by decide +kernel
theorem dX12_move_0 : decode cX12_move 0 = .ok (.aload_n 0, 1) := by decide +kernel
theorem dX12_move_1 : decode cX12_move 1 = .ok (.iload_n 1, 1) := by decide +kernel
theorem dX12_move_2 : decode cX12_move 2 = .ok (.invokestatic 188, 3) := by decide +kernel
theorem dX12_move_5 : decode cX12_move 5 = .ok (.ifCond .eq 20, 3) := by decide +kernel
theorem dX12_move_8 : decode cX12_move 8 = .ok (.iload_n 2, 1) := by decide +kernel
theorem dX12_move_9 : decode cX12_move 9 = .ok (.invokestatic 188, 3) := by decide +kernel
theorem dX12_move_12 : decode cX12_move 12 = .ok (.ifCond .eq 13, 3) := by decide +kernel
theorem dX12_move_15 : decode cX12_move 15 = .ok (.aload_n 0, 1) := by decide +kernel
theorem dX12_move_16 : decode cX12_move 16 = .ok (.getfield 19, 3) := by decide +kernel
theorem dX12_move_19 : decode cX12_move 19 = .ok (.iload_n 1, 1) := by decide +kernel
theorem dX12_move_20 : decode cX12_move 20 = .ok (.iaload, 1) := by decide +kernel
