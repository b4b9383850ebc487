theorem dX11_work_48 : decode cX11_work 48 = .ok (.getfield 20, 3) := by decide +kernel
theorem dX11_work_51 : decode cX11_work 51 = .ok (.iload 4, 2) := by decide +kernel
theorem dX11_work_53 : decode cX11_work 53 = .ok (.aaload, 1) := by decide +kernel
theorem dX11_work_54 : decode cX11_work 54 = .ok (.invokevirtual 256, 3) := by decide +kernel
theorem dX11_work_57 : decode cX11_work 57 = .ok (.iinc 2 1, 3) := by decide +kernel
theorem dX11_work_60 : decode cX11_work 60 = .ok (.iinc 3 1, 3) := by decide +kernel
theorem dX11_work_63 : decode cX11_work 63 = .ok (.goto (-39), 3) := by decide +kernel
theorem dX11_work_66 : decode cX11_work 66 = .ok (.iload_n 2, 1) := by decide +kernel
theorem dX11_work_67 : decode cX11_work 67 = .ok (.ireturn, 1) := by decide +kernel
theorem dX11_read_0 : decode cX11_read 0 = .ok (.aload_n 0, 1) := by decide +kernel
theorem dX11_read_1 : decode cX11_read 1 = .ok (.iload_n 1, 1) := by decide +kernel
theorem dX11_read_2 : decode cX11_read 2 = .ok (.invokevirtual 116, 3) := by decide +kernel
theorem dX11_read_5 : decode cX11_read 5 = .ok (.pop, 1) := by decide +kernel
theorem dX11_read_6 : decode cX11_read 6 = .ok (.aload_n 0, 1) := by decide +kernel
theorem dX11_read_7 : decode cX11_read 7 = .ok (.getfield 20, 3) := by decide +kernel
theorem dX11_read_10 : decode cX11_read 10 = .ok (.iload_n 1, 1) := by decide +kernel
theorem dX11_read_11 : decode cX11_read 11 = .ok (.aaload, 1) := by decide +kernel
theorem dX11_read_12 : decode cX11_read 12 = .ok (.astore_n 3, 1) := by decide +kernel
theorem dX11_read_13 : decode cX11_read 13 = .ok (.aload_n 3, 1) := by decide +kernel
theorem dX11_read_14 : decode cX11_read 14 = .ok (.getfield 260, 3) := by decide +kernel
theorem dX11_read_17 : decode cX11_read 17 = .ok (.getfield 264, 3) := by decide +kernel
theorem dX11_read_20 : decode cX11_read 20 = .ok (.ifCond .eq 17, 3) := by decide +kernel
theorem dX11_read_23 : decode cX11_read 23 = .ok (.aload_n 3, 1) := by decide +kernel
theorem dX11_read_24 : decode cX11_read 24 = .ok (.getfield 260, 3) := by decide +kernel
theorem dX11_read_27 : decode cX11_read 27 = .ok (.getfield 270, 3) := by decide +kernel
theorem dX11_read_30 : decode cX11_read 30 = .ok (.ifCond .eq 13, 3) := by decide +kernel
theorem dX11_read_33 : decode cX11_read 33 = .ok (.iload_n 2, 1) := by decide +kernel
theorem dX11_read_34 : decode cX11_read 34 = .ok (.ifCond .ne 9, 3) := by decide +kernel
theorem dX11_read_37 : decode cX11_read 37 = .ok (.aload_n 0, 1) := by decide +kernel
theorem dX11_read_38 : decode cX11_read 38 = .ok (.iload_n 1, 1) := by decide +kernel
theorem dX11_read_39 : decode cX11_read 39 = .ok (.aload_n 3, 1) := by decide +kernel
theorem dX11_read_40 : decode cX11_read 40 = .ok (.invokevirtual 256, 3) := by decide +kernel
theorem dX11_read_43 : decode cX11_read 43 = .ok (.aload_n 3, 1) := by decide +kernel
theorem dX11_read_44 : decode cX11_read 44 = .ok (.getfield 260, 3) := by decide +kernel
theorem dX11_read_47 : decode cX11_read 47 = .ok (.getfield 273, 3) := by decide +kernel
theorem dX11_read_50 : decode cX11_read 50 = .ok (.getfield 277, 3) := by decide +kernel
theorem dX11_read_53 : decode cX11_read 53 = .ok (.ireturn, 1) := by decide +kernel
theorem dX11_clock_0 : decode cX11_clock 0 = .ok (.aload_n 0, 1) := by decide +kernel
theorem dX11_clock_1 : decode cX11_clock 1 = .ok (.getfield 41, 3) := by decide +kernel
theorem dX11_clock_4 : decode cX11_clock 4 = .ok (.ireturn, 1) := by decide +kernel
theorem dX11_versions_0 : decode cX11_versions 0 = .ok (.aload_n 0, 1) := by decide +kernel
theorem dX11_versions_1 : decode cX11_versions 1 = .ok (.iload_n 1, 1) := by decide +kernel
theorem dX11_versions_2 : decode cX11_versions 2 = .ok (.invokevirtual 85, 3) := by decide +kernel
theorem dX11_versions_5 : decode cX11_versions 5 = .ok (.getfield 102, 3) := by decide +kernel
theorem dX11_versions_8 : decode cX11_versions 8 = .ok (.astore_n 2, 1) := by decide +kernel
theorem dX11_versions_9 : decode cX11_versions 9 = .ok (.aload_n 2, 1) := by decide +kernel
theorem dX11_versions_10 : decode cX11_versions 10 = .ok (.ifnonnull 7, 3) := by decide +kernel
theorem dX11_versions_13 : decode cX11_versions 13 = .ok (.iconst 0, 1) := by decide +kernel
theorem dX11_versions_14 : decode cX11_versions 14 = .ok (.goto 10, 3) := by decide +kernel
theorem dX11_versions_17 : decode cX11_versions 17 = .ok (.aload_n 2, 1) := by decide +kernel
theorem dX11_versions_18 : decode cX11_versions 18 = .ok (.getfield 280, 3) := by decide +kernel
theorem dX11_versions_21 : decode cX11_versions 21 = .ok (.invokevirtual 284, 3) := by decide +kernel
theorem dX11_versions_24 : decode cX11_versions 24 = .ok (.ireturn, 1) := by decide +kernel
theorem dX11_versionAt_0 : decode cX11_versionAt 0 = .ok (.aload_n 0, 1) := by decide +kernel
theorem dX11_versionAt_1 : decode cX11_versionAt 1 = .ok (.iload_n 1, 1) := by decide +kernel
theorem dX11_versionAt_2 : decode cX11_versionAt 2 = .ok (.invokevirtual 85, 3) := by decide +kernel
theorem dX11_versionAt_5 : decode cX11_versionAt 5 = .ok (.getfield 102, 3) := by decide +kernel
theorem dX11_versionAt_8 : decode cX11_versionAt 8 = .ok (.astore_n 3, 1) := by decide +kernel
theorem dX11_versionAt_9 : decode cX11_versionAt 9 = .ok (.aload_n 3, 1) := by decide +kernel
theorem dX11_versionAt_10 : decode cX11_versionAt 10 = .ok (.ifnonnull 7, 3) := by decide +kernel
theorem dX11_versionAt_13 : decode cX11_versionAt 13 = .ok (.aconst_null, 1) := by decide +kernel
theorem dX11_versionAt_14 : decode cX11_versionAt 14 = .ok (.goto 8, 3) := by decide +kernel
theorem dX11_versionAt_17 : decode cX11_versionAt 17 = .ok (.aload_n 3, 1) := by decide +kernel
theorem dX11_versionAt_18 : decode cX11_versionAt 18 = .ok (.iload_n 2, 1) := by decide +kernel
theorem dX11_versionAt_19 : decode cX11_versionAt 19 = .ok (.invokevirtual 126, 3) := by decide +kernel
theorem dX11_versionAt_22 : decode cX11_versionAt 22 = .ok (.astore 4, 2) := by decide +kernel
theorem dX11_versionAt_24 : decode cX11_versionAt 24 = .ok (.aload 4, 2) := by decide +kernel
theorem dX11_versionAt_26 : decode cX11_versionAt 26 = .ok (.ifnonnull 13, 3) := by decide +kernel
theorem dX11_versionAt_29 : decode cX11_versionAt 29 = .ok (.new 139, 3) := by decide +kernel
theorem dX11_versionAt_32 : decode cX11_versionAt 32 = .ok (.dup, 1) := by decide +kernel
theorem dX11_versionAt_33 : decode cX11_versionAt 33 = .ok (.ldc 166, 2) := by decide +kernel
theorem dX11_versionAt_35 : decode cX11_versionAt 35 = .ok (.invokespecial 143, 3) := by decide +kernel
theorem dX11_versionAt_38 : decode cX11_versionAt 38 = .ok (.athrow, 1) := by decide +kernel
theorem dX11_versionAt_39 : decode cX11_versionAt 39 = .ok (.aload 4, 2) := by decide +kernel
theorem dX11_versionAt_41 : decode cX11_versionAt 41 = .ok (.getfield 226, 3) := by decide +kernel
theorem dX11_versionAt_44 : decode cX11_versionAt 44 = .ok (.ireturn, 1) := by decide +kernel
theorem dX11_tokenAt_0 : decode cX11_tokenAt 0 = .ok (.aload_n 0, 1) := by decide +kernel
theorem dX11_tokenAt_1 : decode cX11_tokenAt 1 = .ok (.iload_n 1, 1) := by decide +kernel
theorem dX11_tokenAt_2 : decode cX11_tokenAt 2 = .ok (.invokevirtual 116, 3) := by decide +kernel
theorem dX11_tokenAt_5 : decode cX11_tokenAt 5 = .ok (.astore_n 3, 1) := by decide +kernel
theorem dX11_tokenAt_6 : decode cX11_tokenAt 6 = .ok (.aload_n 0, 1) := by decide +kernel
theorem dX11_tokenAt_7 : decode cX11_tokenAt 7 = .ok (.iload_n 2, 1) := by decide +kernel
theorem dX11_tokenAt_8 : decode cX11_tokenAt 8 = .ok (.invokevirtual 288, 3) := by decide +kernel
theorem dX11_tokenAt_11 : decode cX11_tokenAt 11 = .ok (.aload_n 3, 1) := by decide +kernel
theorem dX11_tokenAt_12 : decode cX11_tokenAt 12 = .ok (.getfield 148, 3) := by decide +kernel
theorem dX11_tokenAt_15 : decode cX11_tokenAt 15 = .ok (.getfield 130, 3) := by decide +kernel
theorem dX11_tokenAt_18 : decode cX11_tokenAt 18 = .ok (.iload_n 2, 1) := by decide +kernel
theorem dX11_tokenAt_19 : decode cX11_tokenAt 19 = .ok (.invokevirtual 291, 3) := by decide +kernel
theorem dX11_tokenAt_22 : decode cX11_tokenAt 22 = .ok (.ireturn, 1) := by decide +kernel
theorem dX11_leads_0 : decode cX11_leads 0 = .ok (.aload_n 0, 1) := by decide +kernel
theorem dX11_leads_1 : decode cX11_leads 1 = .ok (.iload_n 1, 1) := by decide +kernel
theorem dX11_leads_2 : decode cX11_leads 2 = .ok (.invokevirtual 85, 3) := by decide +kernel
theorem dX11_leads_5 : decode cX11_leads 5 = .ok (.pop, 1) := by decide +kernel
theorem dX11_leads_6 : decode cX11_leads 6 = .ok (.aload_n 0, 1) := by decide +kernel
theorem dX11_leads_7 : decode cX11_leads 7 = .ok (.getfield 10, 3) := by decide +kernel
theorem dX11_leads_10 : decode cX11_leads 10 = .ok (.iload_n 1, 1) := by decide +kernel
theorem dX11_leads_11 : decode cX11_leads 11 = .ok (.iconst (-1), 1) := by decide +kernel
theorem dX11_leads_12 : decode cX11_leads 12 = .ok (.invokevirtual 294, 3) := by decide +kernel
theorem dX11_leads_15 : decode cX11_leads 15 = .ok (.ireturn, 1) := by decide +kernel
theorem dX11_isStale_0 : decode cX11_isStale 0 = .ok (.aload_n 0, 1) := by decide +kernel
theorem dX11_isStale_1 : decode cX11_isStale 1 = .ok (.iload_n 1, 1) := by decide +kernel
theorem dX11_isStale_2 : decode cX11_isStale 2 = .ok (.invokevirtual 116, 3) := by decide +kernel
theorem dX11_isStale_5 : decode cX11_isStale 5 = .ok (.pop, 1) := by decide +kernel
theorem dX11_isStale_6 : decode cX11_isStale 6 = .ok (.aload_n 0, 1) := by decide +kernel
theorem dX11_isStale_7 : decode cX11_isStale 7 = .ok (.getfield 20, 3) := by decide +kernel
theorem dX11_isStale_10 : decode cX11_isStale 10 = .ok (.iload_n 1, 1) := by decide +kernel
theorem dX11_isStale_11 : decode cX11_isStale 11 = .ok (.aaload, 1) := by decide +kernel
theorem dX11_isStale_12 : decode cX11_isStale 12 = .ok (.invokevirtual 298, 3) := by decide +kernel
theorem dX11_isStale_15 : decode cX11_isStale 15 = .ok (.ireturn, 1) := by decide +kernel
theorem dX11_queued_0 : decode cX11_queued 0 = .ok (.iconst 0, 1) := by decide +kernel
theorem dX11_queued_1 : decode cX11_queued 1 = .ok (.istore_n 1, 1) := by decide +kernel
theorem dX11_queued_2 : decode cX11_queued 2 = .ok (.iconst 0, 1) := by decide +kernel
theorem dX11_queued_3 : decode cX11_queued 3 = .ok (.istore_n 2, 1) := by decide +kernel
theorem dX11_queued_4 : decode cX11_queued 4 = .ok (.iload_n 2, 1) := by decide +kernel
theorem dX11_queued_5 : decode cX11_queued 5 = .ok (.aload_n 0, 1) := by decide +kernel
theorem dX11_queued_6 : decode cX11_queued 6 = .ok (.getfield 20, 3) := by decide +kernel
theorem dX11_queued_9 : decode cX11_queued 9 = .ok (.arraylength, 1) := by decide +kernel
theorem dX11_queued_10 : decode cX11_queued 10 = .ok (.if_icmp .ge 24, 3) := by decide +kernel
theorem dX11_queued_13 : decode cX11_queued 13 = .ok (.aload_n 0, 1) := by decide +kernel
theorem dX11_queued_14 : decode cX11_queued 14 = .ok (.getfield 20, 3) := by decide +kernel
theorem dX11_queued_17 : decode cX11_queued 17 = .ok (.iload_n 2, 1) := by decide +kernel
theorem dX11_queued_18 : decode cX11_queued 18 = .ok (.aaload, 1) := by decide +kernel
theorem dX11_queued_19 : decode cX11_queued 19 = .ok (.invokevirtual 298, 3) := by decide +kernel
theorem dX11_queued_22 : decode cX11_queued 22 = .ok (.ifCond .eq 6, 3) := by decide +kernel
theorem dX11_queued_25 : decode cX11_queued 25 = .ok (.iinc 1 1, 3) := by decide +kernel
theorem dX11_queued_28 : decode cX11_queued 28 = .ok (.iinc 2 1, 3) := by decide +kernel
theorem dX11_queued_31 : decode cX11_queued 31 = .ok (.goto (-27), 3) := by decide +kernel
theorem dX11_queued_34 : decode cX11_queued 34 = .ok (.iload_n 1, 1) := by decide +kernel
theorem dX11_queued_35 : decode cX11_queued 35 = .ok (.ireturn, 1) := by decide +kernel
theorem dX11_shown_0 : decode cX11_shown 0 = .ok (.aload_n 0, 1) := by decide +kernel
theorem dX11_shown_1 : decode cX11_shown 1 = .ok (.iload_n 1, 1) := by decide +kernel
theorem dX11_shown_2 : decode cX11_shown 2 = .ok (.invokevirtual 116, 3) := by decide +kernel
theorem dX11_shown_5 : decode cX11_shown 5 = .ok (.pop, 1) := by decide +kernel
theorem dX11_shown_6 : decode cX11_shown 6 = .ok (.aload_n 0, 1) := by decide +kernel
theorem dX11_shown_7 : decode cX11_shown 7 = .ok (.iload_n 2, 1) := by decide +kernel
theorem dX11_shown_8 : decode cX11_shown 8 = .ok (.invokevirtual 288, 3) := by decide +kernel
theorem dX11_shown_11 : decode cX11_shown 11 = .ok (.aload_n 0, 1) := by decide +kernel
theorem dX11_shown_12 : decode cX11_shown 12 = .ok (.getfield 20, 3) := by decide +kernel
theorem dX11_shown_15 : decode cX11_shown 15 = .ok (.iload_n 1, 1) := by decide +kernel
theorem dX11_shown_16 : decode cX11_shown 16 = .ok (.aaload, 1) := by decide +kernel
theorem dX11_shown_17 : decode cX11_shown 17 = .ok (.getfield 260, 3) := by decide +kernel
theorem dX11_shown_20 : decode cX11_shown 20 = .ok (.getfield 273, 3) := by decide +kernel
theorem dX11_shown_23 : decode cX11_shown 23 = .ok (.iload_n 2, 1) := by decide +kernel
theorem dX11_shown_24 : decode cX11_shown 24 = .ok (.invokevirtual 301, 3) := by decide +kernel
theorem dX11_shown_27 : decode cX11_shown 27 = .ok (.ireturn, 1) := by decide +kernel
theorem dX11_shownAnew_0 : decode cX11_shownAnew 0 = .ok (.aload_n 0, 1) := by decide +kernel
theorem dX11_shownAnew_1 : decode cX11_shownAnew 1 = .ok (.iload_n 1, 1) := by decide +kernel
theorem dX11_shownAnew_2 : decode cX11_shownAnew 2 = .ok (.invokevirtual 116, 3) := by decide +kernel
theorem dX11_shownAnew_5 : decode cX11_shownAnew 5 = .ok (.astore_n 3, 1) := by decide +kernel
theorem dX11_shownAnew_6 : decode cX11_shownAnew 6 = .ok (.aload_n 0, 1) := by decide +kernel
theorem dX11_shownAnew_7 : decode cX11_shownAnew 7 = .ok (.iload_n 2, 1) := by decide +kernel
theorem dX11_shownAnew_8 : decode cX11_shownAnew 8 = .ok (.invokevirtual 288, 3) := by decide +kernel
theorem dX11_shownAnew_11 : decode cX11_shownAnew 11 = .ok (.aload_n 0, 1) := by decide +kernel
theorem dX11_shownAnew_12 : decode cX11_shownAnew 12 = .ok (.getfield 10, 3) := by decide +kernel
theorem dX11_shownAnew_15 : decode cX11_shownAnew 15 = .ok (.iload_n 1, 1) := by decide +kernel
theorem dX11_shownAnew_16 : decode cX11_shownAnew 16 = .ok (.aload_n 3, 1) := by decide +kernel
theorem dX11_shownAnew_17 : decode cX11_shownAnew 17 = .ok (.getfield 148, 3) := by decide +kernel
theorem dX11_shownAnew_20 : decode cX11_shownAnew 20 = .ok (.getfield 130, 3) := by decide +kernel
theorem dX11_shownAnew_23 : decode cX11_shownAnew 23 = .ok (.iconst (-1), 1) := by decide +kernel
theorem dX11_shownAnew_24 : decode cX11_shownAnew 24 = .ok (.invokevirtual 304, 3) := by decide +kernel
theorem dX11_shownAnew_27 : decode cX11_shownAnew 27 = .ok (.aload_n 0, 1) := by decide +kernel
theorem dX11_shownAnew_28 : decode cX11_shownAnew 28 = .ok (.getfield 10, 3) := by decide +kernel
theorem dX11_shownAnew_31 : decode cX11_shownAnew 31 = .ok (.getfield 308, 3) := by decide +kernel
theorem dX11_shownAnew_34 : decode cX11_shownAnew 34 = .ok (.getfield 273, 3) := by decide +kernel
theorem dX11_shownAnew_37 : decode cX11_shownAnew 37 = .ok (.iload_n 2, 1) := by decide +kernel
theorem dX11_shownAnew_38 : decode cX11_shownAnew 38 = .ok (.invokevirtual 301, 3) := by decide +kernel
theorem dX11_shownAnew_41 : decode cX11_shownAnew 41 = .ok (.ireturn, 1) := by decide +kernel
theorem dX11_linked_0 : decode cX11_linked 0 = .ok (.aload_n 0, 1) := by decide +kernel
theorem dX11_linked_1 : decode cX11_linked 1 = .ok (.iload_n 1, 1) := by decide +kernel
theorem dX11_linked_2 : decode cX11_linked 2 = .ok (.invokevirtual 85, 3) := by decide +kernel
theorem dX11_linked_5 : decode cX11_linked 5 = .ok (.astore_n 3, 1) := by decide +kernel
theorem dX11_linked_6 : decode cX11_linked 6 = .ok (.iload_n 2, 1) := by decide +kernel
theorem dX11_linked_7 : decode cX11_linked 7 = .ok (.tableswitch 47 0 2 #[25, 33, 39], 25) := by decide +kernel
theorem dX11_linked_32 : decode cX11_linked 32 = .ok (.aload_n 3, 1) := by decide +kernel
theorem dX11_linked_33 : decode cX11_linked 33 = .ok (.getfield 260, 3) := by decide +kernel
theorem dX11_linked_36 : decode cX11_linked 36 = .ok (.getfield 315, 3) := by decide +kernel
theorem dX11_linked_39 : decode cX11_linked 39 = .ok (.ireturn, 1) := by decide +kernel
theorem dX11_linked_40 : decode cX11_linked 40 = .ok (.aload_n 0, 1) := by decide +kernel
theorem dX11_linked_41 : decode cX11_linked 41 = .ok (.iload_n 1, 1) := by decide +kernel
theorem dX11_linked_42 : decode cX11_linked 42 = .ok (.invokevirtual 318, 3) := by decide +kernel
theorem dX11_linked_45 : decode cX11_linked 45 = .ok (.ireturn, 1) := by decide +kernel
theorem dX11_linked_46 : decode cX11_linked 46 = .ok (.aload_n 3, 1) := by decide +kernel
theorem dX11_linked_47 : decode cX11_linked 47 = .ok (.getfield 260, 3) := by decide +kernel
theorem dX11_linked_50 : decode cX11_linked 50 = .ok (.getfield 321, 3) := by decide +kernel
theorem dX11_linked_53 : decode cX11_linked 53 = .ok (.ireturn, 1) := by decide +kernel
theorem dX11_linked_54 : decode cX11_linked 54 = .ok (.new 139, 3) := by decide +kernel
theorem dX11_linked_57 : decode cX11_linked 57 = .ok (.dup, 1) := by decide +kernel
theorem dX11_linked_58 : decode cX11_linked 58 = .ok (.ldc_w 324, 3) := by decide +kernel
theorem dX11_linked_61 : decode cX11_linked 61 = .ok (.invokespecial 143, 3) := by decide +kernel
theorem dX11_linked_64 : decode cX11_linked 64 = .ok (.athrow, 1) := by decide +kernel
theorem dX11_members_0 : decode cX11_members 0 = .ok (.iload_n 1, 1) := by decide +kernel
theorem dX11_members_1 : decode cX11_members 1 = .ok (.ifCond .lt 9, 3) := by decide +kernel
theorem dX11_members_4 : decode cX11_members 4 = .ok (.iload_n 1, 1) := by decide +kernel
theorem dX11_members_5 : decode cX11_members 5 = .ok (.bipush 8, 2) := by decide +kernel
theorem dX11_members_7 : decode cX11_members 7 = .ok (.if_icmp .lt 14, 3) := by decide +kernel
theorem dX11_members_10 : decode cX11_members 10 = .ok (.new 139, 3) := by decide +kernel
theorem dX11_members_13 : decode cX11_members 13 = .ok (.dup, 1) := by decide +kernel
theorem dX11_members_14 : decode cX11_members 14 = .ok (.ldc_w 326, 3) := by decide +kernel
theorem dX11_members_17 : decode cX11_members 17 = .ok (.invokespecial 143, 3) := by decide +kernel
theorem dX11_members_20 : decode cX11_members 20 = .ok (.athrow, 1) := by decide +kernel
theorem dX11_members_21 : decode cX11_members 21 = .ok (.aload_n 0, 1) := by decide +kernel
theorem dX11_members_22 : decode cX11_members 22 = .ok (.getfield 20, 3) := by decide +kernel
theorem dX11_members_25 : decode cX11_members 25 = .ok (.iload_n 1, 1) := by decide +kernel
theorem dX11_members_26 : decode cX11_members 26 = .ok (.invokestatic 328, 3) := by decide +kernel
theorem dX11_members_29 : decode cX11_members 29 = .ok (.ireturn, 1) := by decide +kernel
theorem dX11_odd_0 : decode cX11_odd 0 = .ok (.iload_n 1, 1) := by decide +kernel
theorem dX11_odd_1 : decode cX11_odd 1 = .ok (.ifCond .eq 10, 3) := by decide +kernel
theorem dX11_odd_4 : decode cX11_odd 4 = .ok (.aload_n 0, 1) := by decide +kernel
theorem dX11_odd_5 : decode cX11_odd 5 = .ok (.invokevirtual 332, 3) := by decide +kernel
theorem dX11_odd_8 : decode cX11_odd 8 = .ok (.goto 7, 3) := by decide +kernel
theorem dX11_odd_11 : decode cX11_odd 11 = .ok (.aload_n 0, 1) := by decide +kernel
theorem dX11_odd_12 : decode cX11_odd 12 = .ok (.invokevirtual 335, 3) := by decide +kernel
theorem dX11_odd_15 : decode cX11_odd 15 = .ok (.ireturn, 1) := by decide +kernel
theorem dX11_inLanguage_0 : decode cX11_inLanguage 0 = .ok (.aload_n 0, 1) := by decide +kernel
theorem dX11_inLanguage_1 : decode cX11_inLanguage 1 = .ok (.iload_n 1, 1) := by decide +kernel
theorem dX11_inLanguage_2 : decode cX11_inLanguage 2 = .ok (.invokevirtual 85, 3) := by decide +kernel
theorem dX11_inLanguage_5 : decode cX11_inLanguage 5 = .ok (.astore_n 3, 1) := by decide +kernel
theorem dX11_inLanguage_6 : decode cX11_inLanguage 6 = .ok (.aload_n 0, 1) := by decide +kernel
theorem dX11_inLanguage_7 : decode cX11_inLanguage 7 = .ok (.iload_n 2, 1) := by decide +kernel
theorem dX11_inLanguage_8 : decode cX11_inLanguage 8 = .ok (.invokevirtual 338, 3) := by decide +kernel
theorem dX11_inLanguage_11 : decode cX11_inLanguage 11 = .ok (.iload_n 2, 1) := by decide +kernel
theorem dX11_inLanguage_12 : decode cX11_inLanguage 12 = .ok (.istore 4, 2) := by decide +kernel
theorem dX11_inLanguage_14 : decode cX11_inLanguage 14 = .ok (.iload 4, 2) := by decide +kernel
theorem dX11_inLanguage_16 : decode cX11_inLanguage 16 = .ok (.iconst 1, 1) := by decide +kernel
theorem dX11_inLanguage_17 : decode cX11_inLanguage 17 = .ok (.if_icmp .lt 40, 3) := by decide +kernel
theorem dX11_inLanguage_20 : decode cX11_inLanguage 20 = .ok (.aload_n 3, 1) := by decide +kernel
theorem dX11_inLanguage_21 : decode cX11_inLanguage 21 = .ok (.getfield 220, 3) := by decide +kernel
theorem dX11_inLanguage_24 : decode cX11_inLanguage 24 = .ok (.iload 4, 2) := by decide +kernel
theorem dX11_inLanguage_26 : decode cX11_inLanguage 26 = .ok (.iaload, 1) := by decide +kernel
theorem dX11_inLanguage_27 : decode cX11_inLanguage 27 = .ok (.istore 5, 2) := by decide +kernel
theorem dX11_inLanguage_29 : decode cX11_inLanguage 29 = .ok (.iload 5, 2) := by decide +kernel
theorem dX11_inLanguage_31 : decode cX11_inLanguage 31 = .ok (.iconst (-1), 1) := by decide +kernel
theorem dX11_inLanguage_32 : decode cX11_inLanguage 32 = .ok (.if_icmp .eq 19, 3) := by decide +kernel
theorem dX11_inLanguage_35 : decode cX11_inLanguage 35 = .ok (.aload_n 0, 1) := by decide +kernel
theorem dX11_inLanguage_36 : decode cX11_inLanguage 36 = .ok (.getfield 20, 3) := by decide +kernel
theorem dX11_inLanguage_39 : decode cX11_inLanguage 39 = .ok (.iload 5, 2) := by decide +kernel
theorem dX11_inLanguage_41 : decode cX11_inLanguage 41 = .ok (.aaload, 1) := by decide +kernel
theorem dX11_inLanguage_42 : decode cX11_inLanguage 42 = .ok (.getfield 102, 3) := by decide +kernel
theorem dX11_inLanguage_45 : decode cX11_inLanguage 45 = .ok (.ifnull 6, 3) := by decide +kernel
theorem dX11_inLanguage_48 : decode cX11_inLanguage 48 = .ok (.iload 5, 2) := by decide +kernel
theorem dX11_inLanguage_50 : decode cX11_inLanguage 50 = .ok (.ireturn, 1) := by decide +kernel
theorem dX11_inLanguage_51 : decode cX11_inLanguage 51 = .ok (.iinc 4 (-1), 3) := by decide +kernel
theorem dX11_inLanguage_54 : decode cX11_inLanguage 54 = .ok (.goto (-40), 3) := by decide +kernel
theorem dX11_inLanguage_57 : decode cX11_inLanguage 57 = .ok (.iload_n 1, 1) := by decide +kernel
theorem dX11_inLanguage_58 : decode cX11_inLanguage 58 = .ok (.ireturn, 1) := by decide +kernel
theorem dX11_isOutdated_0 : decode cX11_isOutdated 0 = .ok (.aload_n 0, 1) := by decide +kernel
theorem dX11_isOutdated_1 : decode cX11_isOutdated 1 = .ok (.iload_n 1, 1) := by decide +kernel
theorem dX11_isOutdated_2 : decode cX11_isOutdated 2 = .ok (.invokevirtual 85, 3) := by decide +kernel
theorem dX11_isOutdated_5 : decode cX11_isOutdated 5 = .ok (.astore_n 3, 1) := by decide +kernel
theorem dX11_isOutdated_6 : decode cX11_isOutdated 6 = .ok (.aload_n 0, 1) := by decide +kernel
theorem dX11_isOutdated_7 : decode cX11_isOutdated 7 = .ok (.iload_n 2, 1) := by decide +kernel
theorem dX11_isOutdated_8 : decode cX11_isOutdated 8 = .ok (.invokevirtual 338, 3) := by decide +kernel
theorem dX11_isOutdated_11 : decode cX11_isOutdated 11 = .ok (.aload_n 3, 1) := by decide +kernel
theorem dX11_isOutdated_12 : decode cX11_isOutdated 12 = .ok (.getfield 220, 3) := by decide +kernel
theorem dX11_isOutdated_15 : decode cX11_isOutdated 15 = .ok (.iload_n 2, 1) := by decide +kernel
theorem dX11_isOutdated_16 : decode cX11_isOutdated 16 = .ok (.iaload, 1) := by decide +kernel
theorem dX11_isOutdated_17 : decode cX11_isOutdated 17 = .ok (.iconst (-1), 1) := by decide +kernel
theorem dX11_isOutdated_18 : decode cX11_isOutdated 18 = .ok (.if_icmp .ne 5, 3) := by decide +kernel
theorem dX11_isOutdated_21 : decode cX11_isOutdated 21 = .ok (.iconst 0, 1) := by decide +kernel
theorem dX11_isOutdated_22 : decode cX11_isOutdated 22 = .ok (.ireturn, 1) := by decide +kernel
theorem dX11_isOutdated_23 : decode cX11_isOutdated 23 = .ok (.aload_n 3, 1) := by decide +kernel
theorem dX11_isOutdated_24 : decode cX11_isOutdated 24 = .ok (.getfield 102, 3) := by decide +kernel
theorem dX11_isOutdated_27 : decode cX11_isOutdated 27 = .ok (.ifnull 22, 3) := by decide +kernel
theorem dX11_isOutdated_30 : decode cX11_isOutdated 30 = .ok (.aload_n 3, 1) := by decide +kernel
theorem dX11_isOutdated_31 : decode cX11_isOutdated 31 = .ok (.getfield 102, 3) := by decide +kernel
theorem dX11_isOutdated_34 : decode cX11_isOutdated 34 = .ok (.getfield 148, 3) := by decide +kernel
theorem dX11_isOutdated_37 : decode cX11_isOutdated 37 = .ok (.getfield 226, 3) := by decide +kernel
theorem dX11_isOutdated_40 : decode cX11_isOutdated 40 = .ok (.aload_n 3, 1) := by decide +kernel
theorem dX11_isOutdated_41 : decode cX11_isOutdated 41 = .ok (.getfield 223, 3) := by decide +kernel
theorem dX11_isOutdated_44 : decode cX11_isOutdated 44 = .ok (.iload_n 2, 1) := by decide +kernel
theorem dX11_isOutdated_45 : decode cX11_isOutdated 45 = .ok (.iaload, 1) := by decide +kernel
theorem dX11_isOutdated_46 : decode cX11_isOutdated 46 = .ok (.if_icmp .eq 7, 3) := by decide +kernel
theorem dX11_isOutdated_49 : decode cX11_isOutdated 49 = .ok (.iconst 1, 1) := by decide +kernel
theorem dX11_isOutdated_50 : decode cX11_isOutdated 50 = .ok (.goto 4, 3) := by decide +kernel
theorem dX11_isOutdated_53 : decode cX11_isOutdated 53 = .ok (.iconst 0, 1) := by decide +kernel
theorem dX11_isOutdated_54 : decode cX11_isOutdated 54 = .ok (.ireturn, 1) := by decide +kernel
theorem dX11_titleOf_0 : decode cX11_titleOf 0 = .ok (.iload_n 1, 1) := by decide +kernel
theorem dX11_titleOf_1 : decode cX11_titleOf 1 = .ok (.ifCond .lt 12, 3) := by decide +kernel
theorem dX11_titleOf_4 : decode cX11_titleOf 4 = .ok (.iload_n 1, 1) := by decide +kernel
theorem dX11_titleOf_5 : decode cX11_titleOf 5 = .ok (.aload_n 0, 1) := by decide +kernel
theorem dX11_titleOf_6 : decode cX11_titleOf 6 = .ok (.getfield 20, 3) := by decide +kernel
theorem dX11_titleOf_9 : decode cX11_titleOf 9 = .ok (.arraylength, 1) := by decide +kernel
theorem dX11_titleOf_10 : decode cX11_titleOf 10 = .ok (.if_icmp .lt 14, 3) := by decide +kernel
theorem dX11_titleOf_13 : decode cX11_titleOf 13 = .ok (.new 139, 3) := by decide +kernel
theorem dX11_titleOf_16 : decode cX11_titleOf 16 = .ok (.dup, 1) := by decide +kernel
theorem dX11_titleOf_17 : decode cX11_titleOf 17 = .ok (.ldc_w 341, 3) := by decide +kernel
theorem dX11_titleOf_20 : decode cX11_titleOf 20 = .ok (.invokespecial 143, 3) := by decide +kernel
theorem dX11_titleOf_23 : decode cX11_titleOf 23 = .ok (.athrow, 1) := by decide +kernel
theorem dX11_titleOf_24 : decode cX11_titleOf 24 = .ok (.aload_n 0, 1) := by decide +kernel
theorem dX11_titleOf_25 : decode cX11_titleOf 25 = .ok (.getfield 20, 3) := by decide +kernel
theorem dX11_titleOf_28 : decode cX11_titleOf 28 = .ok (.iload_n 1, 1) := by decide +kernel
theorem dX11_titleOf_29 : decode cX11_titleOf 29 = .ok (.aaload, 1) := by decide +kernel
theorem dX11_titleOf_30 : decode cX11_titleOf 30 = .ok (.areturn, 1) := by decide +kernel
theorem dX11_pageOf_0 : decode cX11_pageOf 0 = .ok (.aload_n 0, 1) := by decide +kernel
theorem dX11_pageOf_1 : decode cX11_pageOf 1 = .ok (.iload_n 1, 1) := by decide +kernel
theorem dX11_pageOf_2 : decode cX11_pageOf 2 = .ok (.invokevirtual 85, 3) := by decide +kernel
theorem dX11_pageOf_5 : decode cX11_pageOf 5 = .ok (.getfield 102, 3) := by decide +kernel
theorem dX11_pageOf_8 : decode cX11_pageOf 8 = .ok (.astore_n 2, 1) := by decide +kernel
theorem dX11_pageOf_9 : decode cX11_pageOf 9 = .ok (.aload_n 2, 1) := by decide +kernel
theorem dX11_pageOf_10 : decode cX11_pageOf 10 = .ok (.ifnonnull 13, 3) := by decide +kernel
theorem dX11_pageOf_13 : decode cX11_pageOf 13 = .ok (.new 139, 3) := by decide +kernel
theorem dX11_pageOf_16 : decode cX11_pageOf 16 = .ok (.dup, 1) := by decide +kernel
theorem dX11_pageOf_17 : decode cX11_pageOf 17 = .ok (.ldc 178, 2) := by decide +kernel
theorem dX11_pageOf_19 : decode cX11_pageOf 19 = .ok (.invokespecial 143, 3) := by decide +kernel
theorem dX11_pageOf_22 : decode cX11_pageOf 22 = .ok (.athrow, 1) := by decide +kernel
theorem dX11_pageOf_23 : decode cX11_pageOf 23 = .ok (.aload_n 2, 1) := by decide +kernel
theorem dX11_pageOf_24 : decode cX11_pageOf 24 = .ok (.areturn, 1) := by decide +kernel
theorem dX11_refuseBelowZero_0 : decode cX11_refuseBelowZero 0 = .ok (.iload_n 1, 1) := by decide +kernel
theorem dX11_refuseBelowZero_1 : decode cX11_refuseBelowZero 1 = .ok (.ifCond .ge 14, 3) := by decide +kernel
theorem dX11_refuseBelowZero_4 : decode cX11_refuseBelowZero 4 = .ok (.new 139, 3) := by decide +kernel
theorem dX11_refuseBelowZero_7 : decode cX11_refuseBelowZero 7 = .ok (.dup, 1) := by decide +kernel
theorem dX11_refuseBelowZero_8 : decode cX11_refuseBelowZero 8 = .ok (.ldc_w 345, 3) := by decide +kernel
theorem dX11_refuseBelowZero_11 : decode cX11_refuseBelowZero 11 = .ok (.invokespecial 143, 3) := by decide +kernel
theorem dX11_refuseBelowZero_14 : decode cX11_refuseBelowZero 14 = .ok (.athrow, 1) := by decide +kernel
theorem dX11_refuseBelowZero_15 : decode cX11_refuseBelowZero 15 = .ok (.return_, 1) := by decide +kernel
theorem dX11_refuseOtherLanguages_0 : decode cX11_refuseOtherLanguages 0 = .ok (.iload_n 1, 1) := by decide +kernel
theorem dX11_refuseOtherLanguages_1 : decode cX11_refuseOtherLanguages 1 = .ok (.iconst 1, 1) := by decide +kernel
theorem dX11_refuseOtherLanguages_2 : decode cX11_refuseOtherLanguages 2 = .ok (.if_icmp .lt 8, 3) := by decide +kernel
theorem dX11_refuseOtherLanguages_5 : decode cX11_refuseOtherLanguages 5 = .ok (.iload_n 1, 1) := by decide +kernel
theorem dX11_refuseOtherLanguages_6 : decode cX11_refuseOtherLanguages 6 = .ok (.iconst 2, 1) := by decide +kernel
theorem dX11_refuseOtherLanguages_7 : decode cX11_refuseOtherLanguages 7 = .ok (.if_icmp .le 14, 3) := by decide +kernel
theorem dX11_refuseOtherLanguages_10 : decode cX11_refuseOtherLanguages 10 = .ok (.new 62, 3) := by decide +kernel
theorem dX11_refuseOtherLanguages_13 : decode cX11_refuseOtherLanguages 13 = .ok (.dup, 1) := by decide +kernel
theorem dX11_refuseOtherLanguages_14 : decode cX11_refuseOtherLanguages 14 = .ok (.ldc_w 347, 3) := by decide +kernel
theorem dX11_refuseOtherLanguages_17 : decode cX11_refuseOtherLanguages 17 = .ok (.invokespecial 66, 3) := by decide +kernel
theorem dX11_refuseOtherLanguages_20 : decode cX11_refuseOtherLanguages 20 = .ok (.athrow, 1) := by decide +kernel
theorem dX11_refuseOtherLanguages_21 : decode cX11_refuseOtherLanguages 21 = .ok (.return_, 1) := by decide +kernel
theorem dX11_isAmong_0 : decode cX11_isAmong 0 = .ok (.iload_n 2, 1) := by decide +kernel
theorem dX11_isAmong_1 : decode cX11_isAmong 1 = .ok (.ifCond .lt 24, 3) := by decide +kernel
theorem dX11_isAmong_4 : decode cX11_isAmong 4 = .ok (.iload_n 2, 1) := by decide +kernel
theorem dX11_isAmong_5 : decode cX11_isAmong 5 = .ok (.aload_n 1, 1) := by decide +kernel
theorem dX11_isAmong_6 : decode cX11_isAmong 6 = .ok (.arraylength, 1) := by decide +kernel
theorem dX11_isAmong_7 : decode cX11_isAmong 7 = .ok (.if_icmp .ge 18, 3) := by decide +kernel
theorem dX11_isAmong_10 : decode cX11_isAmong 10 = .ok (.iload_n 3, 1) := by decide +kernel
theorem dX11_isAmong_11 : decode cX11_isAmong 11 = .ok (.ifCond .lt 14, 3) := by decide +kernel
theorem dX11_isAmong_14 : decode cX11_isAmong 14 = .ok (.iload_n 3, 1) := by decide +kernel
theorem dX11_isAmong_15 : decode cX11_isAmong 15 = .ok (.aload_n 1, 1) := by decide +kernel
theorem dX11_isAmong_16 : decode cX11_isAmong 16 = .ok (.iload_n 2, 1) := by decide +kernel
theorem dX11_isAmong_17 : decode cX11_isAmong 17 = .ok (.iaload, 1) := by decide +kernel
theorem dX11_isAmong_18 : decode cX11_isAmong 18 = .ok (.if_icmp .gt 7, 3) := by decide +kernel
theorem dX11_isAmong_21 : decode cX11_isAmong 21 = .ok (.iconst 1, 1) := by decide +kernel
theorem dX11_isAmong_22 : decode cX11_isAmong 22 = .ok (.goto 4, 3) := by decide +kernel
theorem dX11_isAmong_25 : decode cX11_isAmong 25 = .ok (.iconst 0, 1) := by decide +kernel
theorem dX11_isAmong_26 : decode cX11_isAmong 26 = .ok (.ireturn, 1) := by decide +kernel
theorem dX11_mayActAt_0 : decode cX11_mayActAt 0 = .ok (.aload_n 0, 1) := by decide +kernel
theorem dX11_mayActAt_1 : decode cX11_mayActAt 1 = .ok (.getfield 51, 3) := by decide +kernel
theorem dX11_mayActAt_4 : decode cX11_mayActAt 4 = .ok (.aload_n 1, 1) := by decide +kernel
theorem dX11_mayActAt_5 : decode cX11_mayActAt 5 = .ok (.getfield 97, 3) := by decide +kernel
theorem dX11_mayActAt_8 : decode cX11_mayActAt 8 = .ok (.if_icmp .lt 7, 3) := by decide +kernel
theorem dX11_mayActAt_11 : decode cX11_mayActAt 11 = .ok (.iconst 1, 1) := by decide +kernel
theorem dX11_mayActAt_12 : decode cX11_mayActAt 12 = .ok (.goto 4, 3) := by decide +kernel
theorem dX11_mayActAt_15 : decode cX11_mayActAt 15 = .ok (.iconst 0, 1) := by decide +kernel
theorem dX11_mayActAt_16 : decode cX11_mayActAt 16 = .ok (.ireturn, 1) := by decide +kernel
theorem dX11_mayActInTree_0 : decode cX11_mayActInTree 0 = .ok (.iconst 0, 1) := by decide +kernel
theorem dX11_mayActInTree_1 : decode cX11_mayActInTree 1 = .ok (.istore_n 2, 1) := by decide +kernel
theorem dX11_mayActInTree_2 : decode cX11_mayActInTree 2 = .ok (.iload_n 2, 1) := by decide +kernel
theorem dX11_mayActInTree_3 : decode cX11_mayActInTree 3 = .ok (.aload_n 0, 1) := by decide +kernel
theorem dX11_mayActInTree_4 : decode cX11_mayActInTree 4 = .ok (.getfield 20, 3) := by decide +kernel
theorem dX11_mayActInTree_7 : decode cX11_mayActInTree 7 = .ok (.arraylength, 1) := by decide +kernel
theorem dX11_mayActInTree_8 : decode cX11_mayActInTree 8 = .ok (.if_icmp .ge 31, 3) := by decide +kernel
theorem dX11_mayActInTree_11 : decode cX11_mayActInTree 11 = .ok (.iload_n 2, 1) := by decide +kernel
theorem dX11_mayActInTree_12 : decode cX11_mayActInTree 12 = .ok (.iconst 4, 1) := by decide +kernel
theorem dX11_mayActInTree_13 : decode cX11_mayActInTree 13 = .ok (.idiv, 1) := by decide +kernel
theorem dX11_mayActInTree_14 : decode cX11_mayActInTree 14 = .ok (.iload_n 1, 1) := by decide +kernel
theorem dX11_mayActInTree_15 : decode cX11_mayActInTree 15 = .ok (.if_icmp .ne 18, 3) := by decide +kernel
theorem dX11_mayActInTree_18 : decode cX11_mayActInTree 18 = .ok (.aload_n 0, 1) := by decide +kernel
theorem dX11_mayActInTree_19 : decode cX11_mayActInTree 19 = .ok (.aload_n 0, 1) := by decide +kernel
theorem dX11_mayActInTree_20 : decode cX11_mayActInTree 20 = .ok (.getfield 20, 3) := by decide +kernel
theorem dX11_mayActInTree_23 : decode cX11_mayActInTree 23 = .ok (.iload_n 2, 1) := by decide +kernel
theorem dX11_mayActInTree_24 : decode cX11_mayActInTree 24 = .ok (.aaload, 1) := by decide +kernel
theorem dX11_mayActInTree_25 : decode cX11_mayActInTree 25 = .ok (.invokevirtual 91, 3) := by decide +kernel
theorem dX11_mayActInTree_28 : decode cX11_mayActInTree 28 = .ok (.ifCond .ne 5, 3) := by decide +kernel
theorem dX11_mayActInTree_31 : decode cX11_mayActInTree 31 = .ok (.iconst 0, 1) := by decide +kernel
theorem dX11_mayActInTree_32 : decode cX11_mayActInTree 32 = .ok (.ireturn, 1) := by decide +kernel
theorem dX11_mayActInTree_33 : decode cX11_mayActInTree 33 = .ok (.iinc 2 1, 3) := by decide +kernel
theorem dX11_mayActInTree_36 : decode cX11_mayActInTree 36 = .ok (.goto (-34), 3) := by decide +kernel
theorem dX11_mayActInTree_39 : decode cX11_mayActInTree 39 = .ok (.iconst 1, 1) := by decide +kernel
theorem dX11_mayActInTree_40 : decode cX11_mayActInTree 40 = .ok (.ireturn, 1) := by decide +kernel
theorem dX11_mean_0 : decode cX11_mean 0 = .ok (.aload_n 0, 1) := by decide +kernel
theorem dX11_mean_1 : decode cX11_mean 1 = .ok (.getfield 35, 3) := by decide +kernel
theorem dX11_mean_4 : decode cX11_mean 4 = .ok (.invokevirtual 80, 3) := by decide +kernel
theorem dX11_mean_7 : decode cX11_mean 7 = .ok (.iload_n 2, 1) := by decide +kernel
theorem dX11_mean_8 : decode cX11_mean 8 = .ok (.iconst (-1), 1) := by decide +kernel
theorem dX11_mean_9 : decode cX11_mean 9 = .ok (.if_icmp .ne 23, 3) := by decide +kernel
theorem dX11_mean_12 : decode cX11_mean 12 = .ok (.aload_n 0, 1) := by decide +kernel
theorem dX11_mean_13 : decode cX11_mean 13 = .ok (.getfield 35, 3) := by decide +kernel
theorem dX11_mean_16 : decode cX11_mean 16 = .ok (.aload_n 0, 1) := by decide +kernel
theorem dX11_mean_17 : decode cX11_mean 17 = .ok (.getfield 31, 3) := by decide +kernel
theorem dX11_mean_20 : decode cX11_mean 20 = .ok (.iconst 0, 1) := by decide +kernel
theorem dX11_mean_21 : decode cX11_mean 21 = .ok (.aload_n 0, 1) := by decide +kernel
theorem dX11_mean_22 : decode cX11_mean 22 = .ok (.getfield 31, 3) := by decide +kernel
theorem dX11_mean_25 : decode cX11_mean 25 = .ok (.getfield 69, 3) := by decide +kernel
theorem dX11_mean_28 : decode cX11_mean 28 = .ok (.invokevirtual 349, 3) := by decide +kernel
theorem dX11_mean_31 : decode cX11_mean 31 = .ok (.return_, 1) := by decide +kernel
theorem dX11_mean_32 : decode cX11_mean 32 = .ok (.aload_n 1, 1) := by decide +kernel
theorem dX11_mean_33 : decode cX11_mean 33 = .ok (.iload_n 2, 1) := by decide +kernel
theorem dX11_mean_34 : decode cX11_mean 34 = .ok (.invokevirtual 353, 3) := by decide +kernel
theorem dX11_mean_37 : decode cX11_mean 37 = .ok (.istore_n 3, 1) := by decide +kernel
theorem dX11_mean_38 : decode cX11_mean 38 = .ok (.aload_n 1, 1) := by decide +kernel
theorem dX11_mean_39 : decode cX11_mean 39 = .ok (.iload_n 2, 1) := by decide +kernel
theorem dX11_mean_40 : decode cX11_mean 40 = .ok (.iconst 1, 1) := by decide +kernel
theorem dX11_mean_41 : decode cX11_mean 41 = .ok (.iadd, 1) := by decide +kernel
theorem dX11_mean_42 : decode cX11_mean 42 = .ok (.invokevirtual 353, 3) := by decide +kernel
theorem dX11_mean_45 : decode cX11_mean 45 = .ok (.istore 4, 2) := by decide +kernel
theorem dX11_mean_47 : decode cX11_mean 47 = .ok (.aload_n 0, 1) := by decide +kernel
theorem dX11_mean_48 : decode cX11_mean 48 = .ok (.getfield 35, 3) := by decide +kernel
theorem dX11_mean_51 : decode cX11_mean 51 = .ok (.aload_n 1, 1) := by decide +kernel
theorem dX11_mean_52 : decode cX11_mean 52 = .ok (.iconst 0, 1) := by decide +kernel
theorem dX11_mean_53 : decode cX11_mean 53 = .ok (.iload_n 3, 1) := by decide +kernel
theorem dX11_mean_54 : decode cX11_mean 54 = .ok (.invokevirtual 349, 3) := by decide +kernel
theorem dX11_mean_57 : decode cX11_mean 57 = .ok (.aload_n 0, 1) := by decide +kernel
theorem dX11_mean_58 : decode cX11_mean 58 = .ok (.getfield 35, 3) := by decide +kernel
theorem dX11_mean_61 : decode cX11_mean 61 = .ok (.aload_n 0, 1) := by decide +kernel
theorem dX11_mean_62 : decode cX11_mean 62 = .ok (.getfield 31, 3) := by decide +kernel
theorem dX11_mean_65 : decode cX11_mean 65 = .ok (.iconst 0, 1) := by decide +kernel
theorem dX11_mean_66 : decode cX11_mean 66 = .ok (.aload_n 0, 1) := by decide +kernel
theorem dX11_mean_67 : decode cX11_mean 67 = .ok (.getfield 31, 3) := by decide +kernel
theorem dX11_mean_70 : decode cX11_mean 70 = .ok (.getfield 69, 3) := by decide +kernel
theorem dX11_mean_73 : decode cX11_mean 73 = .ok (.invokevirtual 349, 3) := by decide +kernel
theorem dX11_mean_76 : decode cX11_mean 76 = .ok (.aload_n 0, 1) := by decide +kernel
theorem dX11_mean_77 : decode cX11_mean 77 = .ok (.getfield 35, 3) := by decide +kernel
theorem dX11_mean_80 : decode cX11_mean 80 = .ok (.aload_n 1, 1) := by decide +kernel
theorem dX11_mean_81 : decode cX11_mean 81 = .ok (.iload 4, 2) := by decide +kernel
theorem dX11_mean_83 : decode cX11_mean 83 = .ok (.aload_n 1, 1) := by decide +kernel
theorem dX11_mean_84 : decode cX11_mean 84 = .ok (.getfield 69, 3) := by decide +kernel
theorem dX11_mean_87 : decode cX11_mean 87 = .ok (.invokevirtual 349, 3) := by decide +kernel
theorem dX11_mean_90 : decode cX11_mean 90 = .ok (.return_, 1) := by decide +kernel
theorem dX11_merge_0 : decode cX11_merge 0 = .ok (.aload_n 1, 1) := by decide +kernel
theorem dX11_merge_1 : decode cX11_merge 1 = .ok (.invokevirtual 135, 3) := by decide +kernel
theorem dX11_merge_4 : decode cX11_merge 4 = .ok (.istore 5, 2) := by decide +kernel
theorem dX11_merge_6 : decode cX11_merge 6 = .ok (.aload_n 2, 1) := by decide +kernel
theorem dX11_merge_7 : decode cX11_merge 7 = .ok (.invokevirtual 135, 3) := by decide +kernel
theorem dX11_merge_10 : decode cX11_merge 10 = .ok (.iload 5, 2) := by decide +kernel
theorem dX11_merge_12 : decode cX11_merge 12 = .ok (.if_icmp .ne 12, 3) := by decide +kernel
theorem dX11_merge_15 : decode cX11_merge 15 = .ok (.aload_n 3, 1) := by decide +kernel
theorem dX11_merge_16 : decode cX11_merge 16 = .ok (.invokevirtual 135, 3) := by decide +kernel
theorem dX11_merge_19 : decode cX11_merge 19 = .ok (.iload 5, 2) := by decide +kernel
theorem dX11_merge_21 : decode cX11_merge 21 = .ok (.if_icmp .eq 5, 3) := by decide +kernel
theorem dX11_merge_24 : decode cX11_merge 24 = .ok (.iconst 0, 1) := by decide +kernel
theorem dX11_merge_25 : decode cX11_merge 25 = .ok (.ireturn, 1) := by decide +kernel
theorem dX11_merge_26 : decode cX11_merge 26 = .ok (.aload_n 0, 1) := by decide +kernel
theorem dX11_merge_27 : decode cX11_merge 27 = .ok (.getfield 38, 3) := by decide +kernel
theorem dX11_merge_30 : decode cX11_merge 30 = .ok (.invokevirtual 80, 3) := by decide +kernel
theorem dX11_merge_33 : decode cX11_merge 33 = .ok (.iconst 0, 1) := by decide +kernel
theorem dX11_merge_34 : decode cX11_merge 34 = .ok (.istore 6, 2) := by decide +kernel
theorem dX11_merge_36 : decode cX11_merge 36 = .ok (.iload 6, 2) := by decide +kernel
theorem dX11_merge_38 : decode cX11_merge 38 = .ok (.iload 5, 2) := by decide +kernel
theorem dX11_merge_40 : decode cX11_merge 40 = .ok (.if_icmp .ge 72, 3) := by decide +kernel
theorem dX11_merge_43 : decode cX11_merge 43 = .ok (.aload_n 2, 1) := by decide +kernel
theorem dX11_merge_44 : decode cX11_merge 44 = .ok (.aload_n 1, 1) := by decide +kernel
theorem dX11_merge_45 : decode cX11_merge 45 = .ok (.iload 6, 2) := by decide +kernel
theorem dX11_merge_47 : decode cX11_merge 47 = .ok (.invokevirtual 356, 3) := by decide +kernel
theorem dX11_merge_50 : decode cX11_merge 50 = .ok (.ifCond .eq 16, 3) := by decide +kernel
theorem dX11_merge_53 : decode cX11_merge 53 = .ok (.aload_n 0, 1) := by decide +kernel
theorem dX11_merge_54 : decode cX11_merge 54 = .ok (.getfield 38, 3) := by decide +kernel
theorem dX11_merge_57 : decode cX11_merge 57 = .ok (.aload_n 3, 1) := by decide +kernel
theorem dX11_merge_58 : decode cX11_merge 58 = .ok (.iload 6, 2) := by decide +kernel
theorem dX11_merge_60 : decode cX11_merge 60 = .ok (.invokevirtual 360, 3) := by decide +kernel
theorem dX11_merge_63 : decode cX11_merge 63 = .ok (.goto 43, 3) := by decide +kernel
theorem dX11_merge_66 : decode cX11_merge 66 = .ok (.aload_n 3, 1) := by decide +kernel
theorem dX11_merge_67 : decode cX11_merge 67 = .ok (.aload_n 1, 1) := by decide +kernel
theorem dX11_merge_68 : decode cX11_merge 68 = .ok (.iload 6, 2) := by decide +kernel
theorem dX11_merge_70 : decode cX11_merge 70 = .ok (.invokevirtual 356, 3) := by decide +kernel
theorem dX11_merge_73 : decode cX11_merge 73 = .ok (.ifCond .ne 18, 3) := by decide +kernel
theorem dX11_merge_76 : decode cX11_merge 76 = .ok (.iload 4, 2) := by decide +kernel
theorem dX11_merge_78 : decode cX11_merge 78 = .ok (.ifCond .eq 26, 3) := by decide +kernel
theorem dX11_merge_81 : decode cX11_merge 81 = .ok (.aload_n 3, 1) := by decide +kernel
theorem dX11_merge_82 : decode cX11_merge 82 = .ok (.aload_n 2, 1) := by decide +kernel
theorem dX11_merge_83 : decode cX11_merge 83 = .ok (.iload 6, 2) := by decide +kernel
theorem dX11_merge_85 : decode cX11_merge 85 = .ok (.invokevirtual 356, 3) := by decide +kernel
theorem dX11_merge_88 : decode cX11_merge 88 = .ok (.ifCond .eq 16, 3) := by decide +kernel
theorem dX11_merge_91 : decode cX11_merge 91 = .ok (.aload_n 0, 1) := by decide +kernel
theorem dX11_merge_92 : decode cX11_merge 92 = .ok (.getfield 38, 3) := by decide +kernel
theorem dX11_merge_95 : decode cX11_merge 95 = .ok (.aload_n 2, 1) := by decide +kernel
theorem dX11_merge_96 : decode cX11_merge 96 = .ok (.iload 6, 2) := by decide +kernel
theorem dX11_merge_98 : decode cX11_merge 98 = .ok (.invokevirtual 360, 3) := by decide +kernel
theorem dX11_merge_101 : decode cX11_merge 101 = .ok (.goto 5, 3) := by decide +kernel
theorem dX11_merge_104 : decode cX11_merge 104 = .ok (.iconst 0, 1) := by decide +kernel
theorem dX11_merge_105 : decode cX11_merge 105 = .ok (.ireturn, 1) := by decide +kernel
theorem dX11_merge_106 : decode cX11_merge 106 = .ok (.iinc 6 1, 3) := by decide +kernel
theorem dX11_merge_109 : decode cX11_merge 109 = .ok (.goto (-73), 3) := by decide +kernel
theorem dX11_merge_112 : decode cX11_merge 112 = .ok (.iconst 1, 1) := by decide +kernel
theorem dX11_merge_113 : decode cX11_merge 113 = .ok (.ireturn, 1) := by decide +kernel
theorem dX11_makeVersion_0 : decode cX11_makeVersion 0 = .ok (.new 131, 3) := by decide +kernel
theorem dX11_makeVersion_3 : decode cX11_makeVersion 3 = .ok (.dup, 1) := by decide +kernel
theorem dX11_makeVersion_4 : decode cX11_makeVersion 4 = .ok (.aload_n 0, 1) := by decide +kernel
theorem dX11_makeVersion_5 : decode cX11_makeVersion 5 = .ok (.getfield 45, 3) := by decide +kernel
theorem dX11_makeVersion_8 : decode cX11_makeVersion 8 = .ok (.iload_n 2, 1) := by decide +kernel
theorem dX11_makeVersion_9 : decode cX11_makeVersion 9 = .ok (.aload_n 1, 1) := by decide +kernel
theorem dX11_makeVersion_10 : decode cX11_makeVersion 10 = .ok (.invokevirtual 363, 3) := by decide +kernel
theorem dX11_makeVersion_13 : decode cX11_makeVersion 13 = .ok (.invokespecial 367, 3) := by decide +kernel
theorem dX11_makeVersion_16 : decode cX11_makeVersion 16 = .ok (.astore_n 3, 1) := by decide +kernel
theorem dX11_makeVersion_17 : decode cX11_makeVersion 17 = .ok (.aload_n 0, 1) := by decide +kernel
theorem dX11_makeVersion_18 : decode cX11_makeVersion 18 = .ok (.dup, 1) := by decide +kernel
theorem dX11_makeVersion_19 : decode cX11_makeVersion 19 = .ok (.getfield 45, 3) := by decide +kernel
theorem dX11_makeVersion_22 : decode cX11_makeVersion 22 = .ok (.iconst 1, 1) := by decide +kernel
theorem dX11_makeVersion_23 : decode cX11_makeVersion 23 = .ok (.iadd, 1) := by decide +kernel
theorem dX11_makeVersion_24 : decode cX11_makeVersion 24 = .ok (.putfield 45, 3) := by decide +kernel
theorem dX11_makeVersion_27 : decode cX11_makeVersion 27 = .ok (.aload_n 3, 1) := by decide +kernel
theorem dX11_makeVersion_28 : decode cX11_makeVersion 28 = .ok (.areturn, 1) := by decide +kernel
theorem dX11_makePage_0 : decode cX11_makePage 0 = .ok (.aload_n 0, 1) := by decide +kernel
theorem dX11_makePage_1 : decode cX11_makePage 1 = .ok (.dup, 1) := by decide +kernel
theorem dX11_makePage_2 : decode cX11_makePage 2 = .ok (.getfield 41, 3) := by decide +kernel
theorem dX11_makePage_5 : decode cX11_makePage 5 = .ok (.iconst 1, 1) := by decide +kernel
theorem dX11_makePage_6 : decode cX11_makePage 6 = .ok (.iadd, 1) := by decide +kernel
theorem dX11_makePage_7 : decode cX11_makePage 7 = .ok (.putfield 41, 3) := by decide +kernel
theorem dX11_makePage_10 : decode cX11_makePage 10 = .ok (.aload_n 0, 1) := by decide +kernel
theorem dX11_makePage_11 : decode cX11_makePage 11 = .ok (.aload_n 2, 1) := by decide +kernel
theorem dX11_makePage_12 : decode cX11_makePage 12 = .ok (.aload_n 0, 1) := by decide +kernel
theorem dX11_makePage_13 : decode cX11_makePage 13 = .ok (.getfield 41, 3) := by decide +kernel
theorem dX11_makePage_16 : decode cX11_makePage 16 = .ok (.invokevirtual 369, 3) := by decide +kernel
theorem dX11_makePage_19 : decode cX11_makePage 19 = .ok (.astore_n 3, 1) := by decide +kernel
theorem dX11_makePage_20 : decode cX11_makePage 20 = .ok (.aload_n 0, 1) := by decide +kernel
theorem dX11_makePage_21 : decode cX11_makePage 21 = .ok (.getfield 20, 3) := by decide +kernel
theorem dX11_makePage_24 : decode cX11_makePage 24 = .ok (.iload_n 1, 1) := by decide +kernel
theorem dX11_makePage_25 : decode cX11_makePage 25 = .ok (.aaload, 1) := by decide +kernel
theorem dX11_makePage_26 : decode cX11_makePage 26 = .ok (.new 121, 3) := by decide +kernel
theorem dX11_makePage_29 : decode cX11_makePage 29 = .ok (.dup, 1) := by decide +kernel
theorem dX11_makePage_30 : decode cX11_makePage 30 = .ok (.aload_n 3, 1) := by decide +kernel
theorem dX11_makePage_31 : decode cX11_makePage 31 = .ok (.invokespecial 373, 3) := by decide +kernel
theorem dX11_makePage_34 : decode cX11_makePage 34 = .ok (.putfield 102, 3) := by decide +kernel
theorem dX11_makePage_37 : decode cX11_makePage 37 = .ok (.aload_n 0, 1) := by decide +kernel
theorem dX11_makePage_38 : decode cX11_makePage 38 = .ok (.iload_n 1, 1) := by decide +kernel
theorem dX11_makePage_39 : decode cX11_makePage 39 = .ok (.invokevirtual 376, 3) := by decide +kernel
theorem dX11_makePage_42 : decode cX11_makePage 42 = .ok (.aload_n 3, 1) := by decide +kernel
theorem dX11_makePage_43 : decode cX11_makePage 43 = .ok (.getfield 226, 3) := by decide +kernel
theorem dX11_makePage_46 : decode cX11_makePage 46 = .ok (.ireturn, 1) := by decide +kernel
theorem dX11_addNextVersion_0 : decode cX11_addNextVersion 0 = .ok (.aload_n 0, 1) := by decide +kernel
theorem dX11_addNextVersion_1 : decode cX11_addNextVersion 1 = .ok (.dup, 1) := by decide +kernel
theorem dX11_addNextVersion_2 : decode cX11_addNextVersion 2 = .ok (.getfield 41, 3) := by decide +kernel
theorem dX11_addNextVersion_5 : decode cX11_addNextVersion 5 = .ok (.iconst 1, 1) := by decide +kernel
theorem dX11_addNextVersion_6 : decode cX11_addNextVersion 6 = .ok (.iadd, 1) := by decide +kernel
theorem dX11_addNextVersion_7 : decode cX11_addNextVersion 7 = .ok (.putfield 41, 3) := by decide +kernel
theorem dX11_addNextVersion_10 : decode cX11_addNextVersion 10 = .ok (.aload_n 0, 1) := by decide +kernel
theorem dX11_addNextVersion_11 : decode cX11_addNextVersion 11 = .ok (.iload_n 1, 1) := by decide +kernel
theorem dX11_addNextVersion_12 : decode cX11_addNextVersion 12 = .ok (.aload_n 2, 1) := by decide +kernel
theorem dX11_addNextVersion_13 : decode cX11_addNextVersion 13 = .ok (.aload_n 3, 1) := by decide +kernel
theorem dX11_addNextVersion_14 : decode cX11_addNextVersion 14 = .ok (.aload_n 0, 1) := by decide +kernel
theorem dX11_addNextVersion_15 : decode cX11_addNextVersion 15 = .ok (.getfield 41, 3) := by decide +kernel
theorem dX11_addNextVersion_18 : decode cX11_addNextVersion 18 = .ok (.invokevirtual 174, 3) := by decide +kernel
theorem dX11_addNextVersion_21 : decode cX11_addNextVersion 21 = .ok (.ireturn, 1) := by decide +kernel
theorem dX11_addVersion_0 : decode cX11_addVersion 0 = .ok (.aload_n 0, 1) := by decide +kernel
theorem dX11_addVersion_1 : decode cX11_addVersion 1 = .ok (.aload_n 3, 1) := by decide +kernel
theorem dX11_addVersion_2 : decode cX11_addVersion 2 = .ok (.iload 4, 2) := by decide +kernel
theorem dX11_addVersion_4 : decode cX11_addVersion 4 = .ok (.invokevirtual 369, 3) := by decide +kernel
theorem dX11_addVersion_7 : decode cX11_addVersion 7 = .ok (.astore 5, 2) := by decide +kernel
theorem dX11_addVersion_9 : decode cX11_addVersion 9 = .ok (.aload_n 2, 1) := by decide +kernel
theorem dX11_addVersion_10 : decode cX11_addVersion 10 = .ok (.aload 5, 2) := by decide +kernel
theorem dX11_addVersion_12 : decode cX11_addVersion 12 = .ok (.invokevirtual 379, 3) := by decide +kernel
theorem dX11_addVersion_15 : decode cX11_addVersion 15 = .ok (.aload_n 2, 1) := by decide +kernel
theorem dX11_addVersion_16 : decode cX11_addVersion 16 = .ok (.getfield 148, 3) := by decide +kernel
theorem dX11_addVersion_19 : decode cX11_addVersion 19 = .ok (.aload 5, 2) := by decide +kernel
theorem dX11_addVersion_21 : decode cX11_addVersion 21 = .ok (.if_acmp .ne 8, 3) := by decide +kernel
theorem dX11_addVersion_24 : decode cX11_addVersion 24 = .ok (.aload_n 0, 1) := by decide +kernel
theorem dX11_addVersion_25 : decode cX11_addVersion 25 = .ok (.iload_n 1, 1) := by decide +kernel
theorem dX11_addVersion_26 : decode cX11_addVersion 26 = .ok (.invokevirtual 376, 3) := by decide +kernel
theorem dX11_addVersion_29 : decode cX11_addVersion 29 = .ok (.aload 5, 2) := by decide +kernel
theorem dX11_addVersion_31 : decode cX11_addVersion 31 = .ok (.getfield 226, 3) := by decide +kernel
theorem dX11_addVersion_34 : decode cX11_addVersion 34 = .ok (.ireturn, 1) := by decide +kernel
theorem dX11_bringOver_0 : decode cX11_bringOver 0 = .ok (.aload_n 0, 1) := by decide +kernel
theorem dX11_bringOver_1 : decode cX11_bringOver 1 = .ok (.iload_n 1, 1) := by decide +kernel
theorem dX11_bringOver_2 : decode cX11_bringOver 2 = .ok (.invokevirtual 85, 3) := by decide +kernel
theorem dX11_bringOver_5 : decode cX11_bringOver 5 = .ok (.astore_n 3, 1) := by decide +kernel
theorem dX11_bringOver_6 : decode cX11_bringOver 6 = .ok (.aload_n 0, 1) := by decide +kernel
theorem dX11_bringOver_7 : decode cX11_bringOver 7 = .ok (.iload_n 2, 1) := by decide +kernel
theorem dX11_bringOver_8 : decode cX11_bringOver 8 = .ok (.invokevirtual 85, 3) := by decide +kernel
theorem dX11_bringOver_11 : decode cX11_bringOver 11 = .ok (.astore 4, 2) := by decide +kernel
theorem dX11_bringOver_13 : decode cX11_bringOver 13 = .ok (.aload 4, 2) := by decide +kernel
theorem dX11_bringOver_15 : decode cX11_bringOver 15 = .ok (.aload_n 3, 1) := by decide +kernel
theorem dX11_bringOver_16 : decode cX11_bringOver 16 = .ok (.getfield 102, 3) := by decide +kernel
theorem dX11_bringOver_19 : decode cX11_bringOver 19 = .ok (.putfield 102, 3) := by decide +kernel
theorem dX11_bringOver_22 : decode cX11_bringOver 22 = .ok (.aload_n 3, 1) := by decide +kernel
theorem dX11_bringOver_23 : decode cX11_bringOver 23 = .ok (.aconst_null, 1) := by decide +kernel
theorem dX11_bringOver_24 : decode cX11_bringOver 24 = .ok (.putfield 102, 3) := by decide +kernel
theorem dX11_bringOver_27 : decode cX11_bringOver 27 = .ok (.aload_n 3, 1) := by decide +kernel
theorem dX11_bringOver_28 : decode cX11_bringOver 28 = .ok (.getfield 260, 3) := by decide +kernel
theorem dX11_bringOver_31 : decode cX11_bringOver 31 = .ok (.getfield 382, 3) := by decide +kernel
theorem dX11_bringOver_34 : decode cX11_bringOver 34 = .ok (.istore 5, 2) := by decide +kernel
theorem dX11_bringOver_36 : decode cX11_bringOver 36 = .ok (.aload_n 3, 1) := by decide +kernel
theorem dX11_bringOver_37 : decode cX11_bringOver 37 = .ok (.getfield 260, 3) := by decide +kernel
theorem dX11_bringOver_40 : decode cX11_bringOver 40 = .ok (.invokevirtual 385, 3) := by decide +kernel
theorem dX11_bringOver_43 : decode cX11_bringOver 43 = .ok (.aload_n 0, 1) := by decide +kernel
theorem dX11_bringOver_44 : decode cX11_bringOver 44 = .ok (.iload 5, 2) := by decide +kernel
theorem dX11_bringOver_46 : decode cX11_bringOver 46 = .ok (.invokevirtual 386, 3) := by decide +kernel
theorem dX11_bringOver_49 : decode cX11_bringOver 49 = .ok (.aload_n 0, 1) := by decide +kernel
theorem dX11_bringOver_50 : decode cX11_bringOver 50 = .ok (.iload_n 1, 1) := by decide +kernel
theorem dX11_bringOver_51 : decode cX11_bringOver 51 = .ok (.invokevirtual 376, 3) := by decide +kernel
theorem dX11_bringOver_54 : decode cX11_bringOver 54 = .ok (.aload_n 0, 1) := by decide +kernel
theorem dX11_bringOver_55 : decode cX11_bringOver 55 = .ok (.iload_n 2, 1) := by decide +kernel
theorem dX11_bringOver_56 : decode cX11_bringOver 56 = .ok (.invokevirtual 376, 3) := by decide +kernel
theorem dX11_bringOver_59 : decode cX11_bringOver 59 = .ok (.return_, 1) := by decide +kernel
theorem dX11_pagesOfTree_0 : decode cX11_pagesOfTree 0 = .ok (.iconst 0, 1) := by decide +kernel
theorem dX11_pagesOfTree_1 : decode cX11_pagesOfTree 1 = .ok (.istore_n 2, 1) := by decide +kernel
theorem dX11_pagesOfTree_2 : decode cX11_pagesOfTree 2 = .ok (.iconst 0, 1) := by decide +kernel
theorem dX11_pagesOfTree_3 : decode cX11_pagesOfTree 3 = .ok (.istore_n 3, 1) := by decide +kernel
theorem dX11_pagesOfTree_4 : decode cX11_pagesOfTree 4 = .ok (.iload_n 3, 1) := by decide +kernel
theorem dX11_pagesOfTree_5 : decode cX11_pagesOfTree 5 = .ok (.aload_n 0, 1) := by decide +kernel
theorem dX11_pagesOfTree_6 : decode cX11_pagesOfTree 6 = .ok (.getfield 20, 3) := by decide +kernel
theorem dX11_pagesOfTree_9 : decode cX11_pagesOfTree 9 = .ok (.arraylength, 1) := by decide +kernel
theorem dX11_pagesOfTree_10 : decode cX11_pagesOfTree 10 = .ok (.if_icmp .ge 34, 3) := by decide +kernel
theorem dX11_pagesOfTree_13 : decode cX11_pagesOfTree 13 = .ok (.iload_n 3, 1) := by decide +kernel
theorem dX11_pagesOfTree_14 : decode cX11_pagesOfTree 14 = .ok (.iconst 4, 1) := by decide +kernel
theorem dX11_pagesOfTree_15 : decode cX11_pagesOfTree 15 = .ok (.idiv, 1) := by decide +kernel
theorem dX11_pagesOfTree_16 : decode cX11_pagesOfTree 16 = .ok (.iload_n 1, 1) := by decide +kernel
theorem dX11_pagesOfTree_17 : decode cX11_pagesOfTree 17 = .ok (.if_icmp .ne 21, 3) := by decide +kernel
theorem dX11_pagesOfTree_20 : decode cX11_pagesOfTree 20 = .ok (.aload_n 0, 1) := by decide +kernel
theorem dX11_pagesOfTree_21 : decode cX11_pagesOfTree 21 = .ok (.getfield 20, 3) := by decide +kernel
theorem dX11_pagesOfTree_24 : decode cX11_pagesOfTree 24 = .ok (.iload_n 3, 1) := by decide +kernel
theorem dX11_pagesOfTree_25 : decode cX11_pagesOfTree 25 = .ok (.aaload, 1) := by decide +kernel
theorem dX11_pagesOfTree_26 : decode cX11_pagesOfTree 26 = .ok (.getfield 102, 3) := by decide +kernel
theorem dX11_pagesOfTree_29 : decode cX11_pagesOfTree 29 = .ok (.ifnull 9, 3) := by decide +kernel
theorem dX11_pagesOfTree_32 : decode cX11_pagesOfTree 32 = .ok (.iload_n 2, 1) := by decide +kernel
theorem dX11_pagesOfTree_33 : decode cX11_pagesOfTree 33 = .ok (.iconst 1, 1) := by decide +kernel
theorem dX11_pagesOfTree_34 : decode cX11_pagesOfTree 34 = .ok (.iload_n 3, 1) := by decide +kernel
theorem dX11_pagesOfTree_35 : decode cX11_pagesOfTree 35 = .ok (.ishl, 1) := by decide +kernel
theorem dX11_pagesOfTree_36 : decode cX11_pagesOfTree 36 = .ok (.ior, 1) := by decide +kernel
theorem dX11_pagesOfTree_37 : decode cX11_pagesOfTree 37 = .ok (.istore_n 2, 1) := by decide +kernel
theorem dX11_pagesOfTree_38 : decode cX11_pagesOfTree 38 = .ok (.iinc 3 1, 3) := by decide +kernel
theorem dX11_pagesOfTree_41 : decode cX11_pagesOfTree 41 = .ok (.goto (-37), 3) := by decide +kernel
theorem dX11_pagesOfTree_44 : decode cX11_pagesOfTree 44 = .ok (.iload_n 2, 1) := by decide +kernel
theorem dX11_pagesOfTree_45 : decode cX11_pagesOfTree 45 = .ok (.ireturn, 1) := by decide +kernel
theorem dX11_pagesLeadingInto_0 : decode cX11_pagesLeadingInto 0 = .ok (.iconst 0, 1) := by decide +kernel
theorem dX11_pagesLeadingInto_1 : decode cX11_pagesLeadingInto 1 = .ok (.istore_n 2, 1) := by decide +kernel
theorem dX11_pagesLeadingInto_2 : decode cX11_pagesLeadingInto 2 = .ok (.iconst 0, 1) := by decide +kernel
theorem dX11_pagesLeadingInto_3 : decode cX11_pagesLeadingInto 3 = .ok (.istore_n 3, 1) := by decide +kernel
theorem dX11_pagesLeadingInto_4 : decode cX11_pagesLeadingInto 4 = .ok (.iload_n 3, 1) := by decide +kernel
theorem dX11_pagesLeadingInto_5 : decode cX11_pagesLeadingInto 5 = .ok (.aload_n 0, 1) := by decide +kernel
theorem dX11_pagesLeadingInto_6 : decode cX11_pagesLeadingInto 6 = .ok (.getfield 20, 3) := by decide +kernel
theorem dX11_pagesLeadingInto_9 : decode cX11_pagesLeadingInto 9 = .ok (.arraylength, 1) := by decide +kernel
theorem dX11_pagesLeadingInto_10 : decode cX11_pagesLeadingInto 10 = .ok (.if_icmp .ge 43, 3) := by decide +kernel
theorem dX11_pagesLeadingInto_13 : decode cX11_pagesLeadingInto 13 = .ok (.aload_n 0, 1) := by decide +kernel
theorem dX11_pagesLeadingInto_14 : decode cX11_pagesLeadingInto 14 = .ok (.getfield 20, 3) := by decide +kernel
theorem dX11_pagesLeadingInto_17 : decode cX11_pagesLeadingInto 17 = .ok (.iload_n 3, 1) := by decide +kernel
theorem dX11_pagesLeadingInto_18 : decode cX11_pagesLeadingInto 18 = .ok (.aaload, 1) := by decide +kernel
theorem dX11_pagesLeadingInto_19 : decode cX11_pagesLeadingInto 19 = .ok (.getfield 102, 3) := by decide +kernel
theorem dX11_pagesLeadingInto_22 : decode cX11_pagesLeadingInto 22 = .ok (.astore 4, 2) := by decide +kernel
theorem dX11_pagesLeadingInto_24 : decode cX11_pagesLeadingInto 24 = .ok (.aload 4, 2) := by decide +kernel
theorem dX11_pagesLeadingInto_26 : decode cX11_pagesLeadingInto 26 = .ok (.ifnull 21, 3) := by decide +kernel
theorem dX11_pagesLeadingInto_29 : decode cX11_pagesLeadingInto 29 = .ok (.aload 4, 2) := by decide +kernel
theorem dX11_pagesLeadingInto_31 : decode cX11_pagesLeadingInto 31 = .ok (.getfield 148, 3) := by decide +kernel
theorem dX11_pagesLeadingInto_34 : decode cX11_pagesLeadingInto 34 = .ok (.getfield 130, 3) := by decide +kernel
theorem dX11_pagesLeadingInto_37 : decode cX11_pagesLeadingInto 37 = .ok (.iload_n 1, 1) := by decide +kernel
theorem dX11_pagesLeadingInto_38 : decode cX11_pagesLeadingInto 38 = .ok (.invokevirtual 202, 3) := by decide +kernel
theorem dX11_pagesLeadingInto_41 : decode cX11_pagesLeadingInto 41 = .ok (.ifCond .eq 6, 3) := by decide +kernel
theorem dX11_pagesLeadingInto_44 : decode cX11_pagesLeadingInto 44 = .ok (.iinc 2 1, 3) := by decide +kernel
theorem dX11_pagesLeadingInto_47 : decode cX11_pagesLeadingInto 47 = .ok (.iinc 3 1, 3) := by decide +kernel
theorem dX11_pagesLeadingInto_50 : decode cX11_pagesLeadingInto 50 = .ok (.goto (-46), 3) := by decide +kernel
theorem dX11_pagesLeadingInto_53 : decode cX11_pagesLeadingInto 53 = .ok (.iload_n 2, 1) := by decide +kernel
theorem dX11_pagesLeadingInto_54 : decode cX11_pagesLeadingInto 54 = .ok (.ireturn, 1) := by decide +kernel
theorem dX11_noteTitleChange_0 : decode cX11_noteTitleChange 0 = .ok (.aload_n 0, 1) := by decide +kernel
theorem dX11_noteTitleChange_1 : decode cX11_noteTitleChange 1 = .ok (.getfield 20, 3) := by decide +kernel
theorem dX11_noteTitleChange_4 : decode cX11_noteTitleChange 4 = .ok (.iload_n 1, 1) := by decide +kernel
theorem dX11_noteTitleChange_5 : decode cX11_noteTitleChange 5 = .ok (.aaload, 1) := by decide +kernel
theorem dX11_noteTitleChange_6 : decode cX11_noteTitleChange 6 = .ok (.getfield 260, 3) := by decide +kernel
theorem dX11_noteTitleChange_9 : decode cX11_noteTitleChange 9 = .ok (.iconst 1, 1) := by decide +kernel
theorem dX11_noteTitleChange_10 : decode cX11_noteTitleChange 10 = .ok (.putfield 270, 3) := by decide +kernel
theorem dX11_noteTitleChange_13 : decode cX11_noteTitleChange 13 = .ok (.iconst 0, 1) := by decide +kernel
theorem dX11_noteTitleChange_14 : decode cX11_noteTitleChange 14 = .ok (.istore_n 2, 1) := by decide +kernel
theorem dX11_noteTitleChange_15 : decode cX11_noteTitleChange 15 = .ok (.iload_n 2, 1) := by decide +kernel
theorem dX11_noteTitleChange_16 : decode cX11_noteTitleChange 16 = .ok (.aload_n 0, 1) := by decide +kernel
theorem dX11_noteTitleChange_17 : decode cX11_noteTitleChange 17 = .ok (.getfield 20, 3) := by decide +kernel
theorem dX11_noteTitleChange_20 : decode cX11_noteTitleChange 20 = .ok (.arraylength, 1) := by decide +kernel
theorem dX11_noteTitleChange_21 : decode cX11_noteTitleChange 21 = .ok (.if_icmp .ge 41, 3) := by decide +kernel
theorem dX11_noteTitleChange_24 : decode cX11_noteTitleChange 24 = .ok (.aload_n 0, 1) := by decide +kernel
theorem dX11_noteTitleChange_25 : decode cX11_noteTitleChange 25 = .ok (.getfield 20, 3) := by decide +kernel
theorem dX11_noteTitleChange_28 : decode cX11_noteTitleChange 28 = .ok (.iload_n 2, 1) := by decide +kernel
theorem dX11_noteTitleChange_29 : decode cX11_noteTitleChange 29 = .ok (.aaload, 1) := by decide +kernel
theorem dX11_noteTitleChange_30 : decode cX11_noteTitleChange 30 = .ok (.getfield 260, 3) := by decide +kernel
theorem dX11_noteTitleChange_33 : decode cX11_noteTitleChange 33 = .ok (.getfield 321, 3) := by decide +kernel
theorem dX11_noteTitleChange_36 : decode cX11_noteTitleChange 36 = .ok (.iload_n 1, 1) := by decide +kernel
theorem dX11_noteTitleChange_37 : decode cX11_noteTitleChange 37 = .ok (.invokestatic 198, 3) := by decide +kernel
theorem dX11_noteTitleChange_40 : decode cX11_noteTitleChange 40 = .ok (.ifCond .eq 16, 3) := by decide +kernel
theorem dX11_noteTitleChange_43 : decode cX11_noteTitleChange 43 = .ok (.aload_n 0, 1) := by decide +kernel
theorem dX11_noteTitleChange_44 : decode cX11_noteTitleChange 44 = .ok (.getfield 20, 3) := by decide +kernel
theorem dX11_noteTitleChange_47 : decode cX11_noteTitleChange 47 = .ok (.iload_n 2, 1) := by decide +kernel
theorem dX11_noteTitleChange_48 : decode cX11_noteTitleChange 48 = .ok (.aaload, 1) := by decide +kernel
theorem dX11_noteTitleChange_49 : decode cX11_noteTitleChange 49 = .ok (.getfield 260, 3) := by decide +kernel
theorem dX11_noteTitleChange_52 : decode cX11_noteTitleChange 52 = .ok (.iconst 1, 1) := by decide +kernel
theorem dX11_noteTitleChange_53 : decode cX11_noteTitleChange 53 = .ok (.putfield 270, 3) := by decide +kernel
theorem dX11_noteTitleChange_56 : decode cX11_noteTitleChange 56 = .ok (.iinc 2 1, 3) := by decide +kernel
theorem dX11_noteTitleChange_59 : decode cX11_noteTitleChange 59 = .ok (.goto (-44), 3) := by decide +kernel
theorem dX11_noteTitleChange_62 : decode cX11_noteTitleChange 62 = .ok (.return_, 1) := by decide +kernel
theorem dX11_noteMemberChange_0 : decode cX11_noteMemberChange 0 = .ok (.iconst 0, 1) := by decide +kernel
theorem dX11_noteMemberChange_1 : decode cX11_noteMemberChange 1 = .ok (.istore_n 2, 1) := by decide +kernel
theorem dX11_noteMemberChange_2 : decode cX11_noteMemberChange 2 = .ok (.iload_n 2, 1) := by decide +kernel
theorem dX11_noteMemberChange_3 : decode cX11_noteMemberChange 3 = .ok (.aload_n 0, 1) := by decide +kernel
theorem dX11_noteMemberChange_4 : decode cX11_noteMemberChange 4 = .ok (.getfield 20, 3) := by decide +kernel
theorem dX11_noteMemberChange_7 : decode cX11_noteMemberChange 7 = .ok (.arraylength, 1) := by decide +kernel
theorem dX11_noteMemberChange_8 : decode cX11_noteMemberChange 8 = .ok (.if_icmp .ge 39, 3) := by decide +kernel
theorem dX11_noteMemberChange_11 : decode cX11_noteMemberChange 11 = .ok (.aload_n 0, 1) := by decide +kernel
theorem dX11_noteMemberChange_12 : decode cX11_noteMemberChange 12 = .ok (.getfield 20, 3) := by decide +kernel
theorem dX11_noteMemberChange_15 : decode cX11_noteMemberChange 15 = .ok (.iload_n 2, 1) := by decide +kernel
theorem dX11_noteMemberChange_16 : decode cX11_noteMemberChange 16 = .ok (.aaload, 1) := by decide +kernel
theorem dX11_noteMemberChange_17 : decode cX11_noteMemberChange 17 = .ok (.getfield 260, 3) := by decide +kernel
theorem dX11_noteMemberChange_20 : decode cX11_noteMemberChange 20 = .ok (.getfield 389, 3) := by decide +kernel
theorem dX11_noteMemberChange_23 : decode cX11_noteMemberChange 23 = .ok (.iload_n 1, 1) := by decide +kernel
theorem dX11_noteMemberChange_24 : decode cX11_noteMemberChange 24 = .ok (.iand, 1) := by decide +kernel
theorem dX11_noteMemberChange_25 : decode cX11_noteMemberChange 25 = .ok (.ifCond .eq 16, 3) := by decide +kernel
theorem dX11_noteMemberChange_28 : decode cX11_noteMemberChange 28 = .ok (.aload_n 0, 1) := by decide +kernel
theorem dX11_noteMemberChange_29 : decode cX11_noteMemberChange 29 = .ok (.getfield 20, 3) := by decide +kernel
theorem dX11_noteMemberChange_32 : decode cX11_noteMemberChange 32 = .ok (.iload_n 2, 1) := by decide +kernel
theorem dX11_noteMemberChange_33 : decode cX11_noteMemberChange 33 = .ok (.aaload, 1) := by decide +kernel
theorem dX11_noteMemberChange_34 : decode cX11_noteMemberChange 34 = .ok (.getfield 260, 3) := by decide +kernel
theorem dX11_noteMemberChange_37 : decode cX11_noteMemberChange 37 = .ok (.iconst 1, 1) := by decide +kernel
theorem dX11_noteMemberChange_38 : decode cX11_noteMemberChange 38 = .ok (.putfield 270, 3) := by decide +kernel
theorem dX11_noteMemberChange_41 : decode cX11_noteMemberChange 41 = .ok (.iinc 2 1, 3) := by decide +kernel
theorem dX11_noteMemberChange_44 : decode cX11_noteMemberChange 44 = .ok (.goto (-42), 3) := by decide +kernel
theorem dX11_noteMemberChange_47 : decode cX11_noteMemberChange 47 = .ok (.return_, 1) := by decide +kernel
theorem dX11_firstInQueue_0 : decode cX11_firstInQueue 0 = .ok (.iconst (-1), 1) := by decide +kernel
theorem dX11_firstInQueue_1 : decode cX11_firstInQueue 1 = .ok (.istore_n 1, 1) := by decide +kernel
theorem dX11_firstInQueue_2 : decode cX11_firstInQueue 2 = .ok (.iconst (-1), 1) := by decide +kernel
theorem dX11_firstInQueue_3 : decode cX11_firstInQueue 3 = .ok (.istore_n 2, 1) := by decide +kernel
theorem dX11_firstInQueue_4 : decode cX11_firstInQueue 4 = .ok (.iconst 0, 1) := by decide +kernel
theorem dX11_firstInQueue_5 : decode cX11_firstInQueue 5 = .ok (.istore_n 3, 1) := by decide +kernel
theorem dX11_firstInQueue_6 : decode cX11_firstInQueue 6 = .ok (.iload_n 3, 1) := by decide +kernel
theorem dX11_firstInQueue_7 : decode cX11_firstInQueue 7 = .ok (.aload_n 0, 1) := by decide +kernel
theorem dX11_firstInQueue_8 : decode cX11_firstInQueue 8 = .ok (.getfield 20, 3) := by decide +kernel
theorem dX11_firstInQueue_11 : decode cX11_firstInQueue 11 = .ok (.arraylength, 1) := by decide +kernel
theorem dX11_firstInQueue_12 : decode cX11_firstInQueue 12 = .ok (.if_icmp .ge 46, 3) := by decide +kernel
theorem dX11_firstInQueue_15 : decode cX11_firstInQueue 15 = .ok (.aload_n 0, 1) := by decide +kernel
theorem dX11_firstInQueue_16 : decode cX11_firstInQueue 16 = .ok (.getfield 20, 3) := by decide +kernel
theorem dX11_firstInQueue_19 : decode cX11_firstInQueue 19 = .ok (.iload_n 3, 1) := by decide +kernel
theorem dX11_firstInQueue_20 : decode cX11_firstInQueue 20 = .ok (.aaload, 1) := by decide +kernel
theorem dX11_firstInQueue_21 : decode cX11_firstInQueue 21 = .ok (.invokevirtual 298, 3) := by decide +kernel
theorem dX11_firstInQueue_24 : decode cX11_firstInQueue 24 = .ok (.ifCond .eq 28, 3) := by decide +kernel
theorem dX11_firstInQueue_27 : decode cX11_firstInQueue 27 = .ok (.aload_n 0, 1) := by decide +kernel
theorem dX11_firstInQueue_28 : decode cX11_firstInQueue 28 = .ok (.getfield 20, 3) := by decide +kernel
theorem dX11_firstInQueue_31 : decode cX11_firstInQueue 31 = .ok (.iload_n 3, 1) := by decide +kernel
theorem dX11_firstInQueue_32 : decode cX11_firstInQueue 32 = .ok (.aaload, 1) := by decide +kernel
theorem dX11_firstInQueue_33 : decode cX11_firstInQueue 33 = .ok (.getfield 248, 3) := by decide +kernel
theorem dX11_firstInQueue_36 : decode cX11_firstInQueue 36 = .ok (.iload_n 2, 1) := by decide +kernel
theorem dX11_firstInQueue_37 : decode cX11_firstInQueue 37 = .ok (.if_icmp .le 15, 3) := by decide +kernel
theorem dX11_firstInQueue_40 : decode cX11_firstInQueue 40 = .ok (.iload_n 3, 1) := by decide +kernel
theorem dX11_firstInQueue_41 : decode cX11_firstInQueue 41 = .ok (.istore_n 1, 1) := by decide +kernel
theorem dX11_firstInQueue_42 : decode cX11_firstInQueue 42 = .ok (.aload_n 0, 1) := by decide +kernel
theorem dX11_firstInQueue_43 : decode cX11_firstInQueue 43 = .ok (.getfield 20, 3) := by decide +kernel
theorem dX11_firstInQueue_46 : decode cX11_firstInQueue 46 = .ok (.iload_n 3, 1) := by decide +kernel
theorem dX11_firstInQueue_47 : decode cX11_firstInQueue 47 = .ok (.aaload, 1) := by decide +kernel
theorem dX11_firstInQueue_48 : decode cX11_firstInQueue 48 = .ok (.getfield 248, 3) := by decide +kernel
theorem dX11_firstInQueue_51 : decode cX11_firstInQueue 51 = .ok (.istore_n 2, 1) := by decide +kernel
theorem dX11_firstInQueue_52 : decode cX11_firstInQueue 52 = .ok (.iinc 3 1, 3) := by decide +kernel
theorem dX11_firstInQueue_55 : decode cX11_firstInQueue 55 = .ok (.goto (-49), 3) := by decide +kernel
theorem dX11_firstInQueue_58 : decode cX11_firstInQueue 58 = .ok (.iload_n 1, 1) := by decide +kernel
theorem dX11_firstInQueue_59 : decode cX11_firstInQueue 59 = .ok (.ireturn, 1) := by decide +kernel
theorem dX11_render_0 : decode cX11_render 0 = .ok (.aload_n 2, 1) := by decide +kernel
theorem dX11_render_1 : decode cX11_render 1 = .ok (.getfield 102, 3) := by decide +kernel
theorem dX11_render_4 : decode cX11_render 4 = .ok (.ifnonnull 4, 3) := by decide +kernel
theorem dX11_render_7 : decode cX11_render 7 = .ok (.return_, 1) := by decide +kernel
theorem dX11_render_8 : decode cX11_render 8 = .ok (.aload_n 0, 1) := by decide +kernel
theorem dX11_render_9 : decode cX11_render 9 = .ok (.getfield 10, 3) := by decide +kernel
theorem dX11_render_12 : decode cX11_render 12 = .ok (.iload_n 1, 1) := by decide +kernel
theorem dX11_render_13 : decode cX11_render 13 = .ok (.aload_n 2, 1) := by decide +kernel
theorem dX11_render_14 : decode cX11_render 14 = .ok (.getfield 102, 3) := by decide +kernel
theorem dX11_render_17 : decode cX11_render 17 = .ok (.getfield 148, 3) := by decide +kernel
theorem dX11_render_20 : decode cX11_render 20 = .ok (.getfield 130, 3) := by decide +kernel
theorem dX11_render_23 : decode cX11_render 23 = .ok (.iconst (-1), 1) := by decide +kernel
theorem dX11_render_24 : decode cX11_render 24 = .ok (.invokevirtual 304, 3) := by decide +kernel
theorem dX11_render_27 : decode cX11_render 27 = .ok (.aload_n 2, 1) := by decide +kernel
theorem dX11_render_28 : decode cX11_render 28 = .ok (.getfield 260, 3) := by decide +kernel
theorem dX11_render_31 : decode cX11_render 31 = .ok (.getfield 382, 3) := by decide +kernel
theorem dX11_render_34 : decode cX11_render 34 = .ok (.aload_n 0, 1) := by decide +kernel
theorem dX11_render_35 : decode cX11_render 35 = .ok (.getfield 10, 3) := by decide +kernel
theorem dX11_render_38 : decode cX11_render 38 = .ok (.getfield 308, 3) := by decide +kernel
theorem dX11_render_41 : decode cX11_render 41 = .ok (.getfield 382, 3) := by decide +kernel
theorem dX11_render_44 : decode cX11_render 44 = .ok (.ixor, 1) := by decide +kernel
theorem dX11_render_45 : decode cX11_render 45 = .ok (.istore_n 3, 1) := by decide +kernel
theorem dX11_render_46 : decode cX11_render 46 = .ok (.aload_n 2, 1) := by decide +kernel
theorem dX11_render_47 : decode cX11_render 47 = .ok (.getfield 260, 3) := by decide +kernel
theorem dX11_render_50 : decode cX11_render 50 = .ok (.aload_n 0, 1) := by decide +kernel
theorem dX11_render_51 : decode cX11_render 51 = .ok (.getfield 10, 3) := by decide +kernel
theorem dX11_render_54 : decode cX11_render 54 = .ok (.getfield 308, 3) := by decide +kernel
theorem dX11_render_57 : decode cX11_render 57 = .ok (.invokevirtual 395, 3) := by decide +kernel
theorem dX11_render_60 : decode cX11_render 60 = .ok (.aload_n 0, 1) := by decide +kernel
theorem dX11_render_61 : decode cX11_render 61 = .ok (.iload_n 3, 1) := by decide +kernel
theorem dX11_render_62 : decode cX11_render 62 = .ok (.invokevirtual 386, 3) := by decide +kernel
theorem dX11_render_65 : decode cX11_render 65 = .ok (.return_, 1) := by decide +kernel
theorem dX11_has_0 : decode cX11_has 0 = .ok (.iload_n 0, 1) := by decide +kernel
theorem dX11_has_1 : decode cX11_has 1 = .ok (.iload_n 1, 1) := by decide +kernel
theorem dX11_has_2 : decode cX11_has 2 = .ok (.ishr, 1) := by decide +kernel
theorem dX11_has_3 : decode cX11_has 3 = .ok (.iconst 1, 1) := by decide +kernel
theorem dX11_has_4 : decode cX11_has 4 = .ok (.iand, 1) := by decide +kernel
theorem dX11_has_5 : decode cX11_has 5 = .ok (.ifCond .eq 7, 3) := by decide +kernel
theorem dX11_has_8 : decode cX11_has 8 = .ok (.iconst 1, 1) := by decide +kernel
theorem dX11_has_9 : decode cX11_has 9 = .ok (.goto 4, 3) := by decide +kernel
theorem dX11_has_12 : decode cX11_has 12 = .ok (.iconst 0, 1) := by decide +kernel
theorem dX11_has_13 : decode cX11_has 13 = .ok (.ireturn, 1) := by decide +kernel
theorem dX11_membersOf_0 : decode cX11_membersOf 0 = .ok (.iconst 0, 1) := by decide +kernel
theorem dX11_membersOf_1 : decode cX11_membersOf 1 = .ok (.istore_n 2, 1) := by decide +kernel
theorem dX11_membersOf_2 : decode cX11_membersOf 2 = .ok (.iconst 0, 1) := by decide +kernel
theorem dX11_membersOf_3 : decode cX11_membersOf 3 = .ok (.istore_n 3, 1) := by decide +kernel
theorem dX11_membersOf_4 : decode cX11_membersOf 4 = .ok (.iload_n 3, 1) := by decide +kernel
theorem dX11_membersOf_5 : decode cX11_membersOf 5 = .ok (.aload_n 0, 1) := by decide +kernel
theorem dX11_membersOf_6 : decode cX11_membersOf 6 = .ok (.arraylength, 1) := by decide +kernel
theorem dX11_membersOf_7 : decode cX11_membersOf 7 = .ok (.if_icmp .ge 31, 3) := by decide +kernel
theorem dX11_membersOf_10 : decode cX11_membersOf 10 = .ok (.aload_n 0, 1) := by decide +kernel
theorem dX11_membersOf_11 : decode cX11_membersOf 11 = .ok (.iload_n 3, 1) := by decide +kernel
theorem dX11_membersOf_12 : decode cX11_membersOf 12 = .ok (.aaload, 1) := by decide +kernel
theorem dX11_membersOf_13 : decode cX11_membersOf 13 = .ok (.getfield 260, 3) := by decide +kernel
theorem dX11_membersOf_16 : decode cX11_membersOf 16 = .ok (.getfield 382, 3) := by decide +kernel
theorem dX11_membersOf_19 : decode cX11_membersOf 19 = .ok (.iload_n 1, 1) := by decide +kernel
theorem dX11_membersOf_20 : decode cX11_membersOf 20 = .ok (.invokestatic 198, 3) := by decide +kernel
theorem dX11_membersOf_23 : decode cX11_membersOf 23 = .ok (.ifCond .eq 9, 3) := by decide +kernel
theorem dX11_membersOf_26 : decode cX11_membersOf 26 = .ok (.iload_n 2, 1) := by decide +kernel
theorem dX11_membersOf_27 : decode cX11_membersOf 27 = .ok (.iconst 1, 1) := by decide +kernel
theorem dX11_membersOf_28 : decode cX11_membersOf 28 = .ok (.iload_n 3, 1) := by decide +kernel
theorem dX11_membersOf_29 : decode cX11_membersOf 29 = .ok (.ishl, 1) := by decide +kernel
theorem dX11_membersOf_30 : decode cX11_membersOf 30 = .ok (.ior, 1) := by decide +kernel
theorem dX11_membersOf_31 : decode cX11_membersOf 31 = .ok (.istore_n 2, 1) := by decide +kernel
theorem dX11_membersOf_32 : decode cX11_membersOf 32 = .ok (.iinc 3 1, 3) := by decide +kernel
theorem dX11_membersOf_35 : decode cX11_membersOf 35 = .ok (.goto (-31), 3) := by decide +kernel
theorem dX11_membersOf_38 : decode cX11_membersOf 38 = .ok (.iload_n 2, 1) := by decide +kernel
theorem dX11_membersOf_39 : decode cX11_membersOf 39 = .ok (.ireturn, 1) := by decide +kernel
theorem dX11_linkingTo_0 : decode cX11_linkingTo 0 = .ok (.iconst 0, 1) := by decide +kernel
theorem dX11_linkingTo_1 : decode cX11_linkingTo 1 = .ok (.istore_n 2, 1) := by decide +kernel
theorem dX11_linkingTo_2 : decode cX11_linkingTo 2 = .ok (.iconst 0, 1) := by decide +kernel
theorem dX11_linkingTo_3 : decode cX11_linkingTo 3 = .ok (.istore_n 3, 1) := by decide +kernel
theorem dX11_linkingTo_4 : decode cX11_linkingTo 4 = .ok (.iload_n 3, 1) := by decide +kernel
theorem dX11_linkingTo_5 : decode cX11_linkingTo 5 = .ok (.aload_n 0, 1) := by decide +kernel
theorem dX11_linkingTo_6 : decode cX11_linkingTo 6 = .ok (.getfield 20, 3) := by decide +kernel
theorem dX11_linkingTo_9 : decode cX11_linkingTo 9 = .ok (.arraylength, 1) := by decide +kernel
theorem dX11_linkingTo_10 : decode cX11_linkingTo 10 = .ok (.if_icmp .ge 34, 3) := by decide +kernel
theorem dX11_linkingTo_13 : decode cX11_linkingTo 13 = .ok (.aload_n 0, 1) := by decide +kernel
theorem dX11_linkingTo_14 : decode cX11_linkingTo 14 = .ok (.getfield 20, 3) := by decide +kernel
theorem dX11_linkingTo_17 : decode cX11_linkingTo 17 = .ok (.iload_n 3, 1) := by decide +kernel
theorem dX11_linkingTo_18 : decode cX11_linkingTo 18 = .ok (.aaload, 1) := by decide +kernel
theorem dX11_linkingTo_19 : decode cX11_linkingTo 19 = .ok (.getfield 260, 3) := by decide +kernel
theorem dX11_linkingTo_22 : decode cX11_linkingTo 22 = .ok (.getfield 315, 3) := by decide +kernel
theorem dX11_linkingTo_25 : decode cX11_linkingTo 25 = .ok (.iload_n 1, 1) := by decide +kernel
theorem dX11_linkingTo_26 : decode cX11_linkingTo 26 = .ok (.invokestatic 198, 3) := by decide +kernel
theorem dX11_linkingTo_29 : decode cX11_linkingTo 29 = .ok (.ifCond .eq 9, 3) := by decide +kernel
theorem dX11_linkingTo_32 : decode cX11_linkingTo 32 = .ok (.iload_n 2, 1) := by decide +kernel
theorem dX11_linkingTo_33 : decode cX11_linkingTo 33 = .ok (.iconst 1, 1) := by decide +kernel
theorem dX11_linkingTo_34 : decode cX11_linkingTo 34 = .ok (.iload_n 3, 1) := by decide +kernel
theorem dX11_linkingTo_35 : decode cX11_linkingTo 35 = .ok (.ishl, 1) := by decide +kernel
theorem dX11_linkingTo_36 : decode cX11_linkingTo 36 = .ok (.ior, 1) := by decide +kernel
theorem dX11_linkingTo_37 : decode cX11_linkingTo 37 = .ok (.istore_n 2, 1) := by decide +kernel
theorem dX11_linkingTo_38 : decode cX11_linkingTo 38 = .ok (.iinc 3 1, 3) := by decide +kernel
theorem dX11_linkingTo_41 : decode cX11_linkingTo 41 = .ok (.goto (-37), 3) := by decide +kernel
theorem dX11_linkingTo_44 : decode cX11_linkingTo 44 = .ok (.iload_n 2, 1) := by decide +kernel
theorem dX11_linkingTo_45 : decode cX11_linkingTo 45 = .ok (.ireturn, 1) := by decide +kernel
theorem dX11_wantedTitles_0 : decode cX11_wantedTitles 0 = .ok (.iconst 0, 1) := by decide +kernel
theorem dX11_wantedTitles_1 : decode cX11_wantedTitles 1 = .ok (.istore_n 1, 1) := by decide +kernel
theorem dX11_wantedTitles_2 : decode cX11_wantedTitles 2 = .ok (.iconst 0, 1) := by decide +kernel
theorem dX11_wantedTitles_3 : decode cX11_wantedTitles 3 = .ok (.istore_n 2, 1) := by decide +kernel
theorem dX11_wantedTitles_4 : decode cX11_wantedTitles 4 = .ok (.iload_n 2, 1) := by decide +kernel
theorem dX11_wantedTitles_5 : decode cX11_wantedTitles 5 = .ok (.aload_n 0, 1) := by decide +kernel
theorem dX11_wantedTitles_6 : decode cX11_wantedTitles 6 = .ok (.getfield 20, 3) := by decide +kernel
theorem dX11_wantedTitles_9 : decode cX11_wantedTitles 9 = .ok (.arraylength, 1) := by decide +kernel
theorem dX11_wantedTitles_10 : decode cX11_wantedTitles 10 = .ok (.if_icmp .ge 35, 3) := by decide +kernel
theorem dX11_wantedTitles_13 : decode cX11_wantedTitles 13 = .ok (.aload_n 0, 1) := by decide +kernel
theorem dX11_wantedTitles_14 : decode cX11_wantedTitles 14 = .ok (.getfield 20, 3) := by decide +kernel
theorem dX11_wantedTitles_17 : decode cX11_wantedTitles 17 = .ok (.iload_n 2, 1) := by decide +kernel
theorem dX11_wantedTitles_18 : decode cX11_wantedTitles 18 = .ok (.aaload, 1) := by decide +kernel
theorem dX11_wantedTitles_19 : decode cX11_wantedTitles 19 = .ok (.getfield 102, 3) := by decide +kernel
theorem dX11_wantedTitles_22 : decode cX11_wantedTitles 22 = .ok (.ifnonnull 17, 3) := by decide +kernel
theorem dX11_wantedTitles_25 : decode cX11_wantedTitles 25 = .ok (.aload_n 0, 1) := by decide +kernel
theorem dX11_wantedTitles_26 : decode cX11_wantedTitles 26 = .ok (.iload_n 2, 1) := by decide +kernel
theorem dX11_wantedTitles_27 : decode cX11_wantedTitles 27 = .ok (.invokevirtual 318, 3) := by decide +kernel
theorem dX11_wantedTitles_30 : decode cX11_wantedTitles 30 = .ok (.ifCond .eq 9, 3) := by decide +kernel
theorem dX11_wantedTitles_33 : decode cX11_wantedTitles 33 = .ok (.iload_n 1, 1) := by decide +kernel
theorem dX11_wantedTitles_34 : decode cX11_wantedTitles 34 = .ok (.iconst 1, 1) := by decide +kernel
theorem dX11_wantedTitles_35 : decode cX11_wantedTitles 35 = .ok (.iload_n 2, 1) := by decide +kernel
theorem dX11_wantedTitles_36 : decode cX11_wantedTitles 36 = .ok (.ishl, 1) := by decide +kernel
theorem dX11_wantedTitles_37 : decode cX11_wantedTitles 37 = .ok (.ior, 1) := by decide +kernel
theorem dX11_wantedTitles_38 : decode cX11_wantedTitles 38 = .ok (.istore_n 1, 1) := by decide +kernel
theorem dX11_wantedTitles_39 : decode cX11_wantedTitles 39 = .ok (.iinc 2 1, 3) := by decide +kernel
theorem dX11_wantedTitles_42 : decode cX11_wantedTitles 42 = .ok (.goto (-38), 3) := by decide +kernel
theorem dX11_wantedTitles_45 : decode cX11_wantedTitles 45 = .ok (.iload_n 1, 1) := by decide +kernel
theorem dX11_wantedTitles_46 : decode cX11_wantedTitles 46 = .ok (.ireturn, 1) := by decide +kernel
theorem dX11_lonelyTitles_0 : decode cX11_lonelyTitles 0 = .ok (.iconst 0, 1) := by decide +kernel
theorem dX11_lonelyTitles_1 : decode cX11_lonelyTitles 1 = .ok (.istore_n 1, 1) := by decide +kernel
theorem dX11_lonelyTitles_2 : decode cX11_lonelyTitles 2 = .ok (.iconst 0, 1) := by decide +kernel
theorem dX11_lonelyTitles_3 : decode cX11_lonelyTitles 3 = .ok (.istore_n 2, 1) := by decide +kernel
theorem dX11_lonelyTitles_4 : decode cX11_lonelyTitles 4 = .ok (.iload_n 2, 1) := by decide +kernel
theorem dX11_lonelyTitles_5 : decode cX11_lonelyTitles 5 = .ok (.aload_n 0, 1) := by decide +kernel
theorem dX11_lonelyTitles_6 : decode cX11_lonelyTitles 6 = .ok (.getfield 20, 3) := by decide +kernel
theorem dX11_lonelyTitles_9 : decode cX11_lonelyTitles 9 = .ok (.arraylength, 1) := by decide +kernel
theorem dX11_lonelyTitles_10 : decode cX11_lonelyTitles 10 = .ok (.if_icmp .ge 48, 3) := by decide +kernel
theorem dX11_lonelyTitles_13 : decode cX11_lonelyTitles 13 = .ok (.aload_n 0, 1) := by decide +kernel
theorem dX11_lonelyTitles_14 : decode cX11_lonelyTitles 14 = .ok (.getfield 20, 3) := by decide +kernel
theorem dX11_lonelyTitles_17 : decode cX11_lonelyTitles 17 = .ok (.iload_n 2, 1) := by decide +kernel
theorem dX11_lonelyTitles_18 : decode cX11_lonelyTitles 18 = .ok (.aaload, 1) := by decide +kernel
theorem dX11_lonelyTitles_19 : decode cX11_lonelyTitles 19 = .ok (.getfield 102, 3) := by decide +kernel
theorem dX11_lonelyTitles_22 : decode cX11_lonelyTitles 22 = .ok (.ifnull 30, 3) := by decide +kernel
theorem dX11_lonelyTitles_25 : decode cX11_lonelyTitles 25 = .ok (.aload_n 0, 1) := by decide +kernel
theorem dX11_lonelyTitles_26 : decode cX11_lonelyTitles 26 = .ok (.getfield 20, 3) := by decide +kernel
theorem dX11_lonelyTitles_29 : decode cX11_lonelyTitles 29 = .ok (.iload_n 2, 1) := by decide +kernel
theorem dX11_lonelyTitles_30 : decode cX11_lonelyTitles 30 = .ok (.aaload, 1) := by decide +kernel
theorem dX11_lonelyTitles_31 : decode cX11_lonelyTitles 31 = .ok (.getfield 102, 3) := by decide +kernel
theorem dX11_lonelyTitles_34 : decode cX11_lonelyTitles 34 = .ok (.getfield 148, 3) := by decide +kernel
theorem dX11_lonelyTitles_37 : decode cX11_lonelyTitles 37 = .ok (.getfield 130, 3) := by decide +kernel
theorem dX11_lonelyTitles_40 : decode cX11_lonelyTitles 40 = .ok (.invokevirtual 399, 3) := by decide +kernel
theorem dX11_lonelyTitles_43 : decode cX11_lonelyTitles 43 = .ok (.ifCond .ne 9, 3) := by decide +kernel
theorem dX11_lonelyTitles_46 : decode cX11_lonelyTitles 46 = .ok (.iload_n 1, 1) := by decide +kernel
theorem dX11_lonelyTitles_47 : decode cX11_lonelyTitles 47 = .ok (.iconst 1, 1) := by decide +kernel
theorem dX11_lonelyTitles_48 : decode cX11_lonelyTitles 48 = .ok (.iload_n 2, 1) := by decide +kernel
theorem dX11_lonelyTitles_49 : decode cX11_lonelyTitles 49 = .ok (.ishl, 1) := by decide +kernel
theorem dX11_lonelyTitles_50 : decode cX11_lonelyTitles 50 = .ok (.ior, 1) := by decide +kernel
theorem dX11_lonelyTitles_51 : decode cX11_lonelyTitles 51 = .ok (.istore_n 1, 1) := by decide +kernel
theorem dX11_lonelyTitles_52 : decode cX11_lonelyTitles 52 = .ok (.iinc 2 1, 3) := by decide +kernel
theorem dX11_lonelyTitles_55 : decode cX11_lonelyTitles 55 = .ok (.goto (-51), 3) := by decide +kernel
theorem dX11_lonelyTitles_58 : decode cX11_lonelyTitles 58 = .ok (.iconst 0, 1) := by decide +kernel
theorem dX11_lonelyTitles_59 : decode cX11_lonelyTitles 59 = .ok (.istore_n 2, 1) := by decide +kernel
theorem dX11_lonelyTitles_60 : decode cX11_lonelyTitles 60 = .ok (.iload_n 2, 1) := by decide +kernel
theorem dX11_lonelyTitles_61 : decode cX11_lonelyTitles 61 = .ok (.aload_n 0, 1) := by decide +kernel
theorem dX11_lonelyTitles_62 : decode cX11_lonelyTitles 62 = .ok (.getfield 20, 3) := by decide +kernel
theorem dX11_lonelyTitles_65 : decode cX11_lonelyTitles 65 = .ok (.arraylength, 1) := by decide +kernel
theorem dX11_lonelyTitles_66 : decode cX11_lonelyTitles 66 = .ok (.if_icmp .ge 46, 3) := by decide +kernel
theorem dX11_lonelyTitles_69 : decode cX11_lonelyTitles 69 = .ok (.aload_n 0, 1) := by decide +kernel
theorem dX11_lonelyTitles_70 : decode cX11_lonelyTitles 70 = .ok (.getfield 10, 3) := by decide +kernel
theorem dX11_lonelyTitles_73 : decode cX11_lonelyTitles 73 = .ok (.iload_n 2, 1) := by decide +kernel
theorem dX11_lonelyTitles_74 : decode cX11_lonelyTitles 74 = .ok (.iconst (-1), 1) := by decide +kernel
theorem dX11_lonelyTitles_75 : decode cX11_lonelyTitles 75 = .ok (.invokevirtual 294, 3) := by decide +kernel
theorem dX11_lonelyTitles_78 : decode cX11_lonelyTitles 78 = .ok (.istore_n 3, 1) := by decide +kernel
theorem dX11_lonelyTitles_79 : decode cX11_lonelyTitles 79 = .ok (.iload_n 3, 1) := by decide +kernel
theorem dX11_lonelyTitles_80 : decode cX11_lonelyTitles 80 = .ok (.iconst (-1), 1) := by decide +kernel
theorem dX11_lonelyTitles_81 : decode cX11_lonelyTitles 81 = .ok (.if_icmp .eq 25, 3) := by decide +kernel
theorem dX11_lonelyTitles_84 : decode cX11_lonelyTitles 84 = .ok (.aload_n 0, 1) := by decide +kernel
theorem dX11_lonelyTitles_85 : decode cX11_lonelyTitles 85 = .ok (.iload_n 2, 1) := by decide +kernel
theorem dX11_lonelyTitles_86 : decode cX11_lonelyTitles 86 = .ok (.invokevirtual 318, 3) := by decide +kernel
theorem dX11_lonelyTitles_89 : decode cX11_lonelyTitles 89 = .ok (.iconst 1, 1) := by decide +kernel
theorem dX11_lonelyTitles_90 : decode cX11_lonelyTitles 90 = .ok (.iload_n 3, 1) := by decide +kernel
theorem dX11_lonelyTitles_91 : decode cX11_lonelyTitles 91 = .ok (.ishl, 1) := by decide +kernel
theorem dX11_lonelyTitles_92 : decode cX11_lonelyTitles 92 = .ok (.iconst (-1), 1) := by decide +kernel
theorem dX11_lonelyTitles_93 : decode cX11_lonelyTitles 93 = .ok (.ixor, 1) := by decide +kernel
theorem dX11_lonelyTitles_94 : decode cX11_lonelyTitles 94 = .ok (.iand, 1) := by decide +kernel
theorem dX11_lonelyTitles_95 : decode cX11_lonelyTitles 95 = .ok (.ifCond .eq 11, 3) := by decide +kernel
theorem dX11_lonelyTitles_98 : decode cX11_lonelyTitles 98 = .ok (.iload_n 1, 1) := by decide +kernel
theorem dX11_lonelyTitles_99 : decode cX11_lonelyTitles 99 = .ok (.iconst 1, 1) := by decide +kernel
theorem dX11_lonelyTitles_100 : decode cX11_lonelyTitles 100 = .ok (.iload_n 3, 1) := by decide +kernel
theorem dX11_lonelyTitles_101 : decode cX11_lonelyTitles 101 = .ok (.ishl, 1) := by decide +kernel
theorem dX11_lonelyTitles_102 : decode cX11_lonelyTitles 102 = .ok (.iconst (-1), 1) := by decide +kernel
theorem dX11_lonelyTitles_103 : decode cX11_lonelyTitles 103 = .ok (.ixor, 1) := by decide +kernel
theorem dX11_lonelyTitles_104 : decode cX11_lonelyTitles 104 = .ok (.iand, 1) := by decide +kernel
theorem dX11_lonelyTitles_105 : decode cX11_lonelyTitles 105 = .ok (.istore_n 1, 1) := by decide +kernel
theorem dX11_lonelyTitles_106 : decode cX11_lonelyTitles 106 = .ok (.iinc 2 1, 3) := by decide +kernel
theorem dX11_lonelyTitles_109 : decode cX11_lonelyTitles 109 = .ok (.goto (-49), 3) := by decide +kernel
theorem dX11_lonelyTitles_112 : decode cX11_lonelyTitles 112 = .ok (.iload_n 1, 1) := by decide +kernel
theorem dX11_lonelyTitles_113 : decode cX11_lonelyTitles 113 = .ok (.ireturn, 1) := by decide +kernel
theorem dL_macros_0 : decode cL_macros 0 = .ok (.iconst 0, 1) := by decide +kernel
theorem dL_macros_1 : decode cL_macros 1 = .ok (.istore_n 2, 1) := by decide +kernel
theorem dL_macros_2 : decode cL_macros 2 = .ok (.lload_n 0, 1) := by decide +kernel
theorem dL_macros_3 : decode cL_macros 3 = .ok (.lstore_n 3, 1) := by decide +kernel
theorem dL_macros_4 : decode cL_macros 4 = .ok (.lload_n 3, 1) := by decide +kernel
theorem dL_macros_5 : decode cL_macros 5 = .ok (.lconst 1, 1) := by decide +kernel
theorem dL_macros_6 : decode cL_macros 6 = .ok (.lcmp, 1) := by decide +kernel
theorem dL_macros_7 : decode cL_macros 7 = .ok (.ifCond .le 14, 3) := by decide +kernel
theorem dL_macros_10 : decode cL_macros 10 = .ok (.iinc 2 1, 3) := by decide +kernel
theorem dL_macros_13 : decode cL_macros 13 = .ok (.lload_n 3, 1) := by decide +kernel
theorem dL_macros_14 : decode cL_macros 14 = .ok (.bipush 10, 2) := by decide +kernel
theorem dL_macros_16 : decode cL_macros 16 = .ok (.lshr, 1) := by decide +kernel
theorem dL_macros_17 : decode cL_macros 17 = .ok (.lstore_n 3, 1) := by decide +kernel
theorem dL_macros_18 : decode cL_macros 18 = .ok (.goto (-14), 3) := by decide +kernel
theorem dL_macros_21 : decode cL_macros 21 = .ok (.iload_n 2, 1) := by decide +kernel
theorem dL_macros_22 : decode cL_macros 22 = .ok (.ireturn, 1) := by decide +kernel
theorem dL_macro_0 : decode cL_macro 0 = .ok (.lload_n 0, 1) := by decide +kernel
theorem dL_macro_1 : decode cL_macro 1 = .ok (.bipush 10, 2) := by decide +kernel
theorem dL_macro_3 : decode cL_macro 3 = .ok (.lload_n 0, 1) := by decide +kernel
theorem dL_macro_4 : decode cL_macro 4 = .ok (.invokestatic 7, 3) := by decide +kernel
theorem dL_macro_7 : decode cL_macro 7 = .ok (.iconst 1, 1) := by decide +kernel
theorem dL_macro_8 : decode cL_macro 8 = .ok (.isub, 1) := by decide +kernel
theorem dL_macro_9 : decode cL_macro 9 = .ok (.iload_n 2, 1) := by decide +kernel
theorem dL_macro_10 : decode cL_macro 10 = .ok (.isub, 1) := by decide +kernel
theorem dL_macro_11 : decode cL_macro 11 = .ok (.imul, 1) := by decide +kernel
theorem dL_macro_12 : decode cL_macro 12 = .ok (.lshr, 1) := by decide +kernel
theorem dL_macro_13 : decode cL_macro 13 = .ok (.ldc2_w 13, 3) := by decide +kernel
theorem dL_macro_16 : decode cL_macro 16 = .ok (.land, 1) := by decide +kernel
theorem dL_macro_17 : decode cL_macro 17 = .ok (.l2i, 1) := by decide +kernel
theorem dL_macro_18 : decode cL_macro 18 = .ok (.ireturn, 1) := by decide +kernel
theorem dL_present_0 : decode cL_present 0 = .ok (.iconst (-1), 1) := by decide +kernel
theorem dL_present_1 : decode cL_present 1 = .ok (.istore 4, 2) := by decide +kernel
theorem dL_present_3 : decode cL_present 3 = .ok (.iconst 0, 1) := by decide +kernel
theorem dL_present_4 : decode cL_present 4 = .ok (.istore 5, 2) := by decide +kernel
theorem dL_present_6 : decode cL_present 6 = .ok (.iload 5, 2) := by decide +kernel
theorem dL_present_8 : decode cL_present 8 = .ok (.aload_n 0, 1) := by decide +kernel
theorem dL_present_9 : decode cL_present 9 = .ok (.iconst 0, 1) := by decide +kernel
theorem dL_present_10 : decode cL_present 10 = .ok (.iaload, 1) := by decide +kernel
theorem dL_present_11 : decode cL_present 11 = .ok (.if_icmp .ge 83, 3) := by decide +kernel
theorem dL_present_14 : decode cL_present 14 = .ok (.iload_n 3, 1) := by decide +kernel
theorem dL_present_15 : decode cL_present 15 = .ok (.bipush 8, 2) := by decide +kernel
theorem dL_present_17 : decode cL_present 17 = .ok (.if_icmp .ge 77, 3) := by decide +kernel
theorem dL_present_20 : decode cL_present 20 = .ok (.aload_n 1, 1) := by decide +kernel
theorem dL_present_21 : decode cL_present 21 = .ok (.iload_n 3, 1) := by decide +kernel
theorem dL_present_22 : decode cL_present 22 = .ok (.bipush 8, 2) := by decide +kernel
theorem dL_present_24 : decode cL_present 24 = .ok (.irem, 1) := by decide +kernel
theorem dL_present_25 : decode cL_present 25 = .ok (.iaload, 1) := by decide +kernel
theorem dL_present_26 : decode cL_present 26 = .ok (.ifCond .le 68, 3) := by decide +kernel
theorem dL_present_29 : decode cL_present 29 = .ok (.aload_n 2, 1) := by decide +kernel
theorem dL_present_30 : decode cL_present 30 = .ok (.iconst 2, 1) := by decide +kernel
theorem dL_present_31 : decode cL_present 31 = .ok (.iload 5, 2) := by decide +kernel
theorem dL_present_33 : decode cL_present 33 = .ok (.imul, 1) := by decide +kernel
theorem dL_present_34 : decode cL_present 34 = .ok (.iaload, 1) := by decide +kernel
theorem dL_present_35 : decode cL_present 35 = .ok (.aload_n 1, 1) := by decide +kernel
theorem dL_present_36 : decode cL_present 36 = .ok (.iload_n 3, 1) := by decide +kernel
theorem dL_present_37 : decode cL_present 37 = .ok (.iaload, 1) := by decide +kernel
theorem dL_present_38 : decode cL_present 38 = .ok (.iconst 1, 1) := by decide +kernel
theorem dL_present_39 : decode cL_present 39 = .ok (.isub, 1) := by decide +kernel
theorem dL_present_40 : decode cL_present 40 = .ok (.if_icmp .ne 7, 3) := by decide +kernel
theorem dL_present_43 : decode cL_present 43 = .ok (.iconst 1, 1) := by decide +kernel
theorem dL_present_44 : decode cL_present 44 = .ok (.goto 4, 3) := by decide +kernel
