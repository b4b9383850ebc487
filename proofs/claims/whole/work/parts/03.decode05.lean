theorem dX12_seenAt_13 : decode cX12_seenAt 13 = .ok (.iaload, 1) := by decide +kernel
theorem dX12_seenAt_14 : decode cX12_seenAt 14 = .ok (.iconst (-1), 1) := by decide +kernel
theorem dX12_seenAt_15 : decode cX12_seenAt 15 = .ok (.if_icmp .ne 11, 3) := by decide +kernel
theorem dX12_seenAt_18 : decode cX12_seenAt 18 = .ok (.aload_n 0, 1) := by decide +kernel
theorem dX12_seenAt_19 : decode cX12_seenAt 19 = .ok (.iload_n 1, 1) := by decide +kernel
theorem dX12_seenAt_20 : decode cX12_seenAt 20 = .ok (.invokevirtual 209, 3) := by decide +kernel
theorem dX12_seenAt_23 : decode cX12_seenAt 23 = .ok (.goto 17, 3) := by decide +kernel
theorem dX12_seenAt_26 : decode cX12_seenAt 26 = .ok (.aload_n 0, 1) := by decide +kernel
theorem dX12_seenAt_27 : decode cX12_seenAt 27 = .ok (.aload_n 0, 1) := by decide +kernel
theorem dX12_seenAt_28 : decode cX12_seenAt 28 = .ok (.getfield 19, 3) := by decide +kernel
theorem dX12_seenAt_31 : decode cX12_seenAt 31 = .ok (.iload_n 1, 1) := by decide +kernel
theorem dX12_seenAt_32 : decode cX12_seenAt 32 = .ok (.iaload, 1) := by decide +kernel
theorem dX12_seenAt_33 : decode cX12_seenAt 33 = .ok (.aload_n 0, 1) := by decide +kernel
theorem dX12_seenAt_34 : decode cX12_seenAt 34 = .ok (.getfield 232, 3) := by decide +kernel
theorem dX12_seenAt_37 : decode cX12_seenAt 37 = .ok (.invokevirtual 235, 3) := by decide +kernel
theorem dX12_seenAt_40 : decode cX12_seenAt 40 = .ok (.ireturn, 1) := by decide +kernel
theorem dX12_wayOf_0 : decode cX12_wayOf 0 = .ok (.iload_n 1, 1) := by decide +kernel
theorem dX12_wayOf_1 : decode cX12_wayOf 1 = .ok (.istore_n 2, 1) := by decide +kernel
theorem dX12_wayOf_2 : decode cX12_wayOf 2 = .ok (.iconst 0, 1) := by decide +kernel
theorem dX12_wayOf_3 : decode cX12_wayOf 3 = .ok (.istore_n 3, 1) := by decide +kernel
theorem dX12_wayOf_4 : decode cX12_wayOf 4 = .ok (.iload_n 3, 1) := by decide +kernel
theorem dX12_wayOf_5 : decode cX12_wayOf 5 = .ok (.iconst 5, 1) := by decide +kernel
theorem dX12_wayOf_6 : decode cX12_wayOf 6 = .ok (.if_icmp .ge 55, 3) := by decide +kernel
theorem dX12_wayOf_9 : decode cX12_wayOf 9 = .ok (.aload_n 0, 1) := by decide +kernel
theorem dX12_wayOf_10 : decode cX12_wayOf 10 = .ok (.dup, 1) := by decide +kernel
theorem dX12_wayOf_11 : decode cX12_wayOf 11 = .ok (.getfield 239, 3) := by decide +kernel
theorem dX12_wayOf_14 : decode cX12_wayOf 14 = .ok (.iconst 1, 1) := by decide +kernel
theorem dX12_wayOf_15 : decode cX12_wayOf 15 = .ok (.iload_n 2, 1) := by decide +kernel
theorem dX12_wayOf_16 : decode cX12_wayOf 16 = .ok (.ishl, 1) := by decide +kernel
theorem dX12_wayOf_17 : decode cX12_wayOf 17 = .ok (.ior, 1) := by decide +kernel
theorem dX12_wayOf_18 : decode cX12_wayOf 18 = .ok (.putfield 239, 3) := by decide +kernel
theorem dX12_wayOf_21 : decode cX12_wayOf 21 = .ok (.aload_n 0, 1) := by decide +kernel
theorem dX12_wayOf_22 : decode cX12_wayOf 22 = .ok (.iload_n 2, 1) := by decide +kernel
theorem dX12_wayOf_23 : decode cX12_wayOf 23 = .ok (.invokevirtual 242, 3) := by decide +kernel
theorem dX12_wayOf_26 : decode cX12_wayOf 26 = .ok (.istore 4, 2) := by decide +kernel
theorem dX12_wayOf_28 : decode cX12_wayOf 28 = .ok (.iload 4, 2) := by decide +kernel
theorem dX12_wayOf_30 : decode cX12_wayOf 30 = .ok (.iconst (-1), 1) := by decide +kernel
theorem dX12_wayOf_31 : decode cX12_wayOf 31 = .ok (.if_icmp .ne 5, 3) := by decide +kernel
theorem dX12_wayOf_34 : decode cX12_wayOf 34 = .ok (.iconst (-1), 1) := by decide +kernel
theorem dX12_wayOf_35 : decode cX12_wayOf 35 = .ok (.ireturn, 1) := by decide +kernel
theorem dX12_wayOf_36 : decode cX12_wayOf 36 = .ok (.aload_n 0, 1) := by decide +kernel
theorem dX12_wayOf_37 : decode cX12_wayOf 37 = .ok (.iload 4, 2) := by decide +kernel
theorem dX12_wayOf_39 : decode cX12_wayOf 39 = .ok (.invokevirtual 245, 3) := by decide +kernel
theorem dX12_wayOf_42 : decode cX12_wayOf 42 = .ok (.istore 5, 2) := by decide +kernel
theorem dX12_wayOf_44 : decode cX12_wayOf 44 = .ok (.iload 5, 2) := by decide +kernel
theorem dX12_wayOf_46 : decode cX12_wayOf 46 = .ok (.iconst (-1), 1) := by decide +kernel
theorem dX12_wayOf_47 : decode cX12_wayOf 47 = .ok (.if_icmp .ne 5, 3) := by decide +kernel
theorem dX12_wayOf_50 : decode cX12_wayOf 50 = .ok (.iload_n 2, 1) := by decide +kernel
theorem dX12_wayOf_51 : decode cX12_wayOf 51 = .ok (.ireturn, 1) := by decide +kernel
theorem dX12_wayOf_52 : decode cX12_wayOf 52 = .ok (.iload 5, 2) := by decide +kernel
theorem dX12_wayOf_54 : decode cX12_wayOf 54 = .ok (.istore_n 2, 1) := by decide +kernel
theorem dX12_wayOf_55 : decode cX12_wayOf 55 = .ok (.iinc 3 1, 3) := by decide +kernel
theorem dX12_wayOf_58 : decode cX12_wayOf 58 = .ok (.goto (-54), 3) := by decide +kernel
theorem dX12_wayOf_61 : decode cX12_wayOf 61 = .ok (.iconst (-1), 1) := by decide +kernel
theorem dX12_wayOf_62 : decode cX12_wayOf 62 = .ok (.ireturn, 1) := by decide +kernel
theorem dX12_newRow_0 : decode cX12_newRow 0 = .ok (.aload_n 0, 1) := by decide +kernel
theorem dX12_newRow_1 : decode cX12_newRow 1 = .ok (.getfield 125, 3) := by decide +kernel
theorem dX12_newRow_4 : decode cX12_newRow 4 = .ok (.aload_n 0, 1) := by decide +kernel
theorem dX12_newRow_5 : decode cX12_newRow 5 = .ok (.getfield 248, 3) := by decide +kernel
theorem dX12_newRow_8 : decode cX12_newRow 8 = .ok (.iconst 0, 1) := by decide +kernel
theorem dX12_newRow_9 : decode cX12_newRow 9 = .ok (.iastore, 1) := by decide +kernel
theorem dX12_newRow_10 : decode cX12_newRow 10 = .ok (.aload_n 0, 1) := by decide +kernel
theorem dX12_newRow_11 : decode cX12_newRow 11 = .ok (.dup, 1) := by decide +kernel
theorem dX12_newRow_12 : decode cX12_newRow 12 = .ok (.getfield 248, 3) := by decide +kernel
theorem dX12_newRow_15 : decode cX12_newRow 15 = .ok (.iconst 1, 1) := by decide +kernel
theorem dX12_newRow_16 : decode cX12_newRow 16 = .ok (.iadd, 1) := by decide +kernel
theorem dX12_newRow_17 : decode cX12_newRow 17 = .ok (.putfield 248, 3) := by decide +kernel
theorem dX12_newRow_20 : decode cX12_newRow 20 = .ok (.aload_n 0, 1) := by decide +kernel
theorem dX12_newRow_21 : decode cX12_newRow 21 = .ok (.getfield 248, 3) := by decide +kernel
theorem dX12_newRow_24 : decode cX12_newRow 24 = .ok (.iconst 1, 1) := by decide +kernel
theorem dX12_newRow_25 : decode cX12_newRow 25 = .ok (.isub, 1) := by decide +kernel
theorem dX12_newRow_26 : decode cX12_newRow 26 = .ok (.ireturn, 1) := by decide +kernel
theorem dX12_append_0 : decode cX12_append 0 = .ok (.aload_n 0, 1) := by decide +kernel
theorem dX12_append_1 : decode cX12_append 1 = .ok (.getfield 125, 3) := by decide +kernel
theorem dX12_append_4 : decode cX12_append 4 = .ok (.iload_n 1, 1) := by decide +kernel
theorem dX12_append_5 : decode cX12_append 5 = .ok (.iaload, 1) := by decide +kernel
theorem dX12_append_6 : decode cX12_append 6 = .ok (.sipush 150, 3) := by decide +kernel
theorem dX12_append_9 : decode cX12_append 9 = .ok (.if_icmp .ge 31, 3) := by decide +kernel
theorem dX12_append_12 : decode cX12_append 12 = .ok (.aload_n 0, 1) := by decide +kernel
theorem dX12_append_13 : decode cX12_append 13 = .ok (.getfield 129, 3) := by decide +kernel
theorem dX12_append_16 : decode cX12_append 16 = .ok (.sipush 150, 3) := by decide +kernel
theorem dX12_append_19 : decode cX12_append 19 = .ok (.iload_n 1, 1) := by decide +kernel
theorem dX12_append_20 : decode cX12_append 20 = .ok (.imul, 1) := by decide +kernel
theorem dX12_append_21 : decode cX12_append 21 = .ok (.aload_n 0, 1) := by decide +kernel
theorem dX12_append_22 : decode cX12_append 22 = .ok (.getfield 125, 3) := by decide +kernel
theorem dX12_append_25 : decode cX12_append 25 = .ok (.iload_n 1, 1) := by decide +kernel
theorem dX12_append_26 : decode cX12_append 26 = .ok (.iaload, 1) := by decide +kernel
theorem dX12_append_27 : decode cX12_append 27 = .ok (.iadd, 1) := by decide +kernel
theorem dX12_append_28 : decode cX12_append 28 = .ok (.iload_n 2, 1) := by decide +kernel
theorem dX12_append_29 : decode cX12_append 29 = .ok (.iastore, 1) := by decide +kernel
theorem dX12_append_30 : decode cX12_append 30 = .ok (.aload_n 0, 1) := by decide +kernel
theorem dX12_append_31 : decode cX12_append 31 = .ok (.getfield 125, 3) := by decide +kernel
theorem dX12_append_34 : decode cX12_append 34 = .ok (.iload_n 1, 1) := by decide +kernel
theorem dX12_append_35 : decode cX12_append 35 = .ok (.dup2, 1) := by decide +kernel
theorem dX12_append_36 : decode cX12_append 36 = .ok (.iaload, 1) := by decide +kernel
theorem dX12_append_37 : decode cX12_append 37 = .ok (.iconst 1, 1) := by decide +kernel
theorem dX12_append_38 : decode cX12_append 38 = .ok (.iadd, 1) := by decide +kernel
theorem dX12_append_39 : decode cX12_append 39 = .ok (.iastore, 1) := by decide +kernel
theorem dX12_append_40 : decode cX12_append 40 = .ok (.return_, 1) := by decide +kernel
theorem dX12_appendRow_0 : decode cX12_appendRow 0 = .ok (.iconst 0, 1) := by decide +kernel
theorem dX12_appendRow_1 : decode cX12_appendRow 1 = .ok (.istore_n 3, 1) := by decide +kernel
theorem dX12_appendRow_2 : decode cX12_appendRow 2 = .ok (.iload_n 3, 1) := by decide +kernel
theorem dX12_appendRow_3 : decode cX12_appendRow 3 = .ok (.aload_n 0, 1) := by decide +kernel
theorem dX12_appendRow_4 : decode cX12_appendRow 4 = .ok (.getfield 125, 3) := by decide +kernel
theorem dX12_appendRow_7 : decode cX12_appendRow 7 = .ok (.iload_n 2, 1) := by decide +kernel
theorem dX12_appendRow_8 : decode cX12_appendRow 8 = .ok (.iaload, 1) := by decide +kernel
theorem dX12_appendRow_9 : decode cX12_appendRow 9 = .ok (.if_icmp .ge 26, 3) := by decide +kernel
theorem dX12_appendRow_12 : decode cX12_appendRow 12 = .ok (.aload_n 0, 1) := by decide +kernel
theorem dX12_appendRow_13 : decode cX12_appendRow 13 = .ok (.iload_n 1, 1) := by decide +kernel
theorem dX12_appendRow_14 : decode cX12_appendRow 14 = .ok (.aload_n 0, 1) := by decide +kernel
theorem dX12_appendRow_15 : decode cX12_appendRow 15 = .ok (.getfield 129, 3) := by decide +kernel
theorem dX12_appendRow_18 : decode cX12_appendRow 18 = .ok (.sipush 150, 3) := by decide +kernel
theorem dX12_appendRow_21 : decode cX12_appendRow 21 = .ok (.iload_n 2, 1) := by decide +kernel
theorem dX12_appendRow_22 : decode cX12_appendRow 22 = .ok (.imul, 1) := by decide +kernel
theorem dX12_appendRow_23 : decode cX12_appendRow 23 = .ok (.iload_n 3, 1) := by decide +kernel
theorem dX12_appendRow_24 : decode cX12_appendRow 24 = .ok (.iadd, 1) := by decide +kernel
theorem dX12_appendRow_25 : decode cX12_appendRow 25 = .ok (.iaload, 1) := by decide +kernel
theorem dX12_appendRow_26 : decode cX12_appendRow 26 = .ok (.invokevirtual 251, 3) := by decide +kernel
theorem dX12_appendRow_29 : decode cX12_appendRow 29 = .ok (.iinc 3 1, 3) := by decide +kernel
theorem dX12_appendRow_32 : decode cX12_appendRow 32 = .ok (.goto (-30), 3) := by decide +kernel
theorem dX12_appendRow_35 : decode cX12_appendRow 35 = .ok (.return_, 1) := by decide +kernel
theorem dX12_task_0 : decode cX12_task 0 = .ok (.aload_n 0, 1) := by decide +kernel
theorem dX12_task_1 : decode cX12_task 1 = .ok (.getfield 153, 3) := by decide +kernel
theorem dX12_task_4 : decode cX12_task 4 = .ok (.aload_n 0, 1) := by decide +kernel
theorem dX12_task_5 : decode cX12_task 5 = .ok (.getfield 254, 3) := by decide +kernel
theorem dX12_task_8 : decode cX12_task 8 = .ok (.iload_n 1, 1) := by decide +kernel
theorem dX12_task_9 : decode cX12_task 9 = .ok (.iastore, 1) := by decide +kernel
theorem dX12_task_10 : decode cX12_task 10 = .ok (.aload_n 0, 1) := by decide +kernel
theorem dX12_task_11 : decode cX12_task 11 = .ok (.getfield 156, 3) := by decide +kernel
theorem dX12_task_14 : decode cX12_task 14 = .ok (.aload_n 0, 1) := by decide +kernel
theorem dX12_task_15 : decode cX12_task 15 = .ok (.getfield 254, 3) := by decide +kernel
theorem dX12_task_18 : decode cX12_task 18 = .ok (.iload_n 2, 1) := by decide +kernel
theorem dX12_task_19 : decode cX12_task 19 = .ok (.iastore, 1) := by decide +kernel
theorem dX12_task_20 : decode cX12_task 20 = .ok (.aload_n 0, 1) := by decide +kernel
theorem dX12_task_21 : decode cX12_task 21 = .ok (.getfield 159, 3) := by decide +kernel
theorem dX12_task_24 : decode cX12_task 24 = .ok (.aload_n 0, 1) := by decide +kernel
theorem dX12_task_25 : decode cX12_task 25 = .ok (.getfield 254, 3) := by decide +kernel
theorem dX12_task_28 : decode cX12_task 28 = .ok (.iload_n 3, 1) := by decide +kernel
theorem dX12_task_29 : decode cX12_task 29 = .ok (.iastore, 1) := by decide +kernel
theorem dX12_task_30 : decode cX12_task 30 = .ok (.aload_n 0, 1) := by decide +kernel
theorem dX12_task_31 : decode cX12_task 31 = .ok (.getfield 162, 3) := by decide +kernel
theorem dX12_task_34 : decode cX12_task 34 = .ok (.aload_n 0, 1) := by decide +kernel
theorem dX12_task_35 : decode cX12_task 35 = .ok (.getfield 254, 3) := by decide +kernel
theorem dX12_task_38 : decode cX12_task 38 = .ok (.iload 4, 2) := by decide +kernel
theorem dX12_task_40 : decode cX12_task 40 = .ok (.iastore, 1) := by decide +kernel
theorem dX12_task_41 : decode cX12_task 41 = .ok (.aload_n 0, 1) := by decide +kernel
theorem dX12_task_42 : decode cX12_task 42 = .ok (.getfield 165, 3) := by decide +kernel
theorem dX12_task_45 : decode cX12_task 45 = .ok (.aload_n 0, 1) := by decide +kernel
theorem dX12_task_46 : decode cX12_task 46 = .ok (.getfield 254, 3) := by decide +kernel
theorem dX12_task_49 : decode cX12_task 49 = .ok (.iload 5, 2) := by decide +kernel
theorem dX12_task_51 : decode cX12_task 51 = .ok (.iastore, 1) := by decide +kernel
theorem dX12_task_52 : decode cX12_task 52 = .ok (.aload_n 0, 1) := by decide +kernel
theorem dX12_task_53 : decode cX12_task 53 = .ok (.dup, 1) := by decide +kernel
theorem dX12_task_54 : decode cX12_task 54 = .ok (.getfield 254, 3) := by decide +kernel
theorem dX12_task_57 : decode cX12_task 57 = .ok (.iconst 1, 1) := by decide +kernel
theorem dX12_task_58 : decode cX12_task 58 = .ok (.iadd, 1) := by decide +kernel
theorem dX12_task_59 : decode cX12_task 59 = .ok (.putfield 254, 3) := by decide +kernel
theorem dX12_task_62 : decode cX12_task 62 = .ok (.return_, 1) := by decide +kernel
theorem dX12_codeAt_0 : decode cX12_codeAt 0 = .ok (.aload_n 0, 1) := by decide +kernel
theorem dX12_codeAt_1 : decode cX12_codeAt 1 = .ok (.getfield 22, 3) := by decide +kernel
theorem dX12_codeAt_4 : decode cX12_codeAt 4 = .ok (.bipush 30, 2) := by decide +kernel
theorem dX12_codeAt_6 : decode cX12_codeAt 6 = .ok (.aload_n 0, 1) := by decide +kernel
theorem dX12_codeAt_7 : decode cX12_codeAt 7 = .ok (.getfield 104, 3) := by decide +kernel
theorem dX12_codeAt_10 : decode cX12_codeAt 10 = .ok (.iload_n 1, 1) := by decide +kernel
theorem dX12_codeAt_11 : decode cX12_codeAt 11 = .ok (.iaload, 1) := by decide +kernel
theorem dX12_codeAt_12 : decode cX12_codeAt 12 = .ok (.imul, 1) := by decide +kernel
theorem dX12_codeAt_13 : decode cX12_codeAt 13 = .ok (.iload_n 2, 1) := by decide +kernel
theorem dX12_codeAt_14 : decode cX12_codeAt 14 = .ok (.iadd, 1) := by decide +kernel
theorem dX12_codeAt_15 : decode cX12_codeAt 15 = .ok (.iaload, 1) := by decide +kernel
theorem dX12_codeAt_16 : decode cX12_codeAt 16 = .ok (.ireturn, 1) := by decide +kernel
theorem dX12_closeOf_0 : decode cX12_closeOf 0 = .ok (.iconst 1, 1) := by decide +kernel
theorem dX12_closeOf_1 : decode cX12_closeOf 1 = .ok (.istore_n 3, 1) := by decide +kernel
theorem dX12_closeOf_2 : decode cX12_closeOf 2 = .ok (.iload_n 2, 1) := by decide +kernel
theorem dX12_closeOf_3 : decode cX12_closeOf 3 = .ok (.istore 4, 2) := by decide +kernel
theorem dX12_closeOf_5 : decode cX12_closeOf 5 = .ok (.iload_n 3, 1) := by decide +kernel
theorem dX12_closeOf_6 : decode cX12_closeOf 6 = .ok (.ifCond .le 49, 3) := by decide +kernel
theorem dX12_closeOf_9 : decode cX12_closeOf 9 = .ok (.iinc 4 1, 3) := by decide +kernel
theorem dX12_closeOf_12 : decode cX12_closeOf 12 = .ok (.aload_n 0, 1) := by decide +kernel
theorem dX12_closeOf_13 : decode cX12_closeOf 13 = .ok (.iload_n 1, 1) := by decide +kernel
theorem dX12_closeOf_14 : decode cX12_closeOf 14 = .ok (.iload 4, 2) := by decide +kernel
theorem dX12_closeOf_16 : decode cX12_closeOf 16 = .ok (.invokevirtual 257, 3) := by decide +kernel
theorem dX12_closeOf_19 : decode cX12_closeOf 19 = .ok (.sipush 1000, 3) := by decide +kernel
theorem dX12_closeOf_22 : decode cX12_closeOf 22 = .ok (.idiv, 1) := by decide +kernel
theorem dX12_closeOf_23 : decode cX12_closeOf 23 = .ok (.istore 5, 2) := by decide +kernel
theorem dX12_closeOf_25 : decode cX12_closeOf 25 = .ok (.iload_n 3, 1) := by decide +kernel
theorem dX12_closeOf_26 : decode cX12_closeOf 26 = .ok (.iload 5, 2) := by decide +kernel
theorem dX12_closeOf_28 : decode cX12_closeOf 28 = .ok (.invokestatic 206, 3) := by decide +kernel
theorem dX12_closeOf_31 : decode cX12_closeOf 31 = .ok (.ifCond .eq 7, 3) := by decide +kernel
theorem dX12_closeOf_34 : decode cX12_closeOf 34 = .ok (.iconst 1, 1) := by decide +kernel
theorem dX12_closeOf_35 : decode cX12_closeOf 35 = .ok (.goto 15, 3) := by decide +kernel
theorem dX12_closeOf_38 : decode cX12_closeOf 38 = .ok (.iload 5, 2) := by decide +kernel
theorem dX12_closeOf_40 : decode cX12_closeOf 40 = .ok (.bipush 7, 2) := by decide +kernel
theorem dX12_closeOf_42 : decode cX12_closeOf 42 = .ok (.if_icmp .ne 7, 3) := by decide +kernel
theorem dX12_closeOf_45 : decode cX12_closeOf 45 = .ok (.iconst (-1), 1) := by decide +kernel
theorem dX12_closeOf_46 : decode cX12_closeOf 46 = .ok (.goto 4, 3) := by decide +kernel
theorem dX12_closeOf_49 : decode cX12_closeOf 49 = .ok (.iconst 0, 1) := by decide +kernel
theorem dX12_closeOf_50 : decode cX12_closeOf 50 = .ok (.iadd, 1) := by decide +kernel
theorem dX12_closeOf_51 : decode cX12_closeOf 51 = .ok (.istore_n 3, 1) := by decide +kernel
theorem dX12_closeOf_52 : decode cX12_closeOf 52 = .ok (.goto (-47), 3) := by decide +kernel
theorem dX12_closeOf_55 : decode cX12_closeOf 55 = .ok (.iload 4, 2) := by decide +kernel
theorem dX12_closeOf_57 : decode cX12_closeOf 57 = .ok (.ireturn, 1) := by decide +kernel
theorem dX12_markFrom_0 : decode cX12_markFrom 0 = .ok (.iload_n 2, 1) := by decide +kernel
theorem dX12_markFrom_1 : decode cX12_markFrom 1 = .ok (.istore 4, 2) := by decide +kernel
theorem dX12_markFrom_3 : decode cX12_markFrom 3 = .ok (.iload 4, 2) := by decide +kernel
theorem dX12_markFrom_5 : decode cX12_markFrom 5 = .ok (.iload_n 3, 1) := by decide +kernel
theorem dX12_markFrom_6 : decode cX12_markFrom 6 = .ok (.if_icmp .ge 72, 3) := by decide +kernel
theorem dX12_markFrom_9 : decode cX12_markFrom 9 = .ok (.aload_n 0, 1) := by decide +kernel
theorem dX12_markFrom_10 : decode cX12_markFrom 10 = .ok (.iload_n 1, 1) := by decide +kernel
theorem dX12_markFrom_11 : decode cX12_markFrom 11 = .ok (.iload 4, 2) := by decide +kernel
theorem dX12_markFrom_13 : decode cX12_markFrom 13 = .ok (.invokevirtual 257, 3) := by decide +kernel
theorem dX12_markFrom_16 : decode cX12_markFrom 16 = .ok (.sipush 1000, 3) := by decide +kernel
theorem dX12_markFrom_19 : decode cX12_markFrom 19 = .ok (.idiv, 1) := by decide +kernel
theorem dX12_markFrom_20 : decode cX12_markFrom 20 = .ok (.iconst 5, 1) := by decide +kernel
theorem dX12_markFrom_21 : decode cX12_markFrom 21 = .ok (.if_icmp .eq 57, 3) := by decide +kernel
theorem dX12_markFrom_24 : decode cX12_markFrom 24 = .ok (.aload_n 0, 1) := by decide +kernel
theorem dX12_markFrom_25 : decode cX12_markFrom 25 = .ok (.iload_n 1, 1) := by decide +kernel
theorem dX12_markFrom_26 : decode cX12_markFrom 26 = .ok (.iload 4, 2) := by decide +kernel
theorem dX12_markFrom_28 : decode cX12_markFrom 28 = .ok (.invokevirtual 257, 3) := by decide +kernel
theorem dX12_markFrom_31 : decode cX12_markFrom 31 = .ok (.sipush 1000, 3) := by decide +kernel
theorem dX12_markFrom_34 : decode cX12_markFrom 34 = .ok (.idiv, 1) := by decide +kernel
theorem dX12_markFrom_35 : decode cX12_markFrom 35 = .ok (.bipush 6, 2) := by decide +kernel
theorem dX12_markFrom_37 : decode cX12_markFrom 37 = .ok (.if_icmp .eq 41, 3) := by decide +kernel
theorem dX12_markFrom_40 : decode cX12_markFrom 40 = .ok (.aload_n 0, 1) := by decide +kernel
theorem dX12_markFrom_41 : decode cX12_markFrom 41 = .ok (.iload_n 1, 1) := by decide +kernel
theorem dX12_markFrom_42 : decode cX12_markFrom 42 = .ok (.iload 4, 2) := by decide +kernel
theorem dX12_markFrom_44 : decode cX12_markFrom 44 = .ok (.invokevirtual 257, 3) := by decide +kernel
theorem dX12_markFrom_47 : decode cX12_markFrom 47 = .ok (.sipush 1000, 3) := by decide +kernel
theorem dX12_markFrom_50 : decode cX12_markFrom 50 = .ok (.idiv, 1) := by decide +kernel
theorem dX12_markFrom_51 : decode cX12_markFrom 51 = .ok (.invokestatic 206, 3) := by decide +kernel
theorem dX12_markFrom_54 : decode cX12_markFrom 54 = .ok (.ifCond .eq 15, 3) := by decide +kernel
theorem dX12_markFrom_57 : decode cX12_markFrom 57 = .ok (.aload_n 0, 1) := by decide +kernel
theorem dX12_markFrom_58 : decode cX12_markFrom 58 = .ok (.iload_n 1, 1) := by decide +kernel
theorem dX12_markFrom_59 : decode cX12_markFrom 59 = .ok (.iload 4, 2) := by decide +kernel
theorem dX12_markFrom_61 : decode cX12_markFrom 61 = .ok (.invokevirtual 260, 3) := by decide +kernel
theorem dX12_markFrom_64 : decode cX12_markFrom 64 = .ok (.iconst 1, 1) := by decide +kernel
theorem dX12_markFrom_65 : decode cX12_markFrom 65 = .ok (.iadd, 1) := by decide +kernel
theorem dX12_markFrom_66 : decode cX12_markFrom 66 = .ok (.goto 7, 3) := by decide +kernel
theorem dX12_markFrom_69 : decode cX12_markFrom 69 = .ok (.iload 4, 2) := by decide +kernel
theorem dX12_markFrom_71 : decode cX12_markFrom 71 = .ok (.iconst 1, 1) := by decide +kernel
theorem dX12_markFrom_72 : decode cX12_markFrom 72 = .ok (.iadd, 1) := by decide +kernel
theorem dX12_markFrom_73 : decode cX12_markFrom 73 = .ok (.istore 4, 2) := by decide +kernel
theorem dX12_markFrom_75 : decode cX12_markFrom 75 = .ok (.goto (-72), 3) := by decide +kernel
theorem dX12_markFrom_78 : decode cX12_markFrom 78 = .ok (.iload 4, 2) := by decide +kernel
theorem dX12_markFrom_80 : decode cX12_markFrom 80 = .ok (.ireturn, 1) := by decide +kernel
theorem dX12_newFrame_0 : decode cX12_newFrame 0 = .ok (.aload_n 0, 1) := by decide +kernel
theorem dX12_newFrame_1 : decode cX12_newFrame 1 = .ok (.getfield 263, 3) := by decide +kernel
theorem dX12_newFrame_4 : decode cX12_newFrame 4 = .ok (.istore 5, 2) := by decide +kernel
theorem dX12_newFrame_6 : decode cX12_newFrame 6 = .ok (.aload_n 0, 1) := by decide +kernel
theorem dX12_newFrame_7 : decode cX12_newFrame 7 = .ok (.getfield 104, 3) := by decide +kernel
theorem dX12_newFrame_10 : decode cX12_newFrame 10 = .ok (.iload 5, 2) := by decide +kernel
theorem dX12_newFrame_12 : decode cX12_newFrame 12 = .ok (.iload_n 1, 1) := by decide +kernel
theorem dX12_newFrame_13 : decode cX12_newFrame 13 = .ok (.iastore, 1) := by decide +kernel
theorem dX12_newFrame_14 : decode cX12_newFrame 14 = .ok (.aload_n 0, 1) := by decide +kernel
theorem dX12_newFrame_15 : decode cX12_newFrame 15 = .ok (.getfield 107, 3) := by decide +kernel
theorem dX12_newFrame_18 : decode cX12_newFrame 18 = .ok (.iload 5, 2) := by decide +kernel
theorem dX12_newFrame_20 : decode cX12_newFrame 20 = .ok (.iload_n 2, 1) := by decide +kernel
theorem dX12_newFrame_21 : decode cX12_newFrame 21 = .ok (.iastore, 1) := by decide +kernel
theorem dX12_newFrame_22 : decode cX12_newFrame 22 = .ok (.aload_n 0, 1) := by decide +kernel
theorem dX12_newFrame_23 : decode cX12_newFrame 23 = .ok (.getfield 110, 3) := by decide +kernel
theorem dX12_newFrame_26 : decode cX12_newFrame 26 = .ok (.iload 5, 2) := by decide +kernel
theorem dX12_newFrame_28 : decode cX12_newFrame 28 = .ok (.iload_n 3, 1) := by decide +kernel
theorem dX12_newFrame_29 : decode cX12_newFrame 29 = .ok (.iastore, 1) := by decide +kernel
theorem dX12_newFrame_30 : decode cX12_newFrame 30 = .ok (.aload_n 0, 1) := by decide +kernel
theorem dX12_newFrame_31 : decode cX12_newFrame 31 = .ok (.getfield 113, 3) := by decide +kernel
theorem dX12_newFrame_34 : decode cX12_newFrame 34 = .ok (.iload 5, 2) := by decide +kernel
theorem dX12_newFrame_36 : decode cX12_newFrame 36 = .ok (.iload 4, 2) := by decide +kernel
theorem dX12_newFrame_38 : decode cX12_newFrame 38 = .ok (.iastore, 1) := by decide +kernel
theorem dX12_newFrame_39 : decode cX12_newFrame 39 = .ok (.iconst 0, 1) := by decide +kernel
theorem dX12_newFrame_40 : decode cX12_newFrame 40 = .ok (.istore 6, 2) := by decide +kernel
theorem dX12_newFrame_42 : decode cX12_newFrame 42 = .ok (.iload 6, 2) := by decide +kernel
theorem dX12_newFrame_44 : decode cX12_newFrame 44 = .ok (.bipush 10, 2) := by decide +kernel
theorem dX12_newFrame_46 : decode cX12_newFrame 46 = .ok (.if_icmp .ge 37, 3) := by decide +kernel
theorem dX12_newFrame_49 : decode cX12_newFrame 49 = .ok (.aload_n 0, 1) := by decide +kernel
theorem dX12_newFrame_50 : decode cX12_newFrame 50 = .ok (.getfield 116, 3) := by decide +kernel
theorem dX12_newFrame_53 : decode cX12_newFrame 53 = .ok (.bipush 10, 2) := by decide +kernel
theorem dX12_newFrame_55 : decode cX12_newFrame 55 = .ok (.iload 5, 2) := by decide +kernel
theorem dX12_newFrame_57 : decode cX12_newFrame 57 = .ok (.imul, 1) := by decide +kernel
theorem dX12_newFrame_58 : decode cX12_newFrame 58 = .ok (.iload 6, 2) := by decide +kernel
theorem dX12_newFrame_60 : decode cX12_newFrame 60 = .ok (.iadd, 1) := by decide +kernel
theorem dX12_newFrame_61 : decode cX12_newFrame 61 = .ok (.iconst (-1), 1) := by decide +kernel
theorem dX12_newFrame_62 : decode cX12_newFrame 62 = .ok (.iastore, 1) := by decide +kernel
theorem dX12_newFrame_63 : decode cX12_newFrame 63 = .ok (.aload_n 0, 1) := by decide +kernel
theorem dX12_newFrame_64 : decode cX12_newFrame 64 = .ok (.getfield 122, 3) := by decide +kernel
theorem dX12_newFrame_67 : decode cX12_newFrame 67 = .ok (.bipush 10, 2) := by decide +kernel
theorem dX12_newFrame_69 : decode cX12_newFrame 69 = .ok (.iload 5, 2) := by decide +kernel
theorem dX12_newFrame_71 : decode cX12_newFrame 71 = .ok (.imul, 1) := by decide +kernel
theorem dX12_newFrame_72 : decode cX12_newFrame 72 = .ok (.iload 6, 2) := by decide +kernel
theorem dX12_newFrame_74 : decode cX12_newFrame 74 = .ok (.iadd, 1) := by decide +kernel
theorem dX12_newFrame_75 : decode cX12_newFrame 75 = .ok (.iconst (-1), 1) := by decide +kernel
theorem dX12_newFrame_76 : decode cX12_newFrame 76 = .ok (.iastore, 1) := by decide +kernel
theorem dX12_newFrame_77 : decode cX12_newFrame 77 = .ok (.iinc 6 1, 3) := by decide +kernel
theorem dX12_newFrame_80 : decode cX12_newFrame 80 = .ok (.goto (-38), 3) := by decide +kernel
theorem dX12_newFrame_83 : decode cX12_newFrame 83 = .ok (.aload_n 0, 1) := by decide +kernel
theorem dX12_newFrame_84 : decode cX12_newFrame 84 = .ok (.dup, 1) := by decide +kernel
theorem dX12_newFrame_85 : decode cX12_newFrame 85 = .ok (.getfield 263, 3) := by decide +kernel
theorem dX12_newFrame_88 : decode cX12_newFrame 88 = .ok (.iconst 1, 1) := by decide +kernel
theorem dX12_newFrame_89 : decode cX12_newFrame 89 = .ok (.iadd, 1) := by decide +kernel
theorem dX12_newFrame_90 : decode cX12_newFrame 90 = .ok (.putfield 263, 3) := by decide +kernel
theorem dX12_newFrame_93 : decode cX12_newFrame 93 = .ok (.iload 5, 2) := by decide +kernel
theorem dX12_newFrame_95 : decode cX12_newFrame 95 = .ok (.ireturn, 1) := by decide +kernel
theorem dX12_layArguments_0 : decode cX12_layArguments 0 = .ok (.iconst 0, 1) := by decide +kernel
theorem dX12_layArguments_1 : decode cX12_layArguments 1 = .ok (.istore 5, 2) := by decide +kernel
theorem dX12_layArguments_3 : decode cX12_layArguments 3 = .ok (.iload_n 3, 1) := by decide +kernel
theorem dX12_layArguments_4 : decode cX12_layArguments 4 = .ok (.istore 6, 2) := by decide +kernel
theorem dX12_layArguments_6 : decode cX12_layArguments 6 = .ok (.iload 6, 2) := by decide +kernel
theorem dX12_layArguments_8 : decode cX12_layArguments 8 = .ok (.iload 4, 2) := by decide +kernel
theorem dX12_layArguments_10 : decode cX12_layArguments 10 = .ok (.if_icmp .ge 117, 3) := by decide +kernel
theorem dX12_layArguments_13 : decode cX12_layArguments 13 = .ok (.aload_n 0, 1) := by decide +kernel
theorem dX12_layArguments_14 : decode cX12_layArguments 14 = .ok (.iload_n 2, 1) := by decide +kernel
theorem dX12_layArguments_15 : decode cX12_layArguments 15 = .ok (.iload 6, 2) := by decide +kernel
theorem dX12_layArguments_17 : decode cX12_layArguments 17 = .ok (.invokevirtual 257, 3) := by decide +kernel
theorem dX12_layArguments_20 : decode cX12_layArguments 20 = .ok (.istore 7, 2) := by decide +kernel
theorem dX12_layArguments_22 : decode cX12_layArguments 22 = .ok (.iload 5, 2) := by decide +kernel
theorem dX12_layArguments_24 : decode cX12_layArguments 24 = .ok (.iload 7, 2) := by decide +kernel
theorem dX12_layArguments_26 : decode cX12_layArguments 26 = .ok (.sipush 1000, 3) := by decide +kernel
theorem dX12_layArguments_29 : decode cX12_layArguments 29 = .ok (.idiv, 1) := by decide +kernel
theorem dX12_layArguments_30 : decode cX12_layArguments 30 = .ok (.iconst 5, 1) := by decide +kernel
theorem dX12_layArguments_31 : decode cX12_layArguments 31 = .ok (.if_icmp .ne 7, 3) := by decide +kernel
theorem dX12_layArguments_34 : decode cX12_layArguments 34 = .ok (.iconst 1, 1) := by decide +kernel
theorem dX12_layArguments_35 : decode cX12_layArguments 35 = .ok (.goto 4, 3) := by decide +kernel
theorem dX12_layArguments_38 : decode cX12_layArguments 38 = .ok (.iconst 0, 1) := by decide +kernel
theorem dX12_layArguments_39 : decode cX12_layArguments 39 = .ok (.iadd, 1) := by decide +kernel
theorem dX12_layArguments_40 : decode cX12_layArguments 40 = .ok (.istore 5, 2) := by decide +kernel
theorem dX12_layArguments_42 : decode cX12_layArguments 42 = .ok (.iload 7, 2) := by decide +kernel
theorem dX12_layArguments_44 : decode cX12_layArguments 44 = .ok (.sipush 1000, 3) := by decide +kernel
theorem dX12_layArguments_47 : decode cX12_layArguments 47 = .ok (.idiv, 1) := by decide +kernel
theorem dX12_layArguments_48 : decode cX12_layArguments 48 = .ok (.iconst 5, 1) := by decide +kernel
theorem dX12_layArguments_49 : decode cX12_layArguments 49 = .ok (.if_icmp .ne 8, 3) := by decide +kernel
theorem dX12_layArguments_52 : decode cX12_layArguments 52 = .ok (.iload 5, 2) := by decide +kernel
theorem dX12_layArguments_54 : decode cX12_layArguments 54 = .ok (.goto 9, 3) := by decide +kernel
theorem dX12_layArguments_57 : decode cX12_layArguments 57 = .ok (.iload 7, 2) := by decide +kernel
theorem dX12_layArguments_59 : decode cX12_layArguments 59 = .ok (.sipush 1000, 3) := by decide +kernel
theorem dX12_layArguments_62 : decode cX12_layArguments 62 = .ok (.irem, 1) := by decide +kernel
theorem dX12_layArguments_63 : decode cX12_layArguments 63 = .ok (.istore 8, 2) := by decide +kernel
theorem dX12_layArguments_65 : decode cX12_layArguments 65 = .ok (.iload 8, 2) := by decide +kernel
theorem dX12_layArguments_67 : decode cX12_layArguments 67 = .ok (.bipush 10, 2) := by decide +kernel
theorem dX12_layArguments_69 : decode cX12_layArguments 69 = .ok (.if_icmp .ge 42, 3) := by decide +kernel
theorem dX12_layArguments_72 : decode cX12_layArguments 72 = .ok (.aload_n 0, 1) := by decide +kernel
theorem dX12_layArguments_73 : decode cX12_layArguments 73 = .ok (.getfield 116, 3) := by decide +kernel
theorem dX12_layArguments_76 : decode cX12_layArguments 76 = .ok (.bipush 10, 2) := by decide +kernel
theorem dX12_layArguments_78 : decode cX12_layArguments 78 = .ok (.iload_n 1, 1) := by decide +kernel
theorem dX12_layArguments_79 : decode cX12_layArguments 79 = .ok (.imul, 1) := by decide +kernel
theorem dX12_layArguments_80 : decode cX12_layArguments 80 = .ok (.iload 8, 2) := by decide +kernel
theorem dX12_layArguments_82 : decode cX12_layArguments 82 = .ok (.iadd, 1) := by decide +kernel
theorem dX12_layArguments_83 : decode cX12_layArguments 83 = .ok (.iload 6, 2) := by decide +kernel
theorem dX12_layArguments_85 : decode cX12_layArguments 85 = .ok (.iconst 1, 1) := by decide +kernel
theorem dX12_layArguments_86 : decode cX12_layArguments 86 = .ok (.iadd, 1) := by decide +kernel
theorem dX12_layArguments_87 : decode cX12_layArguments 87 = .ok (.iastore, 1) := by decide +kernel
theorem dX12_layArguments_88 : decode cX12_layArguments 88 = .ok (.aload_n 0, 1) := by decide +kernel
theorem dX12_layArguments_89 : decode cX12_layArguments 89 = .ok (.getfield 119, 3) := by decide +kernel
theorem dX12_layArguments_92 : decode cX12_layArguments 92 = .ok (.bipush 10, 2) := by decide +kernel
theorem dX12_layArguments_94 : decode cX12_layArguments 94 = .ok (.iload_n 1, 1) := by decide +kernel
theorem dX12_layArguments_95 : decode cX12_layArguments 95 = .ok (.imul, 1) := by decide +kernel
theorem dX12_layArguments_96 : decode cX12_layArguments 96 = .ok (.iload 8, 2) := by decide +kernel
theorem dX12_layArguments_98 : decode cX12_layArguments 98 = .ok (.iadd, 1) := by decide +kernel
theorem dX12_layArguments_99 : decode cX12_layArguments 99 = .ok (.aload_n 0, 1) := by decide +kernel
theorem dX12_layArguments_100 : decode cX12_layArguments 100 = .ok (.iload_n 2, 1) := by decide +kernel
theorem dX12_layArguments_101 : decode cX12_layArguments 101 = .ok (.iload 6, 2) := by decide +kernel
theorem dX12_layArguments_103 : decode cX12_layArguments 103 = .ok (.iconst 1, 1) := by decide +kernel
theorem dX12_layArguments_104 : decode cX12_layArguments 104 = .ok (.iadd, 1) := by decide +kernel
theorem dX12_layArguments_105 : decode cX12_layArguments 105 = .ok (.iload 4, 2) := by decide +kernel
theorem dX12_layArguments_107 : decode cX12_layArguments 107 = .ok (.invokevirtual 266, 3) := by decide +kernel
theorem dX12_layArguments_110 : decode cX12_layArguments 110 = .ok (.iastore, 1) := by decide +kernel
theorem dX12_layArguments_111 : decode cX12_layArguments 111 = .ok (.aload_n 0, 1) := by decide +kernel
theorem dX12_layArguments_112 : decode cX12_layArguments 112 = .ok (.iload_n 2, 1) := by decide +kernel
theorem dX12_layArguments_113 : decode cX12_layArguments 113 = .ok (.iload 6, 2) := by decide +kernel
theorem dX12_layArguments_115 : decode cX12_layArguments 115 = .ok (.iconst 1, 1) := by decide +kernel
theorem dX12_layArguments_116 : decode cX12_layArguments 116 = .ok (.iadd, 1) := by decide +kernel
theorem dX12_layArguments_117 : decode cX12_layArguments 117 = .ok (.iload 4, 2) := by decide +kernel
theorem dX12_layArguments_119 : decode cX12_layArguments 119 = .ok (.invokevirtual 266, 3) := by decide +kernel
theorem dX12_layArguments_122 : decode cX12_layArguments 122 = .ok (.istore 6, 2) := by decide +kernel
theorem dX12_layArguments_124 : decode cX12_layArguments 124 = .ok (.goto (-118), 3) := by decide +kernel
theorem dX12_layArguments_127 : decode cX12_layArguments 127 = .ok (.return_, 1) := by decide +kernel
theorem dX12_isCalledFrom_0 : decode cX12_isCalledFrom 0 = .ok (.iconst 0, 1) := by decide +kernel
theorem dX12_isCalledFrom_1 : decode cX12_isCalledFrom 1 = .ok (.istore_n 3, 1) := by decide +kernel
theorem dX12_isCalledFrom_2 : decode cX12_isCalledFrom 2 = .ok (.iload_n 1, 1) := by decide +kernel
theorem dX12_isCalledFrom_3 : decode cX12_isCalledFrom 3 = .ok (.istore 4, 2) := by decide +kernel
theorem dX12_isCalledFrom_5 : decode cX12_isCalledFrom 5 = .ok (.iload 4, 2) := by decide +kernel
theorem dX12_isCalledFrom_7 : decode cX12_isCalledFrom 7 = .ok (.iconst (-1), 1) := by decide +kernel
theorem dX12_isCalledFrom_8 : decode cX12_isCalledFrom 8 = .ok (.if_icmp .eq 36, 3) := by decide +kernel
theorem dX12_isCalledFrom_11 : decode cX12_isCalledFrom 11 = .ok (.iload_n 3, 1) := by decide +kernel
theorem dX12_isCalledFrom_12 : decode cX12_isCalledFrom 12 = .ok (.ifCond .ne 14, 3) := by decide +kernel
theorem dX12_isCalledFrom_15 : decode cX12_isCalledFrom 15 = .ok (.aload_n 0, 1) := by decide +kernel
theorem dX12_isCalledFrom_16 : decode cX12_isCalledFrom 16 = .ok (.getfield 107, 3) := by decide +kernel
theorem dX12_isCalledFrom_19 : decode cX12_isCalledFrom 19 = .ok (.iload 4, 2) := by decide +kernel
theorem dX12_isCalledFrom_21 : decode cX12_isCalledFrom 21 = .ok (.iaload, 1) := by decide +kernel
theorem dX12_isCalledFrom_22 : decode cX12_isCalledFrom 22 = .ok (.iload_n 2, 1) := by decide +kernel
theorem dX12_isCalledFrom_23 : decode cX12_isCalledFrom 23 = .ok (.if_icmp .ne 7, 3) := by decide +kernel
theorem dX12_isCalledFrom_26 : decode cX12_isCalledFrom 26 = .ok (.iconst 1, 1) := by decide +kernel
theorem dX12_isCalledFrom_27 : decode cX12_isCalledFrom 27 = .ok (.goto 4, 3) := by decide +kernel
theorem dX12_isCalledFrom_30 : decode cX12_isCalledFrom 30 = .ok (.iconst 0, 1) := by decide +kernel
theorem dX12_isCalledFrom_31 : decode cX12_isCalledFrom 31 = .ok (.istore_n 3, 1) := by decide +kernel
theorem dX12_isCalledFrom_32 : decode cX12_isCalledFrom 32 = .ok (.aload_n 0, 1) := by decide +kernel
theorem dX12_isCalledFrom_33 : decode cX12_isCalledFrom 33 = .ok (.getfield 113, 3) := by decide +kernel
theorem dX12_isCalledFrom_36 : decode cX12_isCalledFrom 36 = .ok (.iload 4, 2) := by decide +kernel
theorem dX12_isCalledFrom_38 : decode cX12_isCalledFrom 38 = .ok (.iaload, 1) := by decide +kernel
theorem dX12_isCalledFrom_39 : decode cX12_isCalledFrom 39 = .ok (.istore 4, 2) := by decide +kernel
theorem dX12_isCalledFrom_41 : decode cX12_isCalledFrom 41 = .ok (.goto (-36), 3) := by decide +kernel
theorem dX12_isCalledFrom_44 : decode cX12_isCalledFrom 44 = .ok (.iload_n 3, 1) := by decide +kernel
theorem dX12_isCalledFrom_45 : decode cX12_isCalledFrom 45 = .ok (.ireturn, 1) := by decide +kernel
theorem dX12_expandCall_0 : decode cX12_expandCall 0 = .ok (.aload_n 0, 1) := by decide +kernel
theorem dX12_expandCall_1 : decode cX12_expandCall 1 = .ok (.iload_n 1, 1) := by decide +kernel
theorem dX12_expandCall_2 : decode cX12_expandCall 2 = .ok (.iload_n 2, 1) := by decide +kernel
theorem dX12_expandCall_3 : decode cX12_expandCall 3 = .ok (.invokevirtual 257, 3) := by decide +kernel
theorem dX12_expandCall_6 : decode cX12_expandCall 6 = .ok (.sipush 1000, 3) := by decide +kernel
theorem dX12_expandCall_9 : decode cX12_expandCall 9 = .ok (.irem, 1) := by decide +kernel
theorem dX12_expandCall_10 : decode cX12_expandCall 10 = .ok (.istore 5, 2) := by decide +kernel
theorem dX12_expandCall_12 : decode cX12_expandCall 12 = .ok (.aload_n 0, 1) := by decide +kernel
theorem dX12_expandCall_13 : decode cX12_expandCall 13 = .ok (.getfield 270, 3) := by decide +kernel
theorem dX12_expandCall_16 : decode cX12_expandCall 16 = .ok (.bipush 40, 2) := by decide +kernel
theorem dX12_expandCall_18 : decode cX12_expandCall 18 = .ok (.if_icmp .ne 13, 3) := by decide +kernel
theorem dX12_expandCall_21 : decode cX12_expandCall 21 = .ok (.aload_n 0, 1) := by decide +kernel
theorem dX12_expandCall_22 : decode cX12_expandCall 22 = .ok (.iload 4, 2) := by decide +kernel
theorem dX12_expandCall_24 : decode cX12_expandCall 24 = .ok (.sipush 9003, 3) := by decide +kernel
theorem dX12_expandCall_27 : decode cX12_expandCall 27 = .ok (.invokevirtual 251, 3) := by decide +kernel
theorem dX12_expandCall_30 : decode cX12_expandCall 30 = .ok (.return_, 1) := by decide +kernel
theorem dX12_expandCall_31 : decode cX12_expandCall 31 = .ok (.aload_n 0, 1) := by decide +kernel
theorem dX12_expandCall_32 : decode cX12_expandCall 32 = .ok (.dup, 1) := by decide +kernel
theorem dX12_expandCall_33 : decode cX12_expandCall 33 = .ok (.getfield 270, 3) := by decide +kernel
theorem dX12_expandCall_36 : decode cX12_expandCall 36 = .ok (.iconst 1, 1) := by decide +kernel
theorem dX12_expandCall_37 : decode cX12_expandCall 37 = .ok (.iadd, 1) := by decide +kernel
theorem dX12_expandCall_38 : decode cX12_expandCall 38 = .ok (.putfield 270, 3) := by decide +kernel
theorem dX12_expandCall_41 : decode cX12_expandCall 41 = .ok (.aload_n 0, 1) := by decide +kernel
theorem dX12_expandCall_42 : decode cX12_expandCall 42 = .ok (.iload 5, 2) := by decide +kernel
theorem dX12_expandCall_44 : decode cX12_expandCall 44 = .ok (.invokevirtual 273, 3) := by decide +kernel
theorem dX12_expandCall_47 : decode cX12_expandCall 47 = .ok (.istore 6, 2) := by decide +kernel
theorem dX12_expandCall_49 : decode cX12_expandCall 49 = .ok (.iload 6, 2) := by decide +kernel
theorem dX12_expandCall_51 : decode cX12_expandCall 51 = .ok (.iconst (-1), 1) := by decide +kernel
theorem dX12_expandCall_52 : decode cX12_expandCall 52 = .ok (.if_icmp .ne 31, 3) := by decide +kernel
theorem dX12_expandCall_55 : decode cX12_expandCall 55 = .ok (.aload_n 0, 1) := by decide +kernel
theorem dX12_expandCall_56 : decode cX12_expandCall 56 = .ok (.iload 4, 2) := by decide +kernel
theorem dX12_expandCall_58 : decode cX12_expandCall 58 = .ok (.sipush 2000, 3) := by decide +kernel
theorem dX12_expandCall_61 : decode cX12_expandCall 61 = .ok (.iload 5, 2) := by decide +kernel
theorem dX12_expandCall_63 : decode cX12_expandCall 63 = .ok (.iadd, 1) := by decide +kernel
theorem dX12_expandCall_64 : decode cX12_expandCall 64 = .ok (.invokevirtual 251, 3) := by decide +kernel
theorem dX12_expandCall_67 : decode cX12_expandCall 67 = .ok (.aload_n 0, 1) := by decide +kernel
theorem dX12_expandCall_68 : decode cX12_expandCall 68 = .ok (.dup, 1) := by decide +kernel
theorem dX12_expandCall_69 : decode cX12_expandCall 69 = .ok (.getfield 276, 3) := by decide +kernel
theorem dX12_expandCall_72 : decode cX12_expandCall 72 = .ok (.iconst 1, 1) := by decide +kernel
theorem dX12_expandCall_73 : decode cX12_expandCall 73 = .ok (.iload 5, 2) := by decide +kernel
theorem dX12_expandCall_75 : decode cX12_expandCall 75 = .ok (.ishl, 1) := by decide +kernel
theorem dX12_expandCall_76 : decode cX12_expandCall 76 = .ok (.ior, 1) := by decide +kernel
theorem dX12_expandCall_77 : decode cX12_expandCall 77 = .ok (.putfield 276, 3) := by decide +kernel
theorem dX12_expandCall_80 : decode cX12_expandCall 80 = .ok (.goto 103, 3) := by decide +kernel
theorem dX12_expandCall_83 : decode cX12_expandCall 83 = .ok (.aload_n 0, 1) := by decide +kernel
theorem dX12_expandCall_84 : decode cX12_expandCall 84 = .ok (.iload_n 1, 1) := by decide +kernel
theorem dX12_expandCall_85 : decode cX12_expandCall 85 = .ok (.iload 6, 2) := by decide +kernel
theorem dX12_expandCall_87 : decode cX12_expandCall 87 = .ok (.invokevirtual 279, 3) := by decide +kernel
theorem dX12_expandCall_90 : decode cX12_expandCall 90 = .ok (.ifCond .eq 15, 3) := by decide +kernel
theorem dX12_expandCall_93 : decode cX12_expandCall 93 = .ok (.aload_n 0, 1) := by decide +kernel
theorem dX12_expandCall_94 : decode cX12_expandCall 94 = .ok (.iload 4, 2) := by decide +kernel
theorem dX12_expandCall_96 : decode cX12_expandCall 96 = .ok (.sipush 9001, 3) := by decide +kernel
theorem dX12_expandCall_99 : decode cX12_expandCall 99 = .ok (.invokevirtual 251, 3) := by decide +kernel
theorem dX12_expandCall_102 : decode cX12_expandCall 102 = .ok (.goto 81, 3) := by decide +kernel
theorem dX12_expandCall_105 : decode cX12_expandCall 105 = .ok (.aload_n 0, 1) := by decide +kernel
theorem dX12_expandCall_106 : decode cX12_expandCall 106 = .ok (.getfield 110, 3) := by decide +kernel
theorem dX12_expandCall_109 : decode cX12_expandCall 109 = .ok (.iload_n 1, 1) := by decide +kernel
theorem dX12_expandCall_110 : decode cX12_expandCall 110 = .ok (.iaload, 1) := by decide +kernel
theorem dX12_expandCall_111 : decode cX12_expandCall 111 = .ok (.bipush 6, 2) := by decide +kernel
theorem dX12_expandCall_113 : decode cX12_expandCall 113 = .ok (.if_icmp .ne 15, 3) := by decide +kernel
theorem dX12_expandCall_116 : decode cX12_expandCall 116 = .ok (.aload_n 0, 1) := by decide +kernel
theorem dX12_expandCall_117 : decode cX12_expandCall 117 = .ok (.iload 4, 2) := by decide +kernel
theorem dX12_expandCall_119 : decode cX12_expandCall 119 = .ok (.sipush 9002, 3) := by decide +kernel
theorem dX12_expandCall_122 : decode cX12_expandCall 122 = .ok (.invokevirtual 251, 3) := by decide +kernel
theorem dX12_expandCall_125 : decode cX12_expandCall 125 = .ok (.goto 58, 3) := by decide +kernel
theorem dX12_expandCall_128 : decode cX12_expandCall 128 = .ok (.aload_n 0, 1) := by decide +kernel
theorem dX12_expandCall_129 : decode cX12_expandCall 129 = .ok (.iload 6, 2) := by decide +kernel
theorem dX12_expandCall_131 : decode cX12_expandCall 131 = .ok (.invokevirtual 242, 3) := by decide +kernel
theorem dX12_expandCall_134 : decode cX12_expandCall 134 = .ok (.istore 7, 2) := by decide +kernel
theorem dX12_expandCall_136 : decode cX12_expandCall 136 = .ok (.aload_n 0, 1) := by decide +kernel
theorem dX12_expandCall_137 : decode cX12_expandCall 137 = .ok (.iload 7, 2) := by decide +kernel
theorem dX12_expandCall_139 : decode cX12_expandCall 139 = .ok (.iload 6, 2) := by decide +kernel
theorem dX12_expandCall_141 : decode cX12_expandCall 141 = .ok (.aload_n 0, 1) := by decide +kernel
theorem dX12_expandCall_142 : decode cX12_expandCall 142 = .ok (.getfield 110, 3) := by decide +kernel
theorem dX12_expandCall_145 : decode cX12_expandCall 145 = .ok (.iload_n 1, 1) := by decide +kernel
theorem dX12_expandCall_146 : decode cX12_expandCall 146 = .ok (.iaload, 1) := by decide +kernel
theorem dX12_expandCall_147 : decode cX12_expandCall 147 = .ok (.iconst 1, 1) := by decide +kernel
theorem dX12_expandCall_148 : decode cX12_expandCall 148 = .ok (.iadd, 1) := by decide +kernel
theorem dX12_expandCall_149 : decode cX12_expandCall 149 = .ok (.iload_n 1, 1) := by decide +kernel
theorem dX12_expandCall_150 : decode cX12_expandCall 150 = .ok (.invokevirtual 282, 3) := by decide +kernel
theorem dX12_expandCall_153 : decode cX12_expandCall 153 = .ok (.istore 8, 2) := by decide +kernel
theorem dX12_expandCall_155 : decode cX12_expandCall 155 = .ok (.aload_n 0, 1) := by decide +kernel
theorem dX12_expandCall_156 : decode cX12_expandCall 156 = .ok (.iload 8, 2) := by decide +kernel
theorem dX12_expandCall_158 : decode cX12_expandCall 158 = .ok (.iload_n 1, 1) := by decide +kernel
theorem dX12_expandCall_159 : decode cX12_expandCall 159 = .ok (.iload_n 2, 1) := by decide +kernel
theorem dX12_expandCall_160 : decode cX12_expandCall 160 = .ok (.iconst 1, 1) := by decide +kernel
theorem dX12_expandCall_161 : decode cX12_expandCall 161 = .ok (.iadd, 1) := by decide +kernel
theorem dX12_expandCall_162 : decode cX12_expandCall 162 = .ok (.iload_n 3, 1) := by decide +kernel
theorem dX12_expandCall_163 : decode cX12_expandCall 163 = .ok (.invokevirtual 286, 3) := by decide +kernel
theorem dX12_expandCall_166 : decode cX12_expandCall 166 = .ok (.aload_n 0, 1) := by decide +kernel
theorem dX12_expandCall_167 : decode cX12_expandCall 167 = .ok (.iconst 0, 1) := by decide +kernel
theorem dX12_expandCall_168 : decode cX12_expandCall 168 = .ok (.iload 8, 2) := by decide +kernel
theorem dX12_expandCall_170 : decode cX12_expandCall 170 = .ok (.iconst 0, 1) := by decide +kernel
theorem dX12_expandCall_171 : decode cX12_expandCall 171 = .ok (.aload_n 0, 1) := by decide +kernel
theorem dX12_expandCall_172 : decode cX12_expandCall 172 = .ok (.getfield 25, 3) := by decide +kernel
theorem dX12_expandCall_175 : decode cX12_expandCall 175 = .ok (.iload 7, 2) := by decide +kernel
theorem dX12_expandCall_177 : decode cX12_expandCall 177 = .ok (.iaload, 1) := by decide +kernel
theorem dX12_expandCall_178 : decode cX12_expandCall 178 = .ok (.iload 4, 2) := by decide +kernel
theorem dX12_expandCall_180 : decode cX12_expandCall 180 = .ok (.invokevirtual 290, 3) := by decide +kernel
theorem dX12_expandCall_183 : decode cX12_expandCall 183 = .ok (.return_, 1) := by decide +kernel
theorem dX12_expandParam_0 : decode cX12_expandParam 0 = .ok (.bipush 10, 2) := by decide +kernel
theorem dX12_expandParam_2 : decode cX12_expandParam 2 = .ok (.iload_n 1, 1) := by decide +kernel
theorem dX12_expandParam_3 : decode cX12_expandParam 3 = .ok (.imul, 1) := by decide +kernel
theorem dX12_expandParam_4 : decode cX12_expandParam 4 = .ok (.aload_n 0, 1) := by decide +kernel
theorem dX12_expandParam_5 : decode cX12_expandParam 5 = .ok (.iload_n 1, 1) := by decide +kernel
theorem dX12_expandParam_6 : decode cX12_expandParam 6 = .ok (.iload_n 2, 1) := by decide +kernel
theorem dX12_expandParam_7 : decode cX12_expandParam 7 = .ok (.invokevirtual 257, 3) := by decide +kernel
theorem dX12_expandParam_10 : decode cX12_expandParam 10 = .ok (.sipush 1000, 3) := by decide +kernel
theorem dX12_expandParam_13 : decode cX12_expandParam 13 = .ok (.irem, 1) := by decide +kernel
theorem dX12_expandParam_14 : decode cX12_expandParam 14 = .ok (.iadd, 1) := by decide +kernel
theorem dX12_expandParam_15 : decode cX12_expandParam 15 = .ok (.istore 5, 2) := by decide +kernel
theorem dX12_expandParam_17 : decode cX12_expandParam 17 = .ok (.aload_n 0, 1) := by decide +kernel
theorem dX12_expandParam_18 : decode cX12_expandParam 18 = .ok (.getfield 116, 3) := by decide +kernel
theorem dX12_expandParam_21 : decode cX12_expandParam 21 = .ok (.iload 5, 2) := by decide +kernel
theorem dX12_expandParam_23 : decode cX12_expandParam 23 = .ok (.iaload, 1) := by decide +kernel
theorem dX12_expandParam_24 : decode cX12_expandParam 24 = .ok (.iconst (-1), 1) := by decide +kernel
theorem dX12_expandParam_25 : decode cX12_expandParam 25 = .ok (.if_icmp .ne 18, 3) := by decide +kernel
theorem dX12_expandParam_28 : decode cX12_expandParam 28 = .ok (.aload_n 0, 1) := by decide +kernel
theorem dX12_expandParam_29 : decode cX12_expandParam 29 = .ok (.iconst 0, 1) := by decide +kernel
theorem dX12_expandParam_30 : decode cX12_expandParam 30 = .ok (.iload_n 1, 1) := by decide +kernel
theorem dX12_expandParam_31 : decode cX12_expandParam 31 = .ok (.iload_n 2, 1) := by decide +kernel
theorem dX12_expandParam_32 : decode cX12_expandParam 32 = .ok (.iconst 1, 1) := by decide +kernel
theorem dX12_expandParam_33 : decode cX12_expandParam 33 = .ok (.iadd, 1) := by decide +kernel
theorem dX12_expandParam_34 : decode cX12_expandParam 34 = .ok (.iload_n 3, 1) := by decide +kernel
theorem dX12_expandParam_35 : decode cX12_expandParam 35 = .ok (.iload 4, 2) := by decide +kernel
theorem dX12_expandParam_37 : decode cX12_expandParam 37 = .ok (.invokevirtual 290, 3) := by decide +kernel
theorem dX12_expandParam_40 : decode cX12_expandParam 40 = .ok (.goto 89, 3) := by decide +kernel
theorem dX12_expandParam_43 : decode cX12_expandParam 43 = .ok (.aload_n 0, 1) := by decide +kernel
theorem dX12_expandParam_44 : decode cX12_expandParam 44 = .ok (.getfield 122, 3) := by decide +kernel
theorem dX12_expandParam_47 : decode cX12_expandParam 47 = .ok (.iload 5, 2) := by decide +kernel
theorem dX12_expandParam_49 : decode cX12_expandParam 49 = .ok (.iaload, 1) := by decide +kernel
theorem dX12_expandParam_50 : decode cX12_expandParam 50 = .ok (.iconst (-1), 1) := by decide +kernel
theorem dX12_expandParam_51 : decode cX12_expandParam 51 = .ok (.if_icmp .eq 19, 3) := by decide +kernel
theorem dX12_expandParam_54 : decode cX12_expandParam 54 = .ok (.aload_n 0, 1) := by decide +kernel
theorem dX12_expandParam_55 : decode cX12_expandParam 55 = .ok (.iload 4, 2) := by decide +kernel
theorem dX12_expandParam_57 : decode cX12_expandParam 57 = .ok (.aload_n 0, 1) := by decide +kernel
theorem dX12_expandParam_58 : decode cX12_expandParam 58 = .ok (.getfield 122, 3) := by decide +kernel
theorem dX12_expandParam_61 : decode cX12_expandParam 61 = .ok (.iload 5, 2) := by decide +kernel
theorem dX12_expandParam_63 : decode cX12_expandParam 63 = .ok (.iaload, 1) := by decide +kernel
theorem dX12_expandParam_64 : decode cX12_expandParam 64 = .ok (.invokevirtual 294, 3) := by decide +kernel
theorem dX12_expandParam_67 : decode cX12_expandParam 67 = .ok (.goto 62, 3) := by decide +kernel
theorem dX12_expandParam_70 : decode cX12_expandParam 70 = .ok (.aload_n 0, 1) := by decide +kernel
theorem dX12_expandParam_71 : decode cX12_expandParam 71 = .ok (.getfield 122, 3) := by decide +kernel
theorem dX12_expandParam_74 : decode cX12_expandParam 74 = .ok (.iload 5, 2) := by decide +kernel
theorem dX12_expandParam_76 : decode cX12_expandParam 76 = .ok (.aload_n 0, 1) := by decide +kernel
theorem dX12_expandParam_77 : decode cX12_expandParam 77 = .ok (.invokevirtual 297, 3) := by decide +kernel
theorem dX12_expandParam_80 : decode cX12_expandParam 80 = .ok (.iastore, 1) := by decide +kernel
theorem dX12_expandParam_81 : decode cX12_expandParam 81 = .ok (.aload_n 0, 1) := by decide +kernel
theorem dX12_expandParam_82 : decode cX12_expandParam 82 = .ok (.iconst 1, 1) := by decide +kernel
theorem dX12_expandParam_83 : decode cX12_expandParam 83 = .ok (.aload_n 0, 1) := by decide +kernel
theorem dX12_expandParam_84 : decode cX12_expandParam 84 = .ok (.getfield 122, 3) := by decide +kernel
theorem dX12_expandParam_87 : decode cX12_expandParam 87 = .ok (.iload 5, 2) := by decide +kernel
theorem dX12_expandParam_89 : decode cX12_expandParam 89 = .ok (.iaload, 1) := by decide +kernel
theorem dX12_expandParam_90 : decode cX12_expandParam 90 = .ok (.iconst 0, 1) := by decide +kernel
theorem dX12_expandParam_91 : decode cX12_expandParam 91 = .ok (.iconst 0, 1) := by decide +kernel
theorem dX12_expandParam_92 : decode cX12_expandParam 92 = .ok (.iload 4, 2) := by decide +kernel
theorem dX12_expandParam_94 : decode cX12_expandParam 94 = .ok (.invokevirtual 290, 3) := by decide +kernel
theorem dX12_expandParam_97 : decode cX12_expandParam 97 = .ok (.aload_n 0, 1) := by decide +kernel
theorem dX12_expandParam_98 : decode cX12_expandParam 98 = .ok (.iconst 0, 1) := by decide +kernel
theorem dX12_expandParam_99 : decode cX12_expandParam 99 = .ok (.aload_n 0, 1) := by decide +kernel
theorem dX12_expandParam_100 : decode cX12_expandParam 100 = .ok (.getfield 113, 3) := by decide +kernel
theorem dX12_expandParam_103 : decode cX12_expandParam 103 = .ok (.iload_n 1, 1) := by decide +kernel
theorem dX12_expandParam_104 : decode cX12_expandParam 104 = .ok (.iaload, 1) := by decide +kernel
theorem dX12_expandParam_105 : decode cX12_expandParam 105 = .ok (.aload_n 0, 1) := by decide +kernel
theorem dX12_expandParam_106 : decode cX12_expandParam 106 = .ok (.getfield 116, 3) := by decide +kernel
theorem dX12_expandParam_109 : decode cX12_expandParam 109 = .ok (.iload 5, 2) := by decide +kernel
theorem dX12_expandParam_111 : decode cX12_expandParam 111 = .ok (.iaload, 1) := by decide +kernel
theorem dX12_expandParam_112 : decode cX12_expandParam 112 = .ok (.aload_n 0, 1) := by decide +kernel
theorem dX12_expandParam_113 : decode cX12_expandParam 113 = .ok (.getfield 119, 3) := by decide +kernel
theorem dX12_expandParam_116 : decode cX12_expandParam 116 = .ok (.iload 5, 2) := by decide +kernel
theorem dX12_expandParam_118 : decode cX12_expandParam 118 = .ok (.iaload, 1) := by decide +kernel
theorem dX12_expandParam_119 : decode cX12_expandParam 119 = .ok (.aload_n 0, 1) := by decide +kernel
theorem dX12_expandParam_120 : decode cX12_expandParam 120 = .ok (.getfield 122, 3) := by decide +kernel
theorem dX12_expandParam_123 : decode cX12_expandParam 123 = .ok (.iload 5, 2) := by decide +kernel
theorem dX12_expandParam_125 : decode cX12_expandParam 125 = .ok (.iaload, 1) := by decide +kernel
theorem dX12_expandParam_126 : decode cX12_expandParam 126 = .ok (.invokevirtual 290, 3) := by decide +kernel
theorem dX12_expandParam_129 : decode cX12_expandParam 129 = .ok (.return_, 1) := by decide +kernel
theorem dX12_expandFunction_0 : decode cX12_expandFunction 0 = .ok (.aload_n 0, 1) := by decide +kernel
theorem dX12_expandFunction_1 : decode cX12_expandFunction 1 = .ok (.getfield 301, 3) := by decide +kernel
theorem dX12_expandFunction_4 : decode cX12_expandFunction 4 = .ok (.istore 5, 2) := by decide +kernel
theorem dX12_expandFunction_6 : decode cX12_expandFunction 6 = .ok (.aload_n 0, 1) := by decide +kernel
theorem dX12_expandFunction_7 : decode cX12_expandFunction 7 = .ok (.getfield 132, 3) := by decide +kernel
theorem dX12_expandFunction_10 : decode cX12_expandFunction 10 = .ok (.iload 5, 2) := by decide +kernel
theorem dX12_expandFunction_12 : decode cX12_expandFunction 12 = .ok (.aload_n 0, 1) := by decide +kernel
theorem dX12_expandFunction_13 : decode cX12_expandFunction 13 = .ok (.iload_n 1, 1) := by decide +kernel
theorem dX12_expandFunction_14 : decode cX12_expandFunction 14 = .ok (.iload_n 2, 1) := by decide +kernel
theorem dX12_expandFunction_15 : decode cX12_expandFunction 15 = .ok (.invokevirtual 257, 3) := by decide +kernel
theorem dX12_expandFunction_18 : decode cX12_expandFunction 18 = .ok (.sipush 1000, 3) := by decide +kernel
theorem dX12_expandFunction_21 : decode cX12_expandFunction 21 = .ok (.irem, 1) := by decide +kernel
theorem dX12_expandFunction_22 : decode cX12_expandFunction 22 = .ok (.iastore, 1) := by decide +kernel
theorem dX12_expandFunction_23 : decode cX12_expandFunction 23 = .ok (.aload_n 0, 1) := by decide +kernel
theorem dX12_expandFunction_24 : decode cX12_expandFunction 24 = .ok (.getfield 135, 3) := by decide +kernel
theorem dX12_expandFunction_27 : decode cX12_expandFunction 27 = .ok (.iload 5, 2) := by decide +kernel
theorem dX12_expandFunction_29 : decode cX12_expandFunction 29 = .ok (.iload_n 1, 1) := by decide +kernel
theorem dX12_expandFunction_30 : decode cX12_expandFunction 30 = .ok (.iastore, 1) := by decide +kernel
theorem dX12_expandFunction_31 : decode cX12_expandFunction 31 = .ok (.aload_n 0, 1) := by decide +kernel
theorem dX12_expandFunction_32 : decode cX12_expandFunction 32 = .ok (.getfield 138, 3) := by decide +kernel
theorem dX12_expandFunction_35 : decode cX12_expandFunction 35 = .ok (.iload 5, 2) := by decide +kernel
theorem dX12_expandFunction_37 : decode cX12_expandFunction 37 = .ok (.iload 4, 2) := by decide +kernel
theorem dX12_expandFunction_39 : decode cX12_expandFunction 39 = .ok (.iastore, 1) := by decide +kernel
theorem dX12_expandFunction_40 : decode cX12_expandFunction 40 = .ok (.aload_n 0, 1) := by decide +kernel
theorem dX12_expandFunction_41 : decode cX12_expandFunction 41 = .ok (.getfield 141, 3) := by decide +kernel
theorem dX12_expandFunction_44 : decode cX12_expandFunction 44 = .ok (.iload 5, 2) := by decide +kernel
theorem dX12_expandFunction_46 : decode cX12_expandFunction 46 = .ok (.iconst 0, 1) := by decide +kernel
theorem dX12_expandFunction_47 : decode cX12_expandFunction 47 = .ok (.iastore, 1) := by decide +kernel
theorem dX12_expandFunction_48 : decode cX12_expandFunction 48 = .ok (.iload_n 2, 1) := by decide +kernel
theorem dX12_expandFunction_49 : decode cX12_expandFunction 49 = .ok (.iconst 1, 1) := by decide +kernel
theorem dX12_expandFunction_50 : decode cX12_expandFunction 50 = .ok (.iadd, 1) := by decide +kernel
theorem dX12_expandFunction_51 : decode cX12_expandFunction 51 = .ok (.istore 6, 2) := by decide +kernel
theorem dX12_expandFunction_53 : decode cX12_expandFunction 53 = .ok (.iload 6, 2) := by decide +kernel
theorem dX12_expandFunction_55 : decode cX12_expandFunction 55 = .ok (.iload_n 3, 1) := by decide +kernel
theorem dX12_expandFunction_56 : decode cX12_expandFunction 56 = .ok (.if_icmp .ge 80, 3) := by decide +kernel
theorem dX12_expandFunction_59 : decode cX12_expandFunction 59 = .ok (.bipush 32, 2) := by decide +kernel
theorem dX12_expandFunction_61 : decode cX12_expandFunction 61 = .ok (.iload 5, 2) := by decide +kernel
theorem dX12_expandFunction_63 : decode cX12_expandFunction 63 = .ok (.imul, 1) := by decide +kernel
theorem dX12_expandFunction_64 : decode cX12_expandFunction 64 = .ok (.aload_n 0, 1) := by decide +kernel
theorem dX12_expandFunction_65 : decode cX12_expandFunction 65 = .ok (.getfield 141, 3) := by decide +kernel
theorem dX12_expandFunction_68 : decode cX12_expandFunction 68 = .ok (.iload 5, 2) := by decide +kernel
theorem dX12_expandFunction_70 : decode cX12_expandFunction 70 = .ok (.iaload, 1) := by decide +kernel
theorem dX12_expandFunction_71 : decode cX12_expandFunction 71 = .ok (.iadd, 1) := by decide +kernel
theorem dX12_expandFunction_72 : decode cX12_expandFunction 72 = .ok (.istore 7, 2) := by decide +kernel
theorem dX12_expandFunction_74 : decode cX12_expandFunction 74 = .ok (.aload_n 0, 1) := by decide +kernel
theorem dX12_expandFunction_75 : decode cX12_expandFunction 75 = .ok (.getfield 144, 3) := by decide +kernel
theorem dX12_expandFunction_78 : decode cX12_expandFunction 78 = .ok (.iload 7, 2) := by decide +kernel
theorem dX12_expandFunction_80 : decode cX12_expandFunction 80 = .ok (.iload 6, 2) := by decide +kernel
theorem dX12_expandFunction_82 : decode cX12_expandFunction 82 = .ok (.iconst 1, 1) := by decide +kernel
theorem dX12_expandFunction_83 : decode cX12_expandFunction 83 = .ok (.iadd, 1) := by decide +kernel
theorem dX12_expandFunction_84 : decode cX12_expandFunction 84 = .ok (.iastore, 1) := by decide +kernel
theorem dX12_expandFunction_85 : decode cX12_expandFunction 85 = .ok (.aload_n 0, 1) := by decide +kernel
theorem dX12_expandFunction_86 : decode cX12_expandFunction 86 = .ok (.getfield 147, 3) := by decide +kernel
theorem dX12_expandFunction_89 : decode cX12_expandFunction 89 = .ok (.iload 7, 2) := by decide +kernel
theorem dX12_expandFunction_91 : decode cX12_expandFunction 91 = .ok (.aload_n 0, 1) := by decide +kernel
theorem dX12_expandFunction_92 : decode cX12_expandFunction 92 = .ok (.iload_n 1, 1) := by decide +kernel
theorem dX12_expandFunction_93 : decode cX12_expandFunction 93 = .ok (.iload 6, 2) := by decide +kernel
theorem dX12_expandFunction_95 : decode cX12_expandFunction 95 = .ok (.iconst 1, 1) := by decide +kernel
theorem dX12_expandFunction_96 : decode cX12_expandFunction 96 = .ok (.iadd, 1) := by decide +kernel
theorem dX12_expandFunction_97 : decode cX12_expandFunction 97 = .ok (.iload_n 3, 1) := by decide +kernel
theorem dX12_expandFunction_98 : decode cX12_expandFunction 98 = .ok (.invokevirtual 266, 3) := by decide +kernel
theorem dX12_expandFunction_101 : decode cX12_expandFunction 101 = .ok (.iastore, 1) := by decide +kernel
theorem dX12_expandFunction_102 : decode cX12_expandFunction 102 = .ok (.aload_n 0, 1) := by decide +kernel
theorem dX12_expandFunction_103 : decode cX12_expandFunction 103 = .ok (.getfield 150, 3) := by decide +kernel
theorem dX12_expandFunction_106 : decode cX12_expandFunction 106 = .ok (.iload 7, 2) := by decide +kernel
theorem dX12_expandFunction_108 : decode cX12_expandFunction 108 = .ok (.iconst (-1), 1) := by decide +kernel
theorem dX12_expandFunction_109 : decode cX12_expandFunction 109 = .ok (.iastore, 1) := by decide +kernel
theorem dX12_expandFunction_110 : decode cX12_expandFunction 110 = .ok (.aload_n 0, 1) := by decide +kernel
theorem dX12_expandFunction_111 : decode cX12_expandFunction 111 = .ok (.getfield 141, 3) := by decide +kernel
theorem dX12_expandFunction_114 : decode cX12_expandFunction 114 = .ok (.iload 5, 2) := by decide +kernel
theorem dX12_expandFunction_116 : decode cX12_expandFunction 116 = .ok (.dup2, 1) := by decide +kernel
theorem dX12_expandFunction_117 : decode cX12_expandFunction 117 = .ok (.iaload, 1) := by decide +kernel
theorem dX12_expandFunction_118 : decode cX12_expandFunction 118 = .ok (.iconst 1, 1) := by decide +kernel
theorem dX12_expandFunction_119 : decode cX12_expandFunction 119 = .ok (.iadd, 1) := by decide +kernel
theorem dX12_expandFunction_120 : decode cX12_expandFunction 120 = .ok (.iastore, 1) := by decide +kernel
theorem dX12_expandFunction_121 : decode cX12_expandFunction 121 = .ok (.aload_n 0, 1) := by decide +kernel
theorem dX12_expandFunction_122 : decode cX12_expandFunction 122 = .ok (.iload_n 1, 1) := by decide +kernel
theorem dX12_expandFunction_123 : decode cX12_expandFunction 123 = .ok (.iload 6, 2) := by decide +kernel
theorem dX12_expandFunction_125 : decode cX12_expandFunction 125 = .ok (.iconst 1, 1) := by decide +kernel
theorem dX12_expandFunction_126 : decode cX12_expandFunction 126 = .ok (.iadd, 1) := by decide +kernel
theorem dX12_expandFunction_127 : decode cX12_expandFunction 127 = .ok (.iload_n 3, 1) := by decide +kernel
theorem dX12_expandFunction_128 : decode cX12_expandFunction 128 = .ok (.invokevirtual 266, 3) := by decide +kernel
theorem dX12_expandFunction_131 : decode cX12_expandFunction 131 = .ok (.istore 6, 2) := by decide +kernel
theorem dX12_expandFunction_133 : decode cX12_expandFunction 133 = .ok (.goto (-80), 3) := by decide +kernel
theorem dX12_expandFunction_136 : decode cX12_expandFunction 136 = .ok (.aload_n 0, 1) := by decide +kernel
theorem dX12_expandFunction_137 : decode cX12_expandFunction 137 = .ok (.dup, 1) := by decide +kernel
theorem dX12_expandFunction_138 : decode cX12_expandFunction 138 = .ok (.getfield 301, 3) := by decide +kernel
theorem dX12_expandFunction_141 : decode cX12_expandFunction 141 = .ok (.iconst 1, 1) := by decide +kernel
theorem dX12_expandFunction_142 : decode cX12_expandFunction 142 = .ok (.iadd, 1) := by decide +kernel
theorem dX12_expandFunction_143 : decode cX12_expandFunction 143 = .ok (.putfield 301, 3) := by decide +kernel
theorem dX12_expandFunction_146 : decode cX12_expandFunction 146 = .ok (.aload_n 0, 1) := by decide +kernel
theorem dX12_expandFunction_147 : decode cX12_expandFunction 147 = .ok (.iconst 2, 1) := by decide +kernel
theorem dX12_expandFunction_148 : decode cX12_expandFunction 148 = .ok (.iload 5, 2) := by decide +kernel
theorem dX12_expandFunction_150 : decode cX12_expandFunction 150 = .ok (.iconst 0, 1) := by decide +kernel
theorem dX12_expandFunction_151 : decode cX12_expandFunction 151 = .ok (.iconst 0, 1) := by decide +kernel
theorem dX12_expandFunction_152 : decode cX12_expandFunction 152 = .ok (.iload 4, 2) := by decide +kernel
theorem dX12_expandFunction_154 : decode cX12_expandFunction 154 = .ok (.invokevirtual 290, 3) := by decide +kernel
theorem dX12_expandFunction_157 : decode cX12_expandFunction 157 = .ok (.return_, 1) := by decide +kernel
theorem dX12_expandToken_0 : decode cX12_expandToken 0 = .ok (.aload_n 0, 1) := by decide +kernel
theorem dX12_expandToken_1 : decode cX12_expandToken 1 = .ok (.iload_n 1, 1) := by decide +kernel
theorem dX12_expandToken_2 : decode cX12_expandToken 2 = .ok (.iload_n 2, 1) := by decide +kernel
theorem dX12_expandToken_3 : decode cX12_expandToken 3 = .ok (.invokevirtual 257, 3) := by decide +kernel
theorem dX12_expandToken_6 : decode cX12_expandToken 6 = .ok (.sipush 1000, 3) := by decide +kernel
theorem dX12_expandToken_9 : decode cX12_expandToken 9 = .ok (.idiv, 1) := by decide +kernel
theorem dX12_expandToken_10 : decode cX12_expandToken 10 = .ok (.istore 4, 2) := by decide +kernel
theorem dX12_expandToken_12 : decode cX12_expandToken 12 = .ok (.aload_n 0, 1) := by decide +kernel
theorem dX12_expandToken_13 : decode cX12_expandToken 13 = .ok (.iload_n 1, 1) := by decide +kernel
theorem dX12_expandToken_14 : decode cX12_expandToken 14 = .ok (.iload_n 2, 1) := by decide +kernel
theorem dX12_expandToken_15 : decode cX12_expandToken 15 = .ok (.invokevirtual 257, 3) := by decide +kernel
theorem dX12_expandToken_18 : decode cX12_expandToken 18 = .ok (.sipush 1000, 3) := by decide +kernel
theorem dX12_expandToken_21 : decode cX12_expandToken 21 = .ok (.irem, 1) := by decide +kernel
theorem dX12_expandToken_22 : decode cX12_expandToken 22 = .ok (.istore 5, 2) := by decide +kernel
theorem dX12_expandToken_24 : decode cX12_expandToken 24 = .ok (.iload 4, 2) := by decide +kernel
theorem dX12_expandToken_26 : decode cX12_expandToken 26 = .ok (.invokestatic 206, 3) := by decide +kernel
theorem dX12_expandToken_29 : decode cX12_expandToken 29 = .ok (.ifCond .eq 12, 3) := by decide +kernel
theorem dX12_expandToken_32 : decode cX12_expandToken 32 = .ok (.aload_n 0, 1) := by decide +kernel
theorem dX12_expandToken_33 : decode cX12_expandToken 33 = .ok (.iload_n 1, 1) := by decide +kernel
theorem dX12_expandToken_34 : decode cX12_expandToken 34 = .ok (.iload_n 2, 1) := by decide +kernel
theorem dX12_expandToken_35 : decode cX12_expandToken 35 = .ok (.invokevirtual 260, 3) := by decide +kernel
theorem dX12_expandToken_38 : decode cX12_expandToken 38 = .ok (.goto 4, 3) := by decide +kernel
theorem dX12_expandToken_41 : decode cX12_expandToken 41 = .ok (.iload_n 2, 1) := by decide +kernel
theorem dX12_expandToken_42 : decode cX12_expandToken 42 = .ok (.istore 6, 2) := by decide +kernel
theorem dX12_expandToken_44 : decode cX12_expandToken 44 = .ok (.iload 4, 2) := by decide +kernel
theorem dX12_expandToken_46 : decode cX12_expandToken 46 = .ok (.ifCond .ne 13, 3) := by decide +kernel
theorem dX12_expandToken_49 : decode cX12_expandToken 49 = .ok (.aload_n 0, 1) := by decide +kernel
theorem dX12_expandToken_50 : decode cX12_expandToken 50 = .ok (.iload_n 3, 1) := by decide +kernel
theorem dX12_expandToken_51 : decode cX12_expandToken 51 = .ok (.iload 5, 2) := by decide +kernel
theorem dX12_expandToken_53 : decode cX12_expandToken 53 = .ok (.invokevirtual 251, 3) := by decide +kernel
theorem dX12_expandToken_56 : decode cX12_expandToken 56 = .ok (.goto 171, 3) := by decide +kernel
theorem dX12_expandToken_59 : decode cX12_expandToken 59 = .ok (.iload 4, 2) := by decide +kernel
theorem dX12_expandToken_61 : decode cX12_expandToken 61 = .ok (.iconst 1, 1) := by decide +kernel
theorem dX12_expandToken_62 : decode cX12_expandToken 62 = .ok (.if_icmp .eq 10, 3) := by decide +kernel
theorem dX12_expandToken_65 : decode cX12_expandToken 65 = .ok (.iload 4, 2) := by decide +kernel
theorem dX12_expandToken_67 : decode cX12_expandToken 67 = .ok (.bipush 12, 2) := by decide +kernel
theorem dX12_expandToken_69 : decode cX12_expandToken 69 = .ok (.if_icmp .ne 30, 3) := by decide +kernel
theorem dX12_expandToken_72 : decode cX12_expandToken 72 = .ok (.aload_n 0, 1) := by decide +kernel
theorem dX12_expandToken_73 : decode cX12_expandToken 73 = .ok (.iload_n 3, 1) := by decide +kernel
theorem dX12_expandToken_74 : decode cX12_expandToken 74 = .ok (.sipush 1000, 3) := by decide +kernel
theorem dX12_expandToken_77 : decode cX12_expandToken 77 = .ok (.iload 5, 2) := by decide +kernel
theorem dX12_expandToken_79 : decode cX12_expandToken 79 = .ok (.iadd, 1) := by decide +kernel
theorem dX12_expandToken_80 : decode cX12_expandToken 80 = .ok (.invokevirtual 251, 3) := by decide +kernel
theorem dX12_expandToken_83 : decode cX12_expandToken 83 = .ok (.aload_n 0, 1) := by decide +kernel
theorem dX12_expandToken_84 : decode cX12_expandToken 84 = .ok (.dup, 1) := by decide +kernel
theorem dX12_expandToken_85 : decode cX12_expandToken 85 = .ok (.getfield 276, 3) := by decide +kernel
theorem dX12_expandToken_88 : decode cX12_expandToken 88 = .ok (.iconst 1, 1) := by decide +kernel
theorem dX12_expandToken_89 : decode cX12_expandToken 89 = .ok (.iload 5, 2) := by decide +kernel
theorem dX12_expandToken_91 : decode cX12_expandToken 91 = .ok (.ishl, 1) := by decide +kernel
theorem dX12_expandToken_92 : decode cX12_expandToken 92 = .ok (.ior, 1) := by decide +kernel
theorem dX12_expandToken_93 : decode cX12_expandToken 93 = .ok (.putfield 276, 3) := by decide +kernel
theorem dX12_expandToken_96 : decode cX12_expandToken 96 = .ok (.goto 131, 3) := by decide +kernel
theorem dX12_expandToken_99 : decode cX12_expandToken 99 = .ok (.iload 4, 2) := by decide +kernel
theorem dX12_expandToken_101 : decode cX12_expandToken 101 = .ok (.bipush 11, 2) := by decide +kernel
theorem dX12_expandToken_103 : decode cX12_expandToken 103 = .ok (.if_icmp .ne 19, 3) := by decide +kernel
theorem dX12_expandToken_106 : decode cX12_expandToken 106 = .ok (.aload_n 0, 1) := by decide +kernel
theorem dX12_expandToken_107 : decode cX12_expandToken 107 = .ok (.dup, 1) := by decide +kernel
theorem dX12_expandToken_108 : decode cX12_expandToken 108 = .ok (.getfield 304, 3) := by decide +kernel
theorem dX12_expandToken_111 : decode cX12_expandToken 111 = .ok (.iconst 1, 1) := by decide +kernel
theorem dX12_expandToken_112 : decode cX12_expandToken 112 = .ok (.iload 5, 2) := by decide +kernel
theorem dX12_expandToken_114 : decode cX12_expandToken 114 = .ok (.ishl, 1) := by decide +kernel
theorem dX12_expandToken_115 : decode cX12_expandToken 115 = .ok (.ior, 1) := by decide +kernel
theorem dX12_expandToken_116 : decode cX12_expandToken 116 = .ok (.putfield 304, 3) := by decide +kernel
theorem dX12_expandToken_119 : decode cX12_expandToken 119 = .ok (.goto 108, 3) := by decide +kernel
theorem dX12_expandToken_122 : decode cX12_expandToken 122 = .ok (.iload 4, 2) := by decide +kernel
theorem dX12_expandToken_124 : decode cX12_expandToken 124 = .ok (.bipush 10, 2) := by decide +kernel
theorem dX12_expandToken_126 : decode cX12_expandToken 126 = .ok (.if_icmp .eq 35, 3) := by decide +kernel
theorem dX12_expandToken_129 : decode cX12_expandToken 129 = .ok (.iload 4, 2) := by decide +kernel
theorem dX12_expandToken_131 : decode cX12_expandToken 131 = .ok (.bipush 8, 2) := by decide +kernel
theorem dX12_expandToken_133 : decode cX12_expandToken 133 = .ok (.if_icmp .ne 12, 3) := by decide +kernel
theorem dX12_expandToken_136 : decode cX12_expandToken 136 = .ok (.aload_n 0, 1) := by decide +kernel
theorem dX12_expandToken_137 : decode cX12_expandToken 137 = .ok (.getfield 110, 3) := by decide +kernel
theorem dX12_expandToken_140 : decode cX12_expandToken 140 = .ok (.iload_n 1, 1) := by decide +kernel
theorem dX12_expandToken_141 : decode cX12_expandToken 141 = .ok (.iaload, 1) := by decide +kernel
theorem dX12_expandToken_142 : decode cX12_expandToken 142 = .ok (.ifCond .gt 19, 3) := by decide +kernel
theorem dX12_expandToken_145 : decode cX12_expandToken 145 = .ok (.iload 4, 2) := by decide +kernel
theorem dX12_expandToken_147 : decode cX12_expandToken 147 = .ok (.bipush 9, 2) := by decide +kernel
theorem dX12_expandToken_149 : decode cX12_expandToken 149 = .ok (.if_icmp .ne 27, 3) := by decide +kernel
theorem dX12_expandToken_152 : decode cX12_expandToken 152 = .ok (.aload_n 0, 1) := by decide +kernel
theorem dX12_expandToken_153 : decode cX12_expandToken 153 = .ok (.getfield 110, 3) := by decide +kernel
theorem dX12_expandToken_156 : decode cX12_expandToken 156 = .ok (.iload_n 1, 1) := by decide +kernel
theorem dX12_expandToken_157 : decode cX12_expandToken 157 = .ok (.iaload, 1) := by decide +kernel
theorem dX12_expandToken_158 : decode cX12_expandToken 158 = .ok (.ifCond .ne 18, 3) := by decide +kernel
theorem dX12_expandToken_161 : decode cX12_expandToken 161 = .ok (.aload_n 0, 1) := by decide +kernel
theorem dX12_expandToken_162 : decode cX12_expandToken 162 = .ok (.iconst 0, 1) := by decide +kernel
theorem dX12_expandToken_163 : decode cX12_expandToken 163 = .ok (.iload_n 1, 1) := by decide +kernel
theorem dX12_expandToken_164 : decode cX12_expandToken 164 = .ok (.iload_n 2, 1) := by decide +kernel
theorem dX12_expandToken_165 : decode cX12_expandToken 165 = .ok (.iconst 1, 1) := by decide +kernel
theorem dX12_expandToken_166 : decode cX12_expandToken 166 = .ok (.iadd, 1) := by decide +kernel
theorem dX12_expandToken_167 : decode cX12_expandToken 167 = .ok (.iload 6, 2) := by decide +kernel
theorem dX12_expandToken_169 : decode cX12_expandToken 169 = .ok (.iload_n 3, 1) := by decide +kernel
theorem dX12_expandToken_170 : decode cX12_expandToken 170 = .ok (.invokevirtual 290, 3) := by decide +kernel
theorem dX12_expandToken_173 : decode cX12_expandToken 173 = .ok (.goto 54, 3) := by decide +kernel
theorem dX12_expandToken_176 : decode cX12_expandToken 176 = .ok (.iload 4, 2) := by decide +kernel
theorem dX12_expandToken_178 : decode cX12_expandToken 178 = .ok (.iconst 2, 1) := by decide +kernel
theorem dX12_expandToken_179 : decode cX12_expandToken 179 = .ok (.if_icmp .ne 15, 3) := by decide +kernel
theorem dX12_expandToken_182 : decode cX12_expandToken 182 = .ok (.aload_n 0, 1) := by decide +kernel
theorem dX12_expandToken_183 : decode cX12_expandToken 183 = .ok (.iload_n 1, 1) := by decide +kernel
theorem dX12_expandToken_184 : decode cX12_expandToken 184 = .ok (.iload_n 2, 1) := by decide +kernel
theorem dX12_expandToken_185 : decode cX12_expandToken 185 = .ok (.iload 6, 2) := by decide +kernel
theorem dX12_expandToken_187 : decode cX12_expandToken 187 = .ok (.iload_n 3, 1) := by decide +kernel
theorem dX12_expandToken_188 : decode cX12_expandToken 188 = .ok (.invokevirtual 307, 3) := by decide +kernel
theorem dX12_expandToken_191 : decode cX12_expandToken 191 = .ok (.goto 36, 3) := by decide +kernel
theorem dX12_expandToken_194 : decode cX12_expandToken 194 = .ok (.iload 4, 2) := by decide +kernel
theorem dX12_expandToken_196 : decode cX12_expandToken 196 = .ok (.iconst 3, 1) := by decide +kernel
theorem dX12_expandToken_197 : decode cX12_expandToken 197 = .ok (.if_icmp .ne 15, 3) := by decide +kernel
theorem dX12_expandToken_200 : decode cX12_expandToken 200 = .ok (.aload_n 0, 1) := by decide +kernel
theorem dX12_expandToken_201 : decode cX12_expandToken 201 = .ok (.iload_n 1, 1) := by decide +kernel
theorem dX12_expandToken_202 : decode cX12_expandToken 202 = .ok (.iload_n 2, 1) := by decide +kernel
theorem dX12_expandToken_203 : decode cX12_expandToken 203 = .ok (.iload 6, 2) := by decide +kernel
theorem dX12_expandToken_205 : decode cX12_expandToken 205 = .ok (.iload_n 3, 1) := by decide +kernel
theorem dX12_expandToken_206 : decode cX12_expandToken 206 = .ok (.invokevirtual 310, 3) := by decide +kernel
theorem dX12_expandToken_209 : decode cX12_expandToken 209 = .ok (.goto 18, 3) := by decide +kernel
theorem dX12_expandToken_212 : decode cX12_expandToken 212 = .ok (.iload 4, 2) := by decide +kernel
theorem dX12_expandToken_214 : decode cX12_expandToken 214 = .ok (.iconst 4, 1) := by decide +kernel
theorem dX12_expandToken_215 : decode cX12_expandToken 215 = .ok (.if_icmp .ne 12, 3) := by decide +kernel
theorem dX12_expandToken_218 : decode cX12_expandToken 218 = .ok (.aload_n 0, 1) := by decide +kernel
theorem dX12_expandToken_219 : decode cX12_expandToken 219 = .ok (.iload_n 1, 1) := by decide +kernel
theorem dX12_expandToken_220 : decode cX12_expandToken 220 = .ok (.iload_n 2, 1) := by decide +kernel
theorem dX12_expandToken_221 : decode cX12_expandToken 221 = .ok (.iload 6, 2) := by decide +kernel
theorem dX12_expandToken_223 : decode cX12_expandToken 223 = .ok (.iload_n 3, 1) := by decide +kernel
theorem dX12_expandToken_224 : decode cX12_expandToken 224 = .ok (.invokevirtual 313, 3) := by decide +kernel
theorem dX12_expandToken_227 : decode cX12_expandToken 227 = .ok (.return_, 1) := by decide +kernel
theorem dX12_partOf_0 : decode cX12_partOf 0 = .ok (.iload_n 2, 1) := by decide +kernel
theorem dX12_partOf_1 : decode cX12_partOf 1 = .ok (.aload_n 0, 1) := by decide +kernel
theorem dX12_partOf_2 : decode cX12_partOf 2 = .ok (.getfield 141, 3) := by decide +kernel
theorem dX12_partOf_5 : decode cX12_partOf 5 = .ok (.iload_n 1, 1) := by decide +kernel
theorem dX12_partOf_6 : decode cX12_partOf 6 = .ok (.iaload, 1) := by decide +kernel
theorem dX12_partOf_7 : decode cX12_partOf 7 = .ok (.if_icmp .le 5, 3) := by decide +kernel
theorem dX12_partOf_10 : decode cX12_partOf 10 = .ok (.iconst 1, 1) := by decide +kernel
theorem dX12_partOf_11 : decode cX12_partOf 11 = .ok (.ireturn, 1) := by decide +kernel
theorem dX12_partOf_12 : decode cX12_partOf 12 = .ok (.aload_n 0, 1) := by decide +kernel
theorem dX12_partOf_13 : decode cX12_partOf 13 = .ok (.getfield 150, 3) := by decide +kernel
theorem dX12_partOf_16 : decode cX12_partOf 16 = .ok (.bipush 32, 2) := by decide +kernel
theorem dX12_partOf_18 : decode cX12_partOf 18 = .ok (.iload_n 1, 1) := by decide +kernel
theorem dX12_partOf_19 : decode cX12_partOf 19 = .ok (.imul, 1) := by decide +kernel
theorem dX12_partOf_20 : decode cX12_partOf 20 = .ok (.iload_n 2, 1) := by decide +kernel
theorem dX12_partOf_21 : decode cX12_partOf 21 = .ok (.iadd, 1) := by decide +kernel
theorem dX12_partOf_22 : decode cX12_partOf 22 = .ok (.iconst 1, 1) := by decide +kernel
theorem dX12_partOf_23 : decode cX12_partOf 23 = .ok (.isub, 1) := by decide +kernel
theorem dX12_partOf_24 : decode cX12_partOf 24 = .ok (.iaload, 1) := by decide +kernel
theorem dX12_partOf_25 : decode cX12_partOf 25 = .ok (.istore_n 3, 1) := by decide +kernel
theorem dX12_partOf_26 : decode cX12_partOf 26 = .ok (.aload_n 0, 1) := by decide +kernel
theorem dX12_partOf_27 : decode cX12_partOf 27 = .ok (.iload_n 3, 1) := by decide +kernel
theorem dX12_partOf_28 : decode cX12_partOf 28 = .ok (.iconst (-1), 1) := by decide +kernel
theorem dX12_partOf_29 : decode cX12_partOf 29 = .ok (.if_icmp .ne 14, 3) := by decide +kernel
theorem dX12_partOf_32 : decode cX12_partOf 32 = .ok (.aload_n 0, 1) := by decide +kernel
theorem dX12_partOf_33 : decode cX12_partOf 33 = .ok (.getfield 316, 3) := by decide +kernel
theorem dX12_partOf_36 : decode cX12_partOf 36 = .ok (.ifCond .ne 7, 3) := by decide +kernel
theorem dX12_partOf_39 : decode cX12_partOf 39 = .ok (.iload_n 2, 1) := by decide +kernel
theorem dX12_partOf_40 : decode cX12_partOf 40 = .ok (.goto 7, 3) := by decide +kernel
theorem dX12_partOf_43 : decode cX12_partOf 43 = .ok (.aload_n 0, 1) := by decide +kernel
theorem dX12_partOf_44 : decode cX12_partOf 44 = .ok (.getfield 316, 3) := by decide +kernel
theorem dX12_partOf_47 : decode cX12_partOf 47 = .ok (.putfield 316, 3) := by decide +kernel
theorem dX12_partOf_50 : decode cX12_partOf 50 = .ok (.iload_n 3, 1) := by decide +kernel
theorem dX12_partOf_51 : decode cX12_partOf 51 = .ok (.iconst (-1), 1) := by decide +kernel
theorem dX12_partOf_52 : decode cX12_partOf 52 = .ok (.if_icmp .ne 7, 3) := by decide +kernel
theorem dX12_partOf_55 : decode cX12_partOf 55 = .ok (.iconst 1, 1) := by decide +kernel
theorem dX12_partOf_56 : decode cX12_partOf 56 = .ok (.goto 4, 3) := by decide +kernel
theorem dX12_partOf_59 : decode cX12_partOf 59 = .ok (.iload_n 3, 1) := by decide +kernel
theorem dX12_partOf_60 : decode cX12_partOf 60 = .ok (.ireturn, 1) := by decide +kernel
theorem dX12_numberOf_0 : decode cX12_numberOf 0 = .ok (.aload_n 0, 1) := by decide +kernel
theorem dX12_numberOf_1 : decode cX12_numberOf 1 = .ok (.getfield 125, 3) := by decide +kernel
theorem dX12_numberOf_4 : decode cX12_numberOf 4 = .ok (.iload_n 1, 1) := by decide +kernel
theorem dX12_numberOf_5 : decode cX12_numberOf 5 = .ok (.iaload, 1) := by decide +kernel
theorem dX12_numberOf_6 : decode cX12_numberOf 6 = .ok (.ifCond .le 32, 3) := by decide +kernel
theorem dX12_numberOf_9 : decode cX12_numberOf 9 = .ok (.aload_n 0, 1) := by decide +kernel
theorem dX12_numberOf_10 : decode cX12_numberOf 10 = .ok (.getfield 129, 3) := by decide +kernel
theorem dX12_numberOf_13 : decode cX12_numberOf 13 = .ok (.sipush 150, 3) := by decide +kernel
theorem dX12_numberOf_16 : decode cX12_numberOf 16 = .ok (.iload_n 1, 1) := by decide +kernel
theorem dX12_numberOf_17 : decode cX12_numberOf 17 = .ok (.imul, 1) := by decide +kernel
theorem dX12_numberOf_18 : decode cX12_numberOf 18 = .ok (.iaload, 1) := by decide +kernel
theorem dX12_numberOf_19 : decode cX12_numberOf 19 = .ok (.sipush 1000, 3) := by decide +kernel
theorem dX12_numberOf_22 : decode cX12_numberOf 22 = .ok (.if_icmp .ge 16, 3) := by decide +kernel
theorem dX12_numberOf_25 : decode cX12_numberOf 25 = .ok (.aload_n 0, 1) := by decide +kernel
theorem dX12_numberOf_26 : decode cX12_numberOf 26 = .ok (.getfield 129, 3) := by decide +kernel
theorem dX12_numberOf_29 : decode cX12_numberOf 29 = .ok (.sipush 150, 3) := by decide +kernel
theorem dX12_numberOf_32 : decode cX12_numberOf 32 = .ok (.iload_n 1, 1) := by decide +kernel
theorem dX12_numberOf_33 : decode cX12_numberOf 33 = .ok (.imul, 1) := by decide +kernel
theorem dX12_numberOf_34 : decode cX12_numberOf 34 = .ok (.iaload, 1) := by decide +kernel
theorem dX12_numberOf_35 : decode cX12_numberOf 35 = .ok (.goto 4, 3) := by decide +kernel
theorem dX12_numberOf_38 : decode cX12_numberOf 38 = .ok (.iconst (-1), 1) := by decide +kernel
theorem dX12_numberOf_39 : decode cX12_numberOf 39 = .ok (.ireturn, 1) := by decide +kernel
theorem dX12_hasOther_0 : decode cX12_hasOther 0 = .ok (.iconst 0, 1) := by decide +kernel
theorem dX12_hasOther_1 : decode cX12_hasOther 1 = .ok (.istore_n 2, 1) := by decide +kernel
theorem dX12_hasOther_2 : decode cX12_hasOther 2 = .ok (.iconst 0, 1) := by decide +kernel
theorem dX12_hasOther_3 : decode cX12_hasOther 3 = .ok (.istore_n 3, 1) := by decide +kernel
theorem dX12_hasOther_4 : decode cX12_hasOther 4 = .ok (.iload_n 3, 1) := by decide +kernel
theorem dX12_hasOther_5 : decode cX12_hasOther 5 = .ok (.aload_n 0, 1) := by decide +kernel
theorem dX12_hasOther_6 : decode cX12_hasOther 6 = .ok (.getfield 125, 3) := by decide +kernel
theorem dX12_hasOther_9 : decode cX12_hasOther 9 = .ok (.iload_n 1, 1) := by decide +kernel
theorem dX12_hasOther_10 : decode cX12_hasOther 10 = .ok (.iaload, 1) := by decide +kernel
theorem dX12_hasOther_11 : decode cX12_hasOther 11 = .ok (.if_icmp .ge 34, 3) := by decide +kernel
theorem dX12_hasOther_14 : decode cX12_hasOther 14 = .ok (.iload_n 2, 1) := by decide +kernel
theorem dX12_hasOther_15 : decode cX12_hasOther 15 = .ok (.ifCond .ne 18, 3) := by decide +kernel
theorem dX12_hasOther_18 : decode cX12_hasOther 18 = .ok (.aload_n 0, 1) := by decide +kernel
theorem dX12_hasOther_19 : decode cX12_hasOther 19 = .ok (.getfield 129, 3) := by decide +kernel
theorem dX12_hasOther_22 : decode cX12_hasOther 22 = .ok (.sipush 150, 3) := by decide +kernel
theorem dX12_hasOther_25 : decode cX12_hasOther 25 = .ok (.iload_n 1, 1) := by decide +kernel
theorem dX12_hasOther_26 : decode cX12_hasOther 26 = .ok (.imul, 1) := by decide +kernel
theorem dX12_hasOther_27 : decode cX12_hasOther 27 = .ok (.iload_n 3, 1) := by decide +kernel
theorem dX12_hasOther_28 : decode cX12_hasOther 28 = .ok (.iadd, 1) := by decide +kernel
theorem dX12_hasOther_29 : decode cX12_hasOther 29 = .ok (.iaload, 1) := by decide +kernel
theorem dX12_hasOther_30 : decode cX12_hasOther 30 = .ok (.ifCond .eq 7, 3) := by decide +kernel
theorem dX12_hasOther_33 : decode cX12_hasOther 33 = .ok (.iconst 1, 1) := by decide +kernel
theorem dX12_hasOther_34 : decode cX12_hasOther 34 = .ok (.goto 4, 3) := by decide +kernel
theorem dX12_hasOther_37 : decode cX12_hasOther 37 = .ok (.iconst 0, 1) := by decide +kernel
theorem dX12_hasOther_38 : decode cX12_hasOther 38 = .ok (.istore_n 2, 1) := by decide +kernel
theorem dX12_hasOther_39 : decode cX12_hasOther 39 = .ok (.iinc 3 1, 3) := by decide +kernel
theorem dX12_hasOther_42 : decode cX12_hasOther 42 = .ok (.goto (-38), 3) := by decide +kernel
theorem dX12_hasOther_45 : decode cX12_hasOther 45 = .ok (.iload_n 2, 1) := by decide +kernel
theorem dX12_hasOther_46 : decode cX12_hasOther 46 = .ok (.ireturn, 1) := by decide +kernel
theorem dX12_areSame_0 : decode cX12_areSame 0 = .ok (.aload_n 0, 1) := by decide +kernel
theorem dX12_areSame_1 : decode cX12_areSame 1 = .ok (.getfield 125, 3) := by decide +kernel
theorem dX12_areSame_4 : decode cX12_areSame 4 = .ok (.iload_n 1, 1) := by decide +kernel
theorem dX12_areSame_5 : decode cX12_areSame 5 = .ok (.iaload, 1) := by decide +kernel
theorem dX12_areSame_6 : decode cX12_areSame 6 = .ok (.aload_n 0, 1) := by decide +kernel
theorem dX12_areSame_7 : decode cX12_areSame 7 = .ok (.getfield 125, 3) := by decide +kernel
theorem dX12_areSame_10 : decode cX12_areSame 10 = .ok (.iload_n 2, 1) := by decide +kernel
theorem dX12_areSame_11 : decode cX12_areSame 11 = .ok (.iaload, 1) := by decide +kernel
theorem dX12_areSame_12 : decode cX12_areSame 12 = .ok (.if_icmp .ne 7, 3) := by decide +kernel
theorem dX12_areSame_15 : decode cX12_areSame 15 = .ok (.iconst 1, 1) := by decide +kernel
theorem dX12_areSame_16 : decode cX12_areSame 16 = .ok (.goto 4, 3) := by decide +kernel
theorem dX12_areSame_19 : decode cX12_areSame 19 = .ok (.iconst 0, 1) := by decide +kernel
theorem dX12_areSame_20 : decode cX12_areSame 20 = .ok (.istore_n 3, 1) := by decide +kernel
theorem dX12_areSame_21 : decode cX12_areSame 21 = .ok (.iconst 0, 1) := by decide +kernel
theorem dX12_areSame_22 : decode cX12_areSame 22 = .ok (.istore 4, 2) := by decide +kernel
theorem dX12_areSame_24 : decode cX12_areSame 24 = .ok (.iload 4, 2) := by decide +kernel
theorem dX12_areSame_26 : decode cX12_areSame 26 = .ok (.aload_n 0, 1) := by decide +kernel
theorem dX12_areSame_27 : decode cX12_areSame 27 = .ok (.getfield 125, 3) := by decide +kernel
theorem dX12_areSame_30 : decode cX12_areSame 30 = .ok (.iload_n 1, 1) := by decide +kernel
theorem dX12_areSame_31 : decode cX12_areSame 31 = .ok (.iaload, 1) := by decide +kernel
theorem dX12_areSame_32 : decode cX12_areSame 32 = .ok (.if_icmp .ge 48, 3) := by decide +kernel
theorem dX12_areSame_35 : decode cX12_areSame 35 = .ok (.iload_n 3, 1) := by decide +kernel
theorem dX12_areSame_36 : decode cX12_areSame 36 = .ok (.ifCond .eq 44, 3) := by decide +kernel
theorem dX12_areSame_39 : decode cX12_areSame 39 = .ok (.aload_n 0, 1) := by decide +kernel
theorem dX12_areSame_40 : decode cX12_areSame 40 = .ok (.getfield 129, 3) := by decide +kernel
theorem dX12_areSame_43 : decode cX12_areSame 43 = .ok (.sipush 150, 3) := by decide +kernel
theorem dX12_areSame_46 : decode cX12_areSame 46 = .ok (.iload_n 1, 1) := by decide +kernel
theorem dX12_areSame_47 : decode cX12_areSame 47 = .ok (.imul, 1) := by decide +kernel
theorem dX12_areSame_48 : decode cX12_areSame 48 = .ok (.iload 4, 2) := by decide +kernel
theorem dX12_areSame_50 : decode cX12_areSame 50 = .ok (.iadd, 1) := by decide +kernel
theorem dX12_areSame_51 : decode cX12_areSame 51 = .ok (.iaload, 1) := by decide +kernel
theorem dX12_areSame_52 : decode cX12_areSame 52 = .ok (.aload_n 0, 1) := by decide +kernel
theorem dX12_areSame_53 : decode cX12_areSame 53 = .ok (.getfield 129, 3) := by decide +kernel
theorem dX12_areSame_56 : decode cX12_areSame 56 = .ok (.sipush 150, 3) := by decide +kernel
theorem dX12_areSame_59 : decode cX12_areSame 59 = .ok (.iload_n 2, 1) := by decide +kernel
theorem dX12_areSame_60 : decode cX12_areSame 60 = .ok (.imul, 1) := by decide +kernel
theorem dX12_areSame_61 : decode cX12_areSame 61 = .ok (.iload 4, 2) := by decide +kernel
theorem dX12_areSame_63 : decode cX12_areSame 63 = .ok (.iadd, 1) := by decide +kernel
theorem dX12_areSame_64 : decode cX12_areSame 64 = .ok (.iaload, 1) := by decide +kernel
theorem dX12_areSame_65 : decode cX12_areSame 65 = .ok (.if_icmp .ne 7, 3) := by decide +kernel
theorem dX12_areSame_68 : decode cX12_areSame 68 = .ok (.iconst 1, 1) := by decide +kernel
theorem dX12_areSame_69 : decode cX12_areSame 69 = .ok (.goto 4, 3) := by decide +kernel
theorem dX12_areSame_72 : decode cX12_areSame 72 = .ok (.iconst 0, 1) := by decide +kernel
theorem dX12_areSame_73 : decode cX12_areSame 73 = .ok (.istore_n 3, 1) := by decide +kernel
theorem dX12_areSame_74 : decode cX12_areSame 74 = .ok (.iinc 4 1, 3) := by decide +kernel
theorem dX12_areSame_77 : decode cX12_areSame 77 = .ok (.goto (-53), 3) := by decide +kernel
theorem dX12_areSame_80 : decode cX12_areSame 80 = .ok (.iload_n 3, 1) := by decide +kernel
theorem dX12_areSame_81 : decode cX12_areSame 81 = .ok (.ireturn, 1) := by decide +kernel
theorem dX12_sumOf_0 : decode cX12_sumOf 0 = .ok (.iconst 0, 1) := by decide +kernel
theorem dX12_sumOf_1 : decode cX12_sumOf 1 = .ok (.istore_n 2, 1) := by decide +kernel
theorem dX12_sumOf_2 : decode cX12_sumOf 2 = .ok (.iconst 1, 1) := by decide +kernel
theorem dX12_sumOf_3 : decode cX12_sumOf 3 = .ok (.istore_n 3, 1) := by decide +kernel
theorem dX12_sumOf_4 : decode cX12_sumOf 4 = .ok (.iload_n 3, 1) := by decide +kernel
theorem dX12_sumOf_5 : decode cX12_sumOf 5 = .ok (.aload_n 0, 1) := by decide +kernel
theorem dX12_sumOf_6 : decode cX12_sumOf 6 = .ok (.getfield 141, 3) := by decide +kernel
theorem dX12_sumOf_9 : decode cX12_sumOf 9 = .ok (.iload_n 1, 1) := by decide +kernel
theorem dX12_sumOf_10 : decode cX12_sumOf 10 = .ok (.iaload, 1) := by decide +kernel
theorem dX12_sumOf_11 : decode cX12_sumOf 11 = .ok (.if_icmp .gt 82, 3) := by decide +kernel
theorem dX12_sumOf_14 : decode cX12_sumOf 14 = .ok (.aload_n 0, 1) := by decide +kernel
theorem dX12_sumOf_15 : decode cX12_sumOf 15 = .ok (.getfield 316, 3) := by decide +kernel
theorem dX12_sumOf_18 : decode cX12_sumOf 18 = .ok (.ifCond .ne 75, 3) := by decide +kernel
theorem dX12_sumOf_21 : decode cX12_sumOf 21 = .ok (.aload_n 0, 1) := by decide +kernel
theorem dX12_sumOf_22 : decode cX12_sumOf 22 = .ok (.iload_n 1, 1) := by decide +kernel
theorem dX12_sumOf_23 : decode cX12_sumOf 23 = .ok (.iload_n 3, 1) := by decide +kernel
theorem dX12_sumOf_24 : decode cX12_sumOf 24 = .ok (.invokevirtual 319, 3) := by decide +kernel
theorem dX12_sumOf_27 : decode cX12_sumOf 27 = .ok (.istore 4, 2) := by decide +kernel
theorem dX12_sumOf_29 : decode cX12_sumOf 29 = .ok (.iconst 0, 1) := by decide +kernel
theorem dX12_sumOf_30 : decode cX12_sumOf 30 = .ok (.istore 5, 2) := by decide +kernel
theorem dX12_sumOf_32 : decode cX12_sumOf 32 = .ok (.iload 5, 2) := by decide +kernel
theorem dX12_sumOf_34 : decode cX12_sumOf 34 = .ok (.aload_n 0, 1) := by decide +kernel
theorem dX12_sumOf_35 : decode cX12_sumOf 35 = .ok (.getfield 125, 3) := by decide +kernel
theorem dX12_sumOf_38 : decode cX12_sumOf 38 = .ok (.iload 4, 2) := by decide +kernel
theorem dX12_sumOf_40 : decode cX12_sumOf 40 = .ok (.iaload, 1) := by decide +kernel
theorem dX12_sumOf_41 : decode cX12_sumOf 41 = .ok (.if_icmp .ge 46, 3) := by decide +kernel
theorem dX12_sumOf_44 : decode cX12_sumOf 44 = .ok (.aload_n 0, 1) := by decide +kernel
theorem dX12_sumOf_45 : decode cX12_sumOf 45 = .ok (.getfield 129, 3) := by decide +kernel
theorem dX12_sumOf_48 : decode cX12_sumOf 48 = .ok (.sipush 150, 3) := by decide +kernel
theorem dX12_sumOf_51 : decode cX12_sumOf 51 = .ok (.iload 4, 2) := by decide +kernel
theorem dX12_sumOf_53 : decode cX12_sumOf 53 = .ok (.imul, 1) := by decide +kernel
theorem dX12_sumOf_54 : decode cX12_sumOf 54 = .ok (.iload 5, 2) := by decide +kernel
theorem dX12_sumOf_56 : decode cX12_sumOf 56 = .ok (.iadd, 1) := by decide +kernel
theorem dX12_sumOf_57 : decode cX12_sumOf 57 = .ok (.iaload, 1) := by decide +kernel
theorem dX12_sumOf_58 : decode cX12_sumOf 58 = .ok (.istore 6, 2) := by decide +kernel
theorem dX12_sumOf_60 : decode cX12_sumOf 60 = .ok (.iload 6, 2) := by decide +kernel
theorem dX12_sumOf_62 : decode cX12_sumOf 62 = .ok (.sipush 1000, 3) := by decide +kernel
theorem dX12_sumOf_65 : decode cX12_sumOf 65 = .ok (.if_icmp .ge 14, 3) := by decide +kernel
theorem dX12_sumOf_68 : decode cX12_sumOf 68 = .ok (.iload_n 2, 1) := by decide +kernel
theorem dX12_sumOf_69 : decode cX12_sumOf 69 = .ok (.iload 6, 2) := by decide +kernel
theorem dX12_sumOf_71 : decode cX12_sumOf 71 = .ok (.iadd, 1) := by decide +kernel
theorem dX12_sumOf_72 : decode cX12_sumOf 72 = .ok (.sipush 1000, 3) := by decide +kernel
theorem dX12_sumOf_75 : decode cX12_sumOf 75 = .ok (.irem, 1) := by decide +kernel
theorem dX12_sumOf_76 : decode cX12_sumOf 76 = .ok (.goto 4, 3) := by decide +kernel
theorem dX12_sumOf_79 : decode cX12_sumOf 79 = .ok (.iload_n 2, 1) := by decide +kernel
theorem dX12_sumOf_80 : decode cX12_sumOf 80 = .ok (.istore_n 2, 1) := by decide +kernel
theorem dX12_sumOf_81 : decode cX12_sumOf 81 = .ok (.iinc 5 1, 3) := by decide +kernel
theorem dX12_sumOf_84 : decode cX12_sumOf 84 = .ok (.goto (-52), 3) := by decide +kernel
theorem dX12_sumOf_87 : decode cX12_sumOf 87 = .ok (.iinc 3 1, 3) := by decide +kernel
theorem dX12_sumOf_90 : decode cX12_sumOf 90 = .ok (.goto (-86), 3) := by decide +kernel
theorem dX12_sumOf_93 : decode cX12_sumOf 93 = .ok (.iload_n 2, 1) := by decide +kernel
theorem dX12_sumOf_94 : decode cX12_sumOf 94 = .ok (.ireturn, 1) := by decide +kernel
theorem dX12_countOf_0 : decode cX12_countOf 0 = .ok (.iconst 0, 1) := by decide +kernel
theorem dX12_countOf_1 : decode cX12_countOf 1 = .ok (.istore_n 1, 1) := by decide +kernel
theorem dX12_countOf_2 : decode cX12_countOf 2 = .ok (.iload_n 0, 1) := by decide +kernel
theorem dX12_countOf_3 : decode cX12_countOf 3 = .ok (.istore_n 2, 1) := by decide +kernel
theorem dX12_countOf_4 : decode cX12_countOf 4 = .ok (.iload_n 2, 1) := by decide +kernel
theorem dX12_countOf_5 : decode cX12_countOf 5 = .ok (.ifCond .le 16, 3) := by decide +kernel
theorem dX12_countOf_8 : decode cX12_countOf 8 = .ok (.iload_n 1, 1) := by decide +kernel
theorem dX12_countOf_9 : decode cX12_countOf 9 = .ok (.iload_n 2, 1) := by decide +kernel
theorem dX12_countOf_10 : decode cX12_countOf 10 = .ok (.iconst 1, 1) := by decide +kernel
theorem dX12_countOf_11 : decode cX12_countOf 11 = .ok (.iand, 1) := by decide +kernel
theorem dX12_countOf_12 : decode cX12_countOf 12 = .ok (.iadd, 1) := by decide +kernel
theorem dX12_countOf_13 : decode cX12_countOf 13 = .ok (.istore_n 1, 1) := by decide +kernel
theorem dX12_countOf_14 : decode cX12_countOf 14 = .ok (.iload_n 2, 1) := by decide +kernel
