theorem d_O_init_0 : decode b_O_init 0 = .ok (.aload_n 0, 1) := by decide +kernel
theorem d_O_init_1 : decode b_O_init 1 = .ok (.invokespecial 3, 3) := by decide +kernel
theorem d_O_init_4 : decode b_O_init 4 = .ok (.aload_n 0, 1) := by decide +kernel
theorem d_O_init_5 : decode b_O_init 5 = .ok (.bipush 40, 2) := by decide +kernel
theorem d_O_init_7 : decode b_O_init 7 = .ok (.newarray .int, 2) := by decide +kernel
theorem d_O_init_9 : decode b_O_init 9 = .ok (.putfield 9, 3) := by decide +kernel
theorem d_O_init_12 : decode b_O_init 12 = .ok (.aload_n 0, 1) := by decide +kernel
theorem d_O_init_13 : decode b_O_init 13 = .ok (.iconst 0, 1) := by decide +kernel
theorem d_O_init_14 : decode b_O_init 14 = .ok (.putfield 15, 3) := by decide +kernel
theorem d_O_init_17 : decode b_O_init 17 = .ok (.aload_n 0, 1) := by decide +kernel
theorem d_O_init_18 : decode b_O_init 18 = .ok (.iconst 1, 1) := by decide +kernel
theorem d_O_init_19 : decode b_O_init 19 = .ok (.putfield 19, 3) := by decide +kernel
theorem d_O_init_22 : decode b_O_init 22 = .ok (.return_, 1) := by decide +kernel
theorem d_O_size_0 : decode b_O_size 0 = .ok (.aload_n 0, 1) := by decide +kernel
theorem d_O_size_1 : decode b_O_size 1 = .ok (.getfield 15, 3) := by decide +kernel
theorem d_O_size_4 : decode b_O_size 4 = .ok (.ireturn, 1) := by decide +kernel
theorem d_O_isFlat_0 : decode b_O_isFlat 0 = .ok (.aload_n 0, 1) := by decide +kernel
theorem d_O_isFlat_1 : decode b_O_isFlat 1 = .ok (.getfield 19, 3) := by decide +kernel
theorem d_O_isFlat_4 : decode b_O_isFlat 4 = .ok (.ireturn, 1) := by decide +kernel
theorem d_O_at_0 : decode b_O_at 0 = .ok (.aload_n 0, 1) := by decide +kernel
theorem d_O_at_1 : decode b_O_at 1 = .ok (.getfield 9, 3) := by decide +kernel
theorem d_O_at_4 : decode b_O_at 4 = .ok (.iload_n 1, 1) := by decide +kernel
theorem d_O_at_5 : decode b_O_at 5 = .ok (.iaload, 1) := by decide +kernel
theorem d_O_at_6 : decode b_O_at 6 = .ok (.ireturn, 1) := by decide +kernel
theorem d_O_trace_0 : decode b_O_trace 0 = .ok (.aload_n 0, 1) := by decide +kernel
theorem d_O_trace_1 : decode b_O_trace 1 = .ok (.iconst 0, 1) := by decide +kernel
theorem d_O_trace_2 : decode b_O_trace 2 = .ok (.putfield 15, 3) := by decide +kernel
theorem d_O_trace_5 : decode b_O_trace 5 = .ok (.aload_n 0, 1) := by decide +kernel
theorem d_O_trace_6 : decode b_O_trace 6 = .ok (.aload_n 1, 1) := by decide +kernel
theorem d_O_trace_7 : decode b_O_trace 7 = .ok (.invokestatic 23, 3) := by decide +kernel
theorem d_O_trace_10 : decode b_O_trace 10 = .ok (.putfield 19, 3) := by decide +kernel
theorem d_O_trace_13 : decode b_O_trace 13 = .ok (.aload_n 1, 1) := by decide +kernel
theorem d_O_trace_14 : decode b_O_trace 14 = .ok (.invokevirtual 27, 3) := by decide +kernel
theorem d_O_trace_17 : decode b_O_trace 17 = .ok (.iconst 1, 1) := by decide +kernel
theorem d_O_trace_18 : decode b_O_trace 18 = .ok (.isub, 1) := by decide +kernel
theorem d_O_trace_19 : decode b_O_trace 19 = .ok (.istore_n 2, 1) := by decide +kernel
theorem d_O_trace_20 : decode b_O_trace 20 = .ok (.iconst 0, 1) := by decide +kernel
theorem d_O_trace_21 : decode b_O_trace 21 = .ok (.istore_n 3, 1) := by decide +kernel
theorem d_O_trace_22 : decode b_O_trace 22 = .ok (.iload_n 3, 1) := by decide +kernel
theorem d_O_trace_23 : decode b_O_trace 23 = .ok (.iload_n 2, 1) := by decide +kernel
theorem d_O_trace_24 : decode b_O_trace 24 = .ok (.if_icmp .gt 19, 3) := by decide +kernel
theorem d_O_trace_27 : decode b_O_trace 27 = .ok (.aload_n 0, 1) := by decide +kernel
theorem d_O_trace_28 : decode b_O_trace 28 = .ok (.aload_n 1, 1) := by decide +kernel
theorem d_O_trace_29 : decode b_O_trace 29 = .ok (.aload_n 1, 1) := by decide +kernel
theorem d_O_trace_30 : decode b_O_trace 30 = .ok (.iload_n 3, 1) := by decide +kernel
theorem d_O_trace_31 : decode b_O_trace 31 = .ok (.invokevirtual 32, 3) := by decide +kernel
theorem d_O_trace_34 : decode b_O_trace 34 = .ok (.invokevirtual 36, 3) := by decide +kernel
theorem d_O_trace_37 : decode b_O_trace 37 = .ok (.iinc 3 1, 3) := by decide +kernel
theorem d_O_trace_40 : decode b_O_trace 40 = .ok (.goto (-18), 3) := by decide +kernel
theorem d_O_trace_43 : decode b_O_trace 43 = .ok (.aload_n 0, 1) := by decide +kernel
theorem d_O_trace_44 : decode b_O_trace 44 = .ok (.getfield 19, 3) := by decide +kernel
theorem d_O_trace_47 : decode b_O_trace 47 = .ok (.ifCond .eq 4, 3) := by decide +kernel
theorem d_O_trace_50 : decode b_O_trace 50 = .ok (.return_, 1) := by decide +kernel
theorem d_O_trace_51 : decode b_O_trace 51 = .ok (.iload_n 2, 1) := by decide +kernel
theorem d_O_trace_52 : decode b_O_trace 52 = .ok (.iconst 1, 1) := by decide +kernel
theorem d_O_trace_53 : decode b_O_trace 53 = .ok (.isub, 1) := by decide +kernel
theorem d_O_trace_54 : decode b_O_trace 54 = .ok (.istore_n 3, 1) := by decide +kernel
theorem d_O_trace_55 : decode b_O_trace 55 = .ok (.iload_n 3, 1) := by decide +kernel
theorem d_O_trace_56 : decode b_O_trace 56 = .ok (.ifCond .lt 19, 3) := by decide +kernel
theorem d_O_trace_59 : decode b_O_trace 59 = .ok (.aload_n 0, 1) := by decide +kernel
theorem d_O_trace_60 : decode b_O_trace 60 = .ok (.aload_n 1, 1) := by decide +kernel
theorem d_O_trace_61 : decode b_O_trace 61 = .ok (.aload_n 1, 1) := by decide +kernel
theorem d_O_trace_62 : decode b_O_trace 62 = .ok (.iload_n 3, 1) := by decide +kernel
theorem d_O_trace_63 : decode b_O_trace 63 = .ok (.invokevirtual 32, 3) := by decide +kernel
theorem d_O_trace_66 : decode b_O_trace 66 = .ok (.invokevirtual 36, 3) := by decide +kernel
theorem d_O_trace_69 : decode b_O_trace 69 = .ok (.iinc 3 (-1), 3) := by decide +kernel
theorem d_O_trace_72 : decode b_O_trace 72 = .ok (.goto (-17), 3) := by decide +kernel
theorem d_O_trace_75 : decode b_O_trace 75 = .ok (.aload_n 0, 1) := by decide +kernel
theorem d_O_trace_76 : decode b_O_trace 76 = .ok (.dup, 1) := by decide +kernel
theorem d_O_trace_77 : decode b_O_trace 77 = .ok (.getfield 15, 3) := by decide +kernel
theorem d_O_trace_80 : decode b_O_trace 80 = .ok (.iconst 1, 1) := by decide +kernel
theorem d_O_trace_81 : decode b_O_trace 81 = .ok (.isub, 1) := by decide +kernel
theorem d_O_trace_82 : decode b_O_trace 82 = .ok (.putfield 15, 3) := by decide +kernel
theorem d_O_trace_85 : decode b_O_trace 85 = .ok (.return_, 1) := by decide +kernel
theorem d_O_allOnOneLine_0 : decode b_O_allOnOneLine 0 = .ok (.iconst 2, 1) := by decide +kernel
theorem d_O_allOnOneLine_1 : decode b_O_allOnOneLine 1 = .ok (.istore_n 1, 1) := by decide +kernel
theorem d_O_allOnOneLine_2 : decode b_O_allOnOneLine 2 = .ok (.iload_n 1, 1) := by decide +kernel
theorem d_O_allOnOneLine_3 : decode b_O_allOnOneLine 3 = .ok (.aload_n 0, 1) := by decide +kernel
theorem d_O_allOnOneLine_4 : decode b_O_allOnOneLine 4 = .ok (.invokevirtual 27, 3) := by decide +kernel
theorem d_O_allOnOneLine_7 : decode b_O_allOnOneLine 7 = .ok (.if_icmp .ge 33, 3) := by decide +kernel
theorem d_O_allOnOneLine_10 : decode b_O_allOnOneLine 10 = .ok (.aload_n 0, 1) := by decide +kernel
theorem d_O_allOnOneLine_11 : decode b_O_allOnOneLine 11 = .ok (.aload_n 0, 1) := by decide +kernel
theorem d_O_allOnOneLine_12 : decode b_O_allOnOneLine 12 = .ok (.iconst 0, 1) := by decide +kernel
theorem d_O_allOnOneLine_13 : decode b_O_allOnOneLine 13 = .ok (.invokevirtual 32, 3) := by decide +kernel
theorem d_O_allOnOneLine_16 : decode b_O_allOnOneLine 16 = .ok (.aload_n 0, 1) := by decide +kernel
theorem d_O_allOnOneLine_17 : decode b_O_allOnOneLine 17 = .ok (.iconst 1, 1) := by decide +kernel
theorem d_O_allOnOneLine_18 : decode b_O_allOnOneLine 18 = .ok (.invokevirtual 32, 3) := by decide +kernel
theorem d_O_allOnOneLine_21 : decode b_O_allOnOneLine 21 = .ok (.aload_n 0, 1) := by decide +kernel
theorem d_O_allOnOneLine_22 : decode b_O_allOnOneLine 22 = .ok (.iload_n 1, 1) := by decide +kernel
theorem d_O_allOnOneLine_23 : decode b_O_allOnOneLine 23 = .ok (.invokevirtual 32, 3) := by decide +kernel
theorem d_O_allOnOneLine_26 : decode b_O_allOnOneLine 26 = .ok (.invokevirtual 40, 3) := by decide +kernel
theorem d_O_allOnOneLine_29 : decode b_O_allOnOneLine 29 = .ok (.ifCond .eq 5, 3) := by decide +kernel
theorem d_O_allOnOneLine_32 : decode b_O_allOnOneLine 32 = .ok (.iconst 0, 1) := by decide +kernel
theorem d_O_allOnOneLine_33 : decode b_O_allOnOneLine 33 = .ok (.ireturn, 1) := by decide +kernel
theorem d_O_allOnOneLine_34 : decode b_O_allOnOneLine 34 = .ok (.iinc 1 1, 3) := by decide +kernel
theorem d_O_allOnOneLine_37 : decode b_O_allOnOneLine 37 = .ok (.goto (-35), 3) := by decide +kernel
theorem d_O_allOnOneLine_40 : decode b_O_allOnOneLine 40 = .ok (.iconst 1, 1) := by decide +kernel
theorem d_O_allOnOneLine_41 : decode b_O_allOnOneLine 41 = .ok (.ireturn, 1) := by decide +kernel
theorem d_O_push_0 : decode b_O_push 0 = .ok (.aload_n 0, 1) := by decide +kernel
theorem d_O_push_1 : decode b_O_push 1 = .ok (.getfield 15, 3) := by decide +kernel
theorem d_O_push_4 : decode b_O_push 4 = .ok (.iconst 2, 1) := by decide +kernel
theorem d_O_push_5 : decode b_O_push 5 = .ok (.if_icmp .lt 46, 3) := by decide +kernel
theorem d_O_push_8 : decode b_O_push 8 = .ok (.aload_n 1, 1) := by decide +kernel
theorem d_O_push_9 : decode b_O_push 9 = .ok (.aload_n 0, 1) := by decide +kernel
theorem d_O_push_10 : decode b_O_push 10 = .ok (.getfield 9, 3) := by decide +kernel
theorem d_O_push_13 : decode b_O_push 13 = .ok (.aload_n 0, 1) := by decide +kernel
theorem d_O_push_14 : decode b_O_push 14 = .ok (.getfield 15, 3) := by decide +kernel
theorem d_O_push_17 : decode b_O_push 17 = .ok (.iconst 2, 1) := by decide +kernel
theorem d_O_push_18 : decode b_O_push 18 = .ok (.isub, 1) := by decide +kernel
theorem d_O_push_19 : decode b_O_push 19 = .ok (.iaload, 1) := by decide +kernel
theorem d_O_push_20 : decode b_O_push 20 = .ok (.aload_n 0, 1) := by decide +kernel
theorem d_O_push_21 : decode b_O_push 21 = .ok (.getfield 9, 3) := by decide +kernel
theorem d_O_push_24 : decode b_O_push 24 = .ok (.aload_n 0, 1) := by decide +kernel
theorem d_O_push_25 : decode b_O_push 25 = .ok (.getfield 15, 3) := by decide +kernel
theorem d_O_push_28 : decode b_O_push 28 = .ok (.iconst 1, 1) := by decide +kernel
theorem d_O_push_29 : decode b_O_push 29 = .ok (.isub, 1) := by decide +kernel
theorem d_O_push_30 : decode b_O_push 30 = .ok (.iaload, 1) := by decide +kernel
theorem d_O_push_31 : decode b_O_push 31 = .ok (.iload_n 2, 1) := by decide +kernel
theorem d_O_push_32 : decode b_O_push 32 = .ok (.invokevirtual 40, 3) := by decide +kernel
theorem d_O_push_35 : decode b_O_push 35 = .ok (.ifCond .ge 16, 3) := by decide +kernel
theorem d_O_push_38 : decode b_O_push 38 = .ok (.aload_n 0, 1) := by decide +kernel
theorem d_O_push_39 : decode b_O_push 39 = .ok (.dup, 1) := by decide +kernel
theorem d_O_push_40 : decode b_O_push 40 = .ok (.getfield 15, 3) := by decide +kernel
theorem d_O_push_43 : decode b_O_push 43 = .ok (.iconst 1, 1) := by decide +kernel
theorem d_O_push_44 : decode b_O_push 44 = .ok (.isub, 1) := by decide +kernel
theorem d_O_push_45 : decode b_O_push 45 = .ok (.putfield 15, 3) := by decide +kernel
theorem d_O_push_48 : decode b_O_push 48 = .ok (.goto (-48), 3) := by decide +kernel
theorem d_O_push_51 : decode b_O_push 51 = .ok (.aload_n 0, 1) := by decide +kernel
theorem d_O_push_52 : decode b_O_push 52 = .ok (.getfield 15, 3) := by decide +kernel
theorem d_O_push_55 : decode b_O_push 55 = .ok (.aload_n 0, 1) := by decide +kernel
theorem d_O_push_56 : decode b_O_push 56 = .ok (.getfield 9, 3) := by decide +kernel
theorem d_O_push_59 : decode b_O_push 59 = .ok (.arraylength, 1) := by decide +kernel
theorem d_O_push_60 : decode b_O_push 60 = .ok (.if_icmp .ge 23, 3) := by decide +kernel
theorem d_O_push_63 : decode b_O_push 63 = .ok (.aload_n 0, 1) := by decide +kernel
theorem d_O_push_64 : decode b_O_push 64 = .ok (.getfield 9, 3) := by decide +kernel
theorem d_O_push_67 : decode b_O_push 67 = .ok (.aload_n 0, 1) := by decide +kernel
theorem d_O_push_68 : decode b_O_push 68 = .ok (.getfield 15, 3) := by decide +kernel
theorem d_O_push_71 : decode b_O_push 71 = .ok (.iload_n 2, 1) := by decide +kernel
theorem d_O_push_72 : decode b_O_push 72 = .ok (.iastore, 1) := by decide +kernel
theorem d_O_push_73 : decode b_O_push 73 = .ok (.aload_n 0, 1) := by decide +kernel
theorem d_O_push_74 : decode b_O_push 74 = .ok (.dup, 1) := by decide +kernel
theorem d_O_push_75 : decode b_O_push 75 = .ok (.getfield 15, 3) := by decide +kernel
theorem d_O_push_78 : decode b_O_push 78 = .ok (.iconst 1, 1) := by decide +kernel
theorem d_O_push_79 : decode b_O_push 79 = .ok (.iadd, 1) := by decide +kernel
theorem d_O_push_80 : decode b_O_push 80 = .ok (.putfield 15, 3) := by decide +kernel
theorem d_O_push_83 : decode b_O_push 83 = .ok (.return_, 1) := by decide +kernel
theorem d_J_fill_0 : decode b_J_fill 0 = .ok (.iconst 0, 1) := by decide +kernel
theorem d_J_fill_1 : decode b_J_fill 1 = .ok (.istore_n 2, 1) := by decide +kernel
theorem d_J_fill_2 : decode b_J_fill 2 = .ok (.aload_n 0, 1) := by decide +kernel
theorem d_J_fill_3 : decode b_J_fill 3 = .ok (.arraylength, 1) := by decide +kernel
theorem d_J_fill_4 : decode b_J_fill 4 = .ok (.istore_n 3, 1) := by decide +kernel
theorem d_J_fill_5 : decode b_J_fill 5 = .ok (.iload_n 2, 1) := by decide +kernel
theorem d_J_fill_6 : decode b_J_fill 6 = .ok (.iload_n 3, 1) := by decide +kernel
theorem d_J_fill_7 : decode b_J_fill 7 = .ok (.if_icmp .ge 13, 3) := by decide +kernel
theorem d_J_fill_10 : decode b_J_fill 10 = .ok (.aload_n 0, 1) := by decide +kernel
theorem d_J_fill_11 : decode b_J_fill 11 = .ok (.iload_n 2, 1) := by decide +kernel
theorem d_J_fill_12 : decode b_J_fill 12 = .ok (.iload_n 1, 1) := by decide +kernel
theorem d_J_fill_13 : decode b_J_fill 13 = .ok (.iastore, 1) := by decide +kernel
theorem d_J_fill_14 : decode b_J_fill 14 = .ok (.iinc 2 1, 3) := by decide +kernel
theorem d_J_fill_17 : decode b_J_fill 17 = .ok (.goto (-12), 3) := by decide +kernel
theorem d_J_fill_20 : decode b_J_fill 20 = .ok (.return_, 1) := by decide +kernel
