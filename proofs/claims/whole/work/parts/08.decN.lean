theorem d_N_init_0 : decode b_N_init 0 = .ok (.aload_n 0, 1) := by decide +kernel
theorem d_N_init_1 : decode b_N_init 1 = .ok (.invokespecial 1, 3) := by decide +kernel
theorem d_N_init_4 : decode b_N_init 4 = .ok (.aload_n 0, 1) := by decide +kernel
theorem d_N_init_5 : decode b_N_init 5 = .ok (.bipush 20, 2) := by decide +kernel
theorem d_N_init_7 : decode b_N_init 7 = .ok (.newarray .boolean, 2) := by decide +kernel
theorem d_N_init_9 : decode b_N_init 9 = .ok (.putfield 7, 3) := by decide +kernel
theorem d_N_init_12 : decode b_N_init 12 = .ok (.aload_n 0, 1) := by decide +kernel
theorem d_N_init_13 : decode b_N_init 13 = .ok (.bipush 20, 2) := by decide +kernel
theorem d_N_init_15 : decode b_N_init 15 = .ok (.newarray .int, 2) := by decide +kernel
theorem d_N_init_17 : decode b_N_init 17 = .ok (.putfield 13, 3) := by decide +kernel
theorem d_N_init_20 : decode b_N_init 20 = .ok (.aload_n 0, 1) := by decide +kernel
theorem d_N_init_21 : decode b_N_init 21 = .ok (.bipush 20, 2) := by decide +kernel
theorem d_N_init_23 : decode b_N_init 23 = .ok (.newarray .int, 2) := by decide +kernel
theorem d_N_init_25 : decode b_N_init 25 = .ok (.putfield 17, 3) := by decide +kernel
theorem d_N_init_28 : decode b_N_init 28 = .ok (.aload_n 0, 1) := by decide +kernel
theorem d_N_init_29 : decode b_N_init 29 = .ok (.bipush 40, 2) := by decide +kernel
theorem d_N_init_31 : decode b_N_init 31 = .ok (.newarray .int, 2) := by decide +kernel
theorem d_N_init_33 : decode b_N_init 33 = .ok (.putfield 20, 3) := by decide +kernel
theorem d_N_init_36 : decode b_N_init 36 = .ok (.aload_n 0, 1) := by decide +kernel
theorem d_N_init_37 : decode b_N_init 37 = .ok (.bipush 40, 2) := by decide +kernel
theorem d_N_init_39 : decode b_N_init 39 = .ok (.newarray .int, 2) := by decide +kernel
theorem d_N_init_41 : decode b_N_init 41 = .ok (.putfield 23, 3) := by decide +kernel
theorem d_N_init_44 : decode b_N_init 44 = .ok (.aload_n 0, 1) := by decide +kernel
theorem d_N_init_45 : decode b_N_init 45 = .ok (.bipush 40, 2) := by decide +kernel
theorem d_N_init_47 : decode b_N_init 47 = .ok (.newarray .int, 2) := by decide +kernel
theorem d_N_init_49 : decode b_N_init 49 = .ok (.putfield 26, 3) := by decide +kernel
theorem d_N_init_52 : decode b_N_init 52 = .ok (.aload_n 0, 1) := by decide +kernel
theorem d_N_init_53 : decode b_N_init 53 = .ok (.bipush 20, 2) := by decide +kernel
theorem d_N_init_55 : decode b_N_init 55 = .ok (.newarray .int, 2) := by decide +kernel
theorem d_N_init_57 : decode b_N_init 57 = .ok (.putfield 29, 3) := by decide +kernel
theorem d_N_init_60 : decode b_N_init 60 = .ok (.return_, 1) := by decide +kernel
theorem d_N_is_0 : decode b_N_is 0 = .ok (.iload_n 1, 1) := by decide +kernel
theorem d_N_is_1 : decode b_N_is 1 = .ok (.ifCond .lt 22, 3) := by decide +kernel
theorem d_N_is_4 : decode b_N_is 4 = .ok (.iload_n 1, 1) := by decide +kernel
theorem d_N_is_5 : decode b_N_is 5 = .ok (.bipush 20, 2) := by decide +kernel
theorem d_N_is_7 : decode b_N_is 7 = .ok (.if_icmp .ge 16, 3) := by decide +kernel
theorem d_N_is_10 : decode b_N_is 10 = .ok (.aload_n 0, 1) := by decide +kernel
theorem d_N_is_11 : decode b_N_is 11 = .ok (.getfield 7, 3) := by decide +kernel
theorem d_N_is_14 : decode b_N_is 14 = .ok (.iload_n 1, 1) := by decide +kernel
theorem d_N_is_15 : decode b_N_is 15 = .ok (.baload, 1) := by decide +kernel
theorem d_N_is_16 : decode b_N_is 16 = .ok (.ifCond .eq 7, 3) := by decide +kernel
theorem d_N_is_19 : decode b_N_is 19 = .ok (.iconst 1, 1) := by decide +kernel
theorem d_N_is_20 : decode b_N_is 20 = .ok (.goto 4, 3) := by decide +kernel
theorem d_N_is_23 : decode b_N_is 23 = .ok (.iconst 0, 1) := by decide +kernel
theorem d_N_is_24 : decode b_N_is 24 = .ok (.ireturn, 1) := by decide +kernel
theorem d_N_outside_0 : decode b_N_outside 0 = .ok (.iload_n 0, 1) := by decide +kernel
theorem d_N_outside_1 : decode b_N_outside 1 = .ok (.ldc 32, 2) := by decide +kernel
theorem d_N_outside_3 : decode b_N_outside 3 = .ok (.if_icmp .lt 21, 3) := by decide +kernel
theorem d_N_outside_6 : decode b_N_outside 6 = .ok (.iload_n 0, 1) := by decide +kernel
theorem d_N_outside_7 : decode b_N_outside 7 = .ok (.ldc 33, 2) := by decide +kernel
theorem d_N_outside_9 : decode b_N_outside 9 = .ok (.if_icmp .gt 15, 3) := by decide +kernel
theorem d_N_outside_12 : decode b_N_outside 12 = .ok (.iload_n 1, 1) := by decide +kernel
theorem d_N_outside_13 : decode b_N_outside 13 = .ok (.ldc 32, 2) := by decide +kernel
theorem d_N_outside_15 : decode b_N_outside 15 = .ok (.if_icmp .lt 9, 3) := by decide +kernel
theorem d_N_outside_18 : decode b_N_outside 18 = .ok (.iload_n 1, 1) := by decide +kernel
theorem d_N_outside_19 : decode b_N_outside 19 = .ok (.ldc 33, 2) := by decide +kernel
theorem d_N_outside_21 : decode b_N_outside 21 = .ok (.if_icmp .le 7, 3) := by decide +kernel
theorem d_N_outside_24 : decode b_N_outside 24 = .ok (.iconst 1, 1) := by decide +kernel
theorem d_N_outside_25 : decode b_N_outside 25 = .ok (.goto 4, 3) := by decide +kernel
theorem d_N_outside_28 : decode b_N_outside 28 = .ok (.iconst 0, 1) := by decide +kernel
theorem d_N_outside_29 : decode b_N_outside 29 = .ok (.ireturn, 1) := by decide +kernel
theorem d_N_siteAt_0 : decode b_N_siteAt 0 = .ok (.iconst (-1), 1) := by decide +kernel
theorem d_N_siteAt_1 : decode b_N_siteAt 1 = .ok (.istore_n 3, 1) := by decide +kernel
theorem d_N_siteAt_2 : decode b_N_siteAt 2 = .ok (.iconst 0, 1) := by decide +kernel
theorem d_N_siteAt_3 : decode b_N_siteAt 3 = .ok (.istore 4, 2) := by decide +kernel
theorem d_N_siteAt_5 : decode b_N_siteAt 5 = .ok (.iload 4, 2) := by decide +kernel
theorem d_N_siteAt_7 : decode b_N_siteAt 7 = .ok (.bipush 20, 2) := by decide +kernel
theorem d_N_siteAt_9 : decode b_N_siteAt 9 = .ok (.if_icmp .ge 48, 3) := by decide +kernel
theorem d_N_siteAt_12 : decode b_N_siteAt 12 = .ok (.aload_n 0, 1) := by decide +kernel
theorem d_N_siteAt_13 : decode b_N_siteAt 13 = .ok (.getfield 7, 3) := by decide +kernel
theorem d_N_siteAt_16 : decode b_N_siteAt 16 = .ok (.iload 4, 2) := by decide +kernel
theorem d_N_siteAt_18 : decode b_N_siteAt 18 = .ok (.baload, 1) := by decide +kernel
theorem d_N_siteAt_19 : decode b_N_siteAt 19 = .ok (.ifCond .eq 30, 3) := by decide +kernel
theorem d_N_siteAt_22 : decode b_N_siteAt 22 = .ok (.aload_n 0, 1) := by decide +kernel
theorem d_N_siteAt_23 : decode b_N_siteAt 23 = .ok (.getfield 13, 3) := by decide +kernel
theorem d_N_siteAt_26 : decode b_N_siteAt 26 = .ok (.iload 4, 2) := by decide +kernel
theorem d_N_siteAt_28 : decode b_N_siteAt 28 = .ok (.iaload, 1) := by decide +kernel
theorem d_N_siteAt_29 : decode b_N_siteAt 29 = .ok (.iload_n 1, 1) := by decide +kernel
theorem d_N_siteAt_30 : decode b_N_siteAt 30 = .ok (.if_icmp .ne 19, 3) := by decide +kernel
theorem d_N_siteAt_33 : decode b_N_siteAt 33 = .ok (.aload_n 0, 1) := by decide +kernel
theorem d_N_siteAt_34 : decode b_N_siteAt 34 = .ok (.getfield 17, 3) := by decide +kernel
theorem d_N_siteAt_37 : decode b_N_siteAt 37 = .ok (.iload 4, 2) := by decide +kernel
theorem d_N_siteAt_39 : decode b_N_siteAt 39 = .ok (.iaload, 1) := by decide +kernel
theorem d_N_siteAt_40 : decode b_N_siteAt 40 = .ok (.iload_n 2, 1) := by decide +kernel
theorem d_N_siteAt_41 : decode b_N_siteAt 41 = .ok (.if_icmp .ne 8, 3) := by decide +kernel
theorem d_N_siteAt_44 : decode b_N_siteAt 44 = .ok (.iload 4, 2) := by decide +kernel
theorem d_N_siteAt_46 : decode b_N_siteAt 46 = .ok (.goto 4, 3) := by decide +kernel
theorem d_N_siteAt_49 : decode b_N_siteAt 49 = .ok (.iload_n 3, 1) := by decide +kernel
theorem d_N_siteAt_50 : decode b_N_siteAt 50 = .ok (.istore_n 3, 1) := by decide +kernel
theorem d_N_siteAt_51 : decode b_N_siteAt 51 = .ok (.iinc 4 1, 3) := by decide +kernel
theorem d_N_siteAt_54 : decode b_N_siteAt 54 = .ok (.goto (-49), 3) := by decide +kernel
theorem d_N_siteAt_57 : decode b_N_siteAt 57 = .ok (.iload_n 3, 1) := by decide +kernel
theorem d_N_siteAt_58 : decode b_N_siteAt 58 = .ok (.ireturn, 1) := by decide +kernel
theorem d_N_insert_0 : decode b_N_insert 0 = .ok (.iload_n 1, 1) := by decide +kernel
theorem d_N_insert_1 : decode b_N_insert 1 = .ok (.iload_n 2, 1) := by decide +kernel
theorem d_N_insert_2 : decode b_N_insert 2 = .ok (.invokestatic 34, 3) := by decide +kernel
theorem d_N_insert_5 : decode b_N_insert 5 = .ok (.ifCond .eq 6, 3) := by decide +kernel
theorem d_N_insert_8 : decode b_N_insert 8 = .ok (.bipush (-2), 2) := by decide +kernel
theorem d_N_insert_10 : decode b_N_insert 10 = .ok (.ireturn, 1) := by decide +kernel
theorem d_N_insert_11 : decode b_N_insert 11 = .ok (.aload_n 0, 1) := by decide +kernel
theorem d_N_insert_12 : decode b_N_insert 12 = .ok (.iload_n 1, 1) := by decide +kernel
theorem d_N_insert_13 : decode b_N_insert 13 = .ok (.iload_n 2, 1) := by decide +kernel
theorem d_N_insert_14 : decode b_N_insert 14 = .ok (.invokevirtual 38, 3) := by decide +kernel
theorem d_N_insert_17 : decode b_N_insert 17 = .ok (.ifCond .lt 6, 3) := by decide +kernel
theorem d_N_insert_20 : decode b_N_insert 20 = .ok (.bipush (-3), 2) := by decide +kernel
theorem d_N_insert_22 : decode b_N_insert 22 = .ok (.ireturn, 1) := by decide +kernel
theorem d_N_insert_23 : decode b_N_insert 23 = .ok (.iconst 0, 1) := by decide +kernel
theorem d_N_insert_24 : decode b_N_insert 24 = .ok (.istore_n 3, 1) := by decide +kernel
theorem d_N_insert_25 : decode b_N_insert 25 = .ok (.iload_n 3, 1) := by decide +kernel
theorem d_N_insert_26 : decode b_N_insert 26 = .ok (.bipush 20, 2) := by decide +kernel
theorem d_N_insert_28 : decode b_N_insert 28 = .ok (.if_icmp .ge 46, 3) := by decide +kernel
theorem d_N_insert_31 : decode b_N_insert 31 = .ok (.aload_n 0, 1) := by decide +kernel
theorem d_N_insert_32 : decode b_N_insert 32 = .ok (.getfield 7, 3) := by decide +kernel
theorem d_N_insert_35 : decode b_N_insert 35 = .ok (.iload_n 3, 1) := by decide +kernel
theorem d_N_insert_36 : decode b_N_insert 36 = .ok (.baload, 1) := by decide +kernel
theorem d_N_insert_37 : decode b_N_insert 37 = .ok (.ifCond .ne 31, 3) := by decide +kernel
theorem d_N_insert_40 : decode b_N_insert 40 = .ok (.aload_n 0, 1) := by decide +kernel
theorem d_N_insert_41 : decode b_N_insert 41 = .ok (.getfield 7, 3) := by decide +kernel
theorem d_N_insert_44 : decode b_N_insert 44 = .ok (.iload_n 3, 1) := by decide +kernel
theorem d_N_insert_45 : decode b_N_insert 45 = .ok (.iconst 1, 1) := by decide +kernel
theorem d_N_insert_46 : decode b_N_insert 46 = .ok (.bastore, 1) := by decide +kernel
theorem d_N_insert_47 : decode b_N_insert 47 = .ok (.aload_n 0, 1) := by decide +kernel
theorem d_N_insert_48 : decode b_N_insert 48 = .ok (.getfield 13, 3) := by decide +kernel
theorem d_N_insert_51 : decode b_N_insert 51 = .ok (.iload_n 3, 1) := by decide +kernel
theorem d_N_insert_52 : decode b_N_insert 52 = .ok (.iload_n 1, 1) := by decide +kernel
theorem d_N_insert_53 : decode b_N_insert 53 = .ok (.iastore, 1) := by decide +kernel
theorem d_N_insert_54 : decode b_N_insert 54 = .ok (.aload_n 0, 1) := by decide +kernel
theorem d_N_insert_55 : decode b_N_insert 55 = .ok (.getfield 17, 3) := by decide +kernel
theorem d_N_insert_58 : decode b_N_insert 58 = .ok (.iload_n 3, 1) := by decide +kernel
theorem d_N_insert_59 : decode b_N_insert 59 = .ok (.iload_n 2, 1) := by decide +kernel
theorem d_N_insert_60 : decode b_N_insert 60 = .ok (.iastore, 1) := by decide +kernel
theorem d_N_insert_61 : decode b_N_insert 61 = .ok (.aload_n 0, 1) := by decide +kernel
theorem d_N_insert_62 : decode b_N_insert 62 = .ok (.iconst 0, 1) := by decide +kernel
theorem d_N_insert_63 : decode b_N_insert 63 = .ok (.putfield 42, 3) := by decide +kernel
theorem d_N_insert_66 : decode b_N_insert 66 = .ok (.iload_n 3, 1) := by decide +kernel
theorem d_N_insert_67 : decode b_N_insert 67 = .ok (.ireturn, 1) := by decide +kernel
theorem d_N_insert_68 : decode b_N_insert 68 = .ok (.iinc 3 1, 3) := by decide +kernel
theorem d_N_insert_71 : decode b_N_insert 71 = .ok (.goto (-46), 3) := by decide +kernel
theorem d_N_insert_74 : decode b_N_insert 74 = .ok (.bipush (-4), 2) := by decide +kernel
theorem d_N_insert_76 : decode b_N_insert 76 = .ok (.ireturn, 1) := by decide +kernel
theorem d_N_remove_0 : decode b_N_remove 0 = .ok (.aload_n 0, 1) := by decide +kernel
theorem d_N_remove_1 : decode b_N_remove 1 = .ok (.iload_n 1, 1) := by decide +kernel
theorem d_N_remove_2 : decode b_N_remove 2 = .ok (.invokevirtual 46, 3) := by decide +kernel
theorem d_N_remove_5 : decode b_N_remove 5 = .ok (.ifCond .ne 5, 3) := by decide +kernel
theorem d_N_remove_8 : decode b_N_remove 8 = .ok (.iconst 0, 1) := by decide +kernel
theorem d_N_remove_9 : decode b_N_remove 9 = .ok (.ireturn, 1) := by decide +kernel
theorem d_N_remove_10 : decode b_N_remove 10 = .ok (.aload_n 0, 1) := by decide +kernel
theorem d_N_remove_11 : decode b_N_remove 11 = .ok (.getfield 7, 3) := by decide +kernel
theorem d_N_remove_14 : decode b_N_remove 14 = .ok (.iload_n 1, 1) := by decide +kernel
theorem d_N_remove_15 : decode b_N_remove 15 = .ok (.iconst 0, 1) := by decide +kernel
theorem d_N_remove_16 : decode b_N_remove 16 = .ok (.bastore, 1) := by decide +kernel
theorem d_N_remove_17 : decode b_N_remove 17 = .ok (.aload_n 0, 1) := by decide +kernel
theorem d_N_remove_18 : decode b_N_remove 18 = .ok (.iconst 0, 1) := by decide +kernel
theorem d_N_remove_19 : decode b_N_remove 19 = .ok (.putfield 42, 3) := by decide +kernel
theorem d_N_remove_22 : decode b_N_remove 22 = .ok (.iconst 1, 1) := by decide +kernel
theorem d_N_remove_23 : decode b_N_remove 23 = .ok (.ireturn, 1) := by decide +kernel
theorem d_N_move_0 : decode b_N_move 0 = .ok (.aload_n 0, 1) := by decide +kernel
theorem d_N_move_1 : decode b_N_move 1 = .ok (.iload_n 1, 1) := by decide +kernel
theorem d_N_move_2 : decode b_N_move 2 = .ok (.invokevirtual 46, 3) := by decide +kernel
theorem d_N_move_5 : decode b_N_move 5 = .ok (.ifCond .ne 5, 3) := by decide +kernel
theorem d_N_move_8 : decode b_N_move 8 = .ok (.iconst (-1), 1) := by decide +kernel
theorem d_N_move_9 : decode b_N_move 9 = .ok (.ireturn, 1) := by decide +kernel
theorem d_N_move_10 : decode b_N_move 10 = .ok (.iload_n 2, 1) := by decide +kernel
theorem d_N_move_11 : decode b_N_move 11 = .ok (.iload_n 3, 1) := by decide +kernel
theorem d_N_move_12 : decode b_N_move 12 = .ok (.invokestatic 34, 3) := by decide +kernel
theorem d_N_move_15 : decode b_N_move 15 = .ok (.ifCond .eq 6, 3) := by decide +kernel
theorem d_N_move_18 : decode b_N_move 18 = .ok (.bipush (-2), 2) := by decide +kernel
theorem d_N_move_20 : decode b_N_move 20 = .ok (.ireturn, 1) := by decide +kernel
theorem d_N_move_21 : decode b_N_move 21 = .ok (.aload_n 0, 1) := by decide +kernel
theorem d_N_move_22 : decode b_N_move 22 = .ok (.iload_n 2, 1) := by decide +kernel
theorem d_N_move_23 : decode b_N_move 23 = .ok (.iload_n 3, 1) := by decide +kernel
theorem d_N_move_24 : decode b_N_move 24 = .ok (.invokevirtual 38, 3) := by decide +kernel
theorem d_N_move_27 : decode b_N_move 27 = .ok (.istore 4, 2) := by decide +kernel
theorem d_N_move_29 : decode b_N_move 29 = .ok (.iload 4, 2) := by decide +kernel
theorem d_N_move_31 : decode b_N_move 31 = .ok (.ifCond .lt 12, 3) := by decide +kernel
theorem d_N_move_34 : decode b_N_move 34 = .ok (.iload 4, 2) := by decide +kernel
theorem d_N_move_36 : decode b_N_move 36 = .ok (.iload_n 1, 1) := by decide +kernel
theorem d_N_move_37 : decode b_N_move 37 = .ok (.if_icmp .eq 6, 3) := by decide +kernel
theorem d_N_move_40 : decode b_N_move 40 = .ok (.bipush (-3), 2) := by decide +kernel
theorem d_N_move_42 : decode b_N_move 42 = .ok (.ireturn, 1) := by decide +kernel
theorem d_N_move_43 : decode b_N_move 43 = .ok (.aload_n 0, 1) := by decide +kernel
theorem d_N_move_44 : decode b_N_move 44 = .ok (.getfield 13, 3) := by decide +kernel
theorem d_N_move_47 : decode b_N_move 47 = .ok (.iload_n 1, 1) := by decide +kernel
theorem d_N_move_48 : decode b_N_move 48 = .ok (.iload_n 2, 1) := by decide +kernel
theorem d_N_move_49 : decode b_N_move 49 = .ok (.iastore, 1) := by decide +kernel
theorem d_N_move_50 : decode b_N_move 50 = .ok (.aload_n 0, 1) := by decide +kernel
theorem d_N_move_51 : decode b_N_move 51 = .ok (.getfield 17, 3) := by decide +kernel
theorem d_N_move_54 : decode b_N_move 54 = .ok (.iload_n 1, 1) := by decide +kernel
theorem d_N_move_55 : decode b_N_move 55 = .ok (.iload_n 3, 1) := by decide +kernel
theorem d_N_move_56 : decode b_N_move 56 = .ok (.iastore, 1) := by decide +kernel
theorem d_N_move_57 : decode b_N_move 57 = .ok (.aload_n 0, 1) := by decide +kernel
theorem d_N_move_58 : decode b_N_move 58 = .ok (.iconst 0, 1) := by decide +kernel
theorem d_N_move_59 : decode b_N_move 59 = .ok (.putfield 42, 3) := by decide +kernel
theorem d_N_move_62 : decode b_N_move 62 = .ok (.iload_n 1, 1) := by decide +kernel
theorem d_N_move_63 : decode b_N_move 63 = .ok (.ireturn, 1) := by decide +kernel
theorem d_N_sites_0 : decode b_N_sites 0 = .ok (.iconst 0, 1) := by decide +kernel
theorem d_N_sites_1 : decode b_N_sites 1 = .ok (.istore_n 1, 1) := by decide +kernel
theorem d_N_sites_2 : decode b_N_sites 2 = .ok (.iconst 0, 1) := by decide +kernel
theorem d_N_sites_3 : decode b_N_sites 3 = .ok (.istore_n 2, 1) := by decide +kernel
theorem d_N_sites_4 : decode b_N_sites 4 = .ok (.iload_n 2, 1) := by decide +kernel
theorem d_N_sites_5 : decode b_N_sites 5 = .ok (.bipush 20, 2) := by decide +kernel
theorem d_N_sites_7 : decode b_N_sites 7 = .ok (.if_icmp .ge 26, 3) := by decide +kernel
theorem d_N_sites_10 : decode b_N_sites 10 = .ok (.iload_n 1, 1) := by decide +kernel
theorem d_N_sites_11 : decode b_N_sites 11 = .ok (.aload_n 0, 1) := by decide +kernel
theorem d_N_sites_12 : decode b_N_sites 12 = .ok (.getfield 7, 3) := by decide +kernel
theorem d_N_sites_15 : decode b_N_sites 15 = .ok (.iload_n 2, 1) := by decide +kernel
theorem d_N_sites_16 : decode b_N_sites 16 = .ok (.baload, 1) := by decide +kernel
theorem d_N_sites_17 : decode b_N_sites 17 = .ok (.ifCond .eq 7, 3) := by decide +kernel
theorem d_N_sites_20 : decode b_N_sites 20 = .ok (.iconst 1, 1) := by decide +kernel
theorem d_N_sites_21 : decode b_N_sites 21 = .ok (.goto 4, 3) := by decide +kernel
theorem d_N_sites_24 : decode b_N_sites 24 = .ok (.iconst 0, 1) := by decide +kernel
theorem d_N_sites_25 : decode b_N_sites 25 = .ok (.iadd, 1) := by decide +kernel
theorem d_N_sites_26 : decode b_N_sites 26 = .ok (.istore_n 1, 1) := by decide +kernel
theorem d_N_sites_27 : decode b_N_sites 27 = .ok (.iinc 2 1, 3) := by decide +kernel
theorem d_N_sites_30 : decode b_N_sites 30 = .ok (.goto (-26), 3) := by decide +kernel
theorem d_N_sites_33 : decode b_N_sites 33 = .ok (.iload_n 1, 1) := by decide +kernel
theorem d_N_sites_34 : decode b_N_sites 34 = .ok (.ireturn, 1) := by decide +kernel
theorem d_N_coordinate_0 : decode b_N_coordinate 0 = .ok (.aload_n 0, 1) := by decide +kernel
theorem d_N_coordinate_1 : decode b_N_coordinate 1 = .ok (.iload_n 1, 1) := by decide +kernel
theorem d_N_coordinate_2 : decode b_N_coordinate 2 = .ok (.invokevirtual 46, 3) := by decide +kernel
theorem d_N_coordinate_5 : decode b_N_coordinate 5 = .ok (.ifCond .eq 12, 3) := by decide +kernel
theorem d_N_coordinate_8 : decode b_N_coordinate 8 = .ok (.iload_n 2, 1) := by decide +kernel
theorem d_N_coordinate_9 : decode b_N_coordinate 9 = .ok (.ifCond .lt 8, 3) := by decide +kernel
theorem d_N_coordinate_12 : decode b_N_coordinate 12 = .ok (.iload_n 2, 1) := by decide +kernel
theorem d_N_coordinate_13 : decode b_N_coordinate 13 = .ok (.iconst 1, 1) := by decide +kernel
theorem d_N_coordinate_14 : decode b_N_coordinate 14 = .ok (.if_icmp .le 8, 3) := by decide +kernel
theorem d_N_coordinate_17 : decode b_N_coordinate 17 = .ok (.ldc 50, 2) := by decide +kernel
theorem d_N_coordinate_19 : decode b_N_coordinate 19 = .ok (.goto 22, 3) := by decide +kernel
theorem d_N_coordinate_22 : decode b_N_coordinate 22 = .ok (.iload_n 2, 1) := by decide +kernel
theorem d_N_coordinate_23 : decode b_N_coordinate 23 = .ok (.ifCond .ne 12, 3) := by decide +kernel
theorem d_N_coordinate_26 : decode b_N_coordinate 26 = .ok (.aload_n 0, 1) := by decide +kernel
theorem d_N_coordinate_27 : decode b_N_coordinate 27 = .ok (.getfield 13, 3) := by decide +kernel
theorem d_N_coordinate_30 : decode b_N_coordinate 30 = .ok (.iload_n 1, 1) := by decide +kernel
theorem d_N_coordinate_31 : decode b_N_coordinate 31 = .ok (.iaload, 1) := by decide +kernel
theorem d_N_coordinate_32 : decode b_N_coordinate 32 = .ok (.goto 9, 3) := by decide +kernel
theorem d_N_coordinate_35 : decode b_N_coordinate 35 = .ok (.aload_n 0, 1) := by decide +kernel
theorem d_N_coordinate_36 : decode b_N_coordinate 36 = .ok (.getfield 17, 3) := by decide +kernel
theorem d_N_coordinate_39 : decode b_N_coordinate 39 = .ok (.iload_n 1, 1) := by decide +kernel
theorem d_N_coordinate_40 : decode b_N_coordinate 40 = .ok (.iaload, 1) := by decide +kernel
theorem d_N_coordinate_41 : decode b_N_coordinate 41 = .ok (.ireturn, 1) := by decide +kernel
theorem d_N_earlier_0 : decode b_N_earlier 0 = .ok (.aload_n 0, 1) := by decide +kernel
theorem d_N_earlier_1 : decode b_N_earlier 1 = .ok (.getfield 13, 3) := by decide +kernel
theorem d_N_earlier_4 : decode b_N_earlier 4 = .ok (.iload_n 1, 1) := by decide +kernel
theorem d_N_earlier_5 : decode b_N_earlier 5 = .ok (.iaload, 1) := by decide +kernel
theorem d_N_earlier_6 : decode b_N_earlier 6 = .ok (.aload_n 0, 1) := by decide +kernel
theorem d_N_earlier_7 : decode b_N_earlier 7 = .ok (.getfield 13, 3) := by decide +kernel
theorem d_N_earlier_10 : decode b_N_earlier 10 = .ok (.iload_n 2, 1) := by decide +kernel
theorem d_N_earlier_11 : decode b_N_earlier 11 = .ok (.iaload, 1) := by decide +kernel
theorem d_N_earlier_12 : decode b_N_earlier 12 = .ok (.if_icmp .lt 33, 3) := by decide +kernel
theorem d_N_earlier_15 : decode b_N_earlier 15 = .ok (.aload_n 0, 1) := by decide +kernel
theorem d_N_earlier_16 : decode b_N_earlier 16 = .ok (.getfield 13, 3) := by decide +kernel
theorem d_N_earlier_19 : decode b_N_earlier 19 = .ok (.iload_n 1, 1) := by decide +kernel
theorem d_N_earlier_20 : decode b_N_earlier 20 = .ok (.iaload, 1) := by decide +kernel
theorem d_N_earlier_21 : decode b_N_earlier 21 = .ok (.aload_n 0, 1) := by decide +kernel
theorem d_N_earlier_22 : decode b_N_earlier 22 = .ok (.getfield 13, 3) := by decide +kernel
theorem d_N_earlier_25 : decode b_N_earlier 25 = .ok (.iload_n 2, 1) := by decide +kernel
theorem d_N_earlier_26 : decode b_N_earlier 26 = .ok (.iaload, 1) := by decide +kernel
theorem d_N_earlier_27 : decode b_N_earlier 27 = .ok (.if_icmp .ne 22, 3) := by decide +kernel
theorem d_N_earlier_30 : decode b_N_earlier 30 = .ok (.aload_n 0, 1) := by decide +kernel
theorem d_N_earlier_31 : decode b_N_earlier 31 = .ok (.getfield 17, 3) := by decide +kernel
theorem d_N_earlier_34 : decode b_N_earlier 34 = .ok (.iload_n 1, 1) := by decide +kernel
theorem d_N_earlier_35 : decode b_N_earlier 35 = .ok (.iaload, 1) := by decide +kernel
theorem d_N_earlier_36 : decode b_N_earlier 36 = .ok (.aload_n 0, 1) := by decide +kernel
theorem d_N_earlier_37 : decode b_N_earlier 37 = .ok (.getfield 17, 3) := by decide +kernel
theorem d_N_earlier_40 : decode b_N_earlier 40 = .ok (.iload_n 2, 1) := by decide +kernel
theorem d_N_earlier_41 : decode b_N_earlier 41 = .ok (.iaload, 1) := by decide +kernel
theorem d_N_earlier_42 : decode b_N_earlier 42 = .ok (.if_icmp .ge 7, 3) := by decide +kernel
theorem d_N_earlier_45 : decode b_N_earlier 45 = .ok (.iconst 1, 1) := by decide +kernel
theorem d_N_earlier_46 : decode b_N_earlier 46 = .ok (.goto 4, 3) := by decide +kernel
theorem d_N_earlier_49 : decode b_N_earlier 49 = .ok (.iconst 0, 1) := by decide +kernel
theorem d_N_earlier_50 : decode b_N_earlier 50 = .ok (.ireturn, 1) := by decide +kernel
theorem d_N_sideOf_0 : decode b_N_sideOf 0 = .ok (.aload_n 0, 1) := by decide +kernel
theorem d_N_sideOf_1 : decode b_N_sideOf 1 = .ok (.getfield 13, 3) := by decide +kernel
theorem d_N_sideOf_4 : decode b_N_sideOf 4 = .ok (.iload_n 2, 1) := by decide +kernel
theorem d_N_sideOf_5 : decode b_N_sideOf 5 = .ok (.iaload, 1) := by decide +kernel
theorem d_N_sideOf_6 : decode b_N_sideOf 6 = .ok (.aload_n 0, 1) := by decide +kernel
theorem d_N_sideOf_7 : decode b_N_sideOf 7 = .ok (.getfield 13, 3) := by decide +kernel
theorem d_N_sideOf_10 : decode b_N_sideOf 10 = .ok (.iload_n 1, 1) := by decide +kernel
theorem d_N_sideOf_11 : decode b_N_sideOf 11 = .ok (.iaload, 1) := by decide +kernel
theorem d_N_sideOf_12 : decode b_N_sideOf 12 = .ok (.isub, 1) := by decide +kernel
theorem d_N_sideOf_13 : decode b_N_sideOf 13 = .ok (.i2l, 1) := by decide +kernel
theorem d_N_sideOf_14 : decode b_N_sideOf 14 = .ok (.iload 4, 2) := by decide +kernel
theorem d_N_sideOf_16 : decode b_N_sideOf 16 = .ok (.aload_n 0, 1) := by decide +kernel
theorem d_N_sideOf_17 : decode b_N_sideOf 17 = .ok (.getfield 17, 3) := by decide +kernel
theorem d_N_sideOf_20 : decode b_N_sideOf 20 = .ok (.iload_n 1, 1) := by decide +kernel
theorem d_N_sideOf_21 : decode b_N_sideOf 21 = .ok (.iaload, 1) := by decide +kernel
theorem d_N_sideOf_22 : decode b_N_sideOf 22 = .ok (.isub, 1) := by decide +kernel
theorem d_N_sideOf_23 : decode b_N_sideOf 23 = .ok (.i2l, 1) := by decide +kernel
theorem d_N_sideOf_24 : decode b_N_sideOf 24 = .ok (.lmul, 1) := by decide +kernel
theorem d_N_sideOf_25 : decode b_N_sideOf 25 = .ok (.aload_n 0, 1) := by decide +kernel
theorem d_N_sideOf_26 : decode b_N_sideOf 26 = .ok (.getfield 17, 3) := by decide +kernel
theorem d_N_sideOf_29 : decode b_N_sideOf 29 = .ok (.iload_n 2, 1) := by decide +kernel
theorem d_N_sideOf_30 : decode b_N_sideOf 30 = .ok (.iaload, 1) := by decide +kernel
theorem d_N_sideOf_31 : decode b_N_sideOf 31 = .ok (.aload_n 0, 1) := by decide +kernel
theorem d_N_sideOf_32 : decode b_N_sideOf 32 = .ok (.getfield 17, 3) := by decide +kernel
theorem d_N_sideOf_35 : decode b_N_sideOf 35 = .ok (.iload_n 1, 1) := by decide +kernel
theorem d_N_sideOf_36 : decode b_N_sideOf 36 = .ok (.iaload, 1) := by decide +kernel
theorem d_N_sideOf_37 : decode b_N_sideOf 37 = .ok (.isub, 1) := by decide +kernel
theorem d_N_sideOf_38 : decode b_N_sideOf 38 = .ok (.i2l, 1) := by decide +kernel
theorem d_N_sideOf_39 : decode b_N_sideOf 39 = .ok (.iload_n 3, 1) := by decide +kernel
theorem d_N_sideOf_40 : decode b_N_sideOf 40 = .ok (.aload_n 0, 1) := by decide +kernel
theorem d_N_sideOf_41 : decode b_N_sideOf 41 = .ok (.getfield 13, 3) := by decide +kernel
theorem d_N_sideOf_44 : decode b_N_sideOf 44 = .ok (.iload_n 1, 1) := by decide +kernel
theorem d_N_sideOf_45 : decode b_N_sideOf 45 = .ok (.iaload, 1) := by decide +kernel
theorem d_N_sideOf_46 : decode b_N_sideOf 46 = .ok (.isub, 1) := by decide +kernel
theorem d_N_sideOf_47 : decode b_N_sideOf 47 = .ok (.i2l, 1) := by decide +kernel
theorem d_N_sideOf_48 : decode b_N_sideOf 48 = .ok (.lmul, 1) := by decide +kernel
theorem d_N_sideOf_49 : decode b_N_sideOf 49 = .ok (.lsub, 1) := by decide +kernel
theorem d_N_sideOf_50 : decode b_N_sideOf 50 = .ok (.lstore 5, 2) := by decide +kernel
theorem d_N_sideOf_52 : decode b_N_sideOf 52 = .ok (.lload 5, 2) := by decide +kernel
theorem d_N_sideOf_54 : decode b_N_sideOf 54 = .ok (.lconst 0, 1) := by decide +kernel
theorem d_N_sideOf_55 : decode b_N_sideOf 55 = .ok (.lcmp, 1) := by decide +kernel
theorem d_N_sideOf_56 : decode b_N_sideOf 56 = .ok (.ifCond .le 7, 3) := by decide +kernel
theorem d_N_sideOf_59 : decode b_N_sideOf 59 = .ok (.iconst 1, 1) := by decide +kernel
theorem d_N_sideOf_60 : decode b_N_sideOf 60 = .ok (.goto 15, 3) := by decide +kernel
theorem d_N_sideOf_63 : decode b_N_sideOf 63 = .ok (.lload 5, 2) := by decide +kernel
theorem d_N_sideOf_65 : decode b_N_sideOf 65 = .ok (.lconst 0, 1) := by decide +kernel
theorem d_N_sideOf_66 : decode b_N_sideOf 66 = .ok (.lcmp, 1) := by decide +kernel
theorem d_N_sideOf_67 : decode b_N_sideOf 67 = .ok (.ifCond .ge 7, 3) := by decide +kernel
theorem d_N_sideOf_70 : decode b_N_sideOf 70 = .ok (.iconst (-1), 1) := by decide +kernel
theorem d_N_sideOf_71 : decode b_N_sideOf 71 = .ok (.goto 4, 3) := by decide +kernel
theorem d_N_sideOf_74 : decode b_N_sideOf 74 = .ok (.iconst 0, 1) := by decide +kernel
theorem d_N_sideOf_75 : decode b_N_sideOf 75 = .ok (.ireturn, 1) := by decide +kernel
theorem d_N_side_0 : decode b_N_side 0 = .ok (.aload_n 0, 1) := by decide +kernel
theorem d_N_side_1 : decode b_N_side 1 = .ok (.iload_n 1, 1) := by decide +kernel
theorem d_N_side_2 : decode b_N_side 2 = .ok (.iload_n 2, 1) := by decide +kernel
theorem d_N_side_3 : decode b_N_side 3 = .ok (.aload_n 0, 1) := by decide +kernel
theorem d_N_side_4 : decode b_N_side 4 = .ok (.getfield 13, 3) := by decide +kernel
theorem d_N_side_7 : decode b_N_side 7 = .ok (.iload_n 3, 1) := by decide +kernel
theorem d_N_side_8 : decode b_N_side 8 = .ok (.iaload, 1) := by decide +kernel
theorem d_N_side_9 : decode b_N_side 9 = .ok (.aload_n 0, 1) := by decide +kernel
theorem d_N_side_10 : decode b_N_side 10 = .ok (.getfield 17, 3) := by decide +kernel
theorem d_N_side_13 : decode b_N_side 13 = .ok (.iload_n 3, 1) := by decide +kernel
theorem d_N_side_14 : decode b_N_side 14 = .ok (.iaload, 1) := by decide +kernel
theorem d_N_side_15 : decode b_N_side 15 = .ok (.invokevirtual 51, 3) := by decide +kernel
theorem d_N_side_18 : decode b_N_side 18 = .ok (.ireturn, 1) := by decide +kernel
theorem d_N_low_0 : decode b_N_low 0 = .ok (.lload_n 0, 1) := by decide +kernel
theorem d_N_low_1 : decode b_N_low 1 = .ok (.ldc2_w 55, 3) := by decide +kernel
theorem d_N_low_4 : decode b_N_low 4 = .ok (.land, 1) := by decide +kernel
theorem d_N_low_5 : decode b_N_low 5 = .ok (.lreturn, 1) := by decide +kernel
theorem d_N_sign_0 : decode b_N_sign 0 = .ok (.lload_n 0, 1) := by decide +kernel
theorem d_N_sign_1 : decode b_N_sign 1 = .ok (.invokestatic 57, 3) := by decide +kernel
theorem d_N_sign_4 : decode b_N_sign 4 = .ok (.lload_n 2, 1) := by decide +kernel
theorem d_N_sign_5 : decode b_N_sign 5 = .ok (.invokestatic 57, 3) := by decide +kernel
theorem d_N_sign_8 : decode b_N_sign 8 = .ok (.lmul, 1) := by decide +kernel
theorem d_N_sign_9 : decode b_N_sign 9 = .ok (.lload 4, 2) := by decide +kernel
theorem d_N_sign_11 : decode b_N_sign 11 = .ok (.invokestatic 57, 3) := by decide +kernel
theorem d_N_sign_14 : decode b_N_sign 14 = .ok (.lload 6, 2) := by decide +kernel
theorem d_N_sign_16 : decode b_N_sign 16 = .ok (.invokestatic 57, 3) := by decide +kernel
theorem d_N_sign_19 : decode b_N_sign 19 = .ok (.lmul, 1) := by decide +kernel
theorem d_N_sign_20 : decode b_N_sign 20 = .ok (.ladd, 1) := by decide +kernel
theorem d_N_sign_21 : decode b_N_sign 21 = .ok (.lload 8, 2) := by decide +kernel
theorem d_N_sign_23 : decode b_N_sign 23 = .ok (.invokestatic 57, 3) := by decide +kernel
theorem d_N_sign_26 : decode b_N_sign 26 = .ok (.lload 10, 2) := by decide +kernel
theorem d_N_sign_28 : decode b_N_sign 28 = .ok (.invokestatic 57, 3) := by decide +kernel
theorem d_N_sign_31 : decode b_N_sign 31 = .ok (.lmul, 1) := by decide +kernel
theorem d_N_sign_32 : decode b_N_sign 32 = .ok (.ladd, 1) := by decide +kernel
theorem d_N_sign_33 : decode b_N_sign 33 = .ok (.lstore 12, 2) := by decide +kernel
theorem d_N_sign_35 : decode b_N_sign 35 = .ok (.lload_n 0, 1) := by decide +kernel
theorem d_N_sign_36 : decode b_N_sign 36 = .ok (.bipush 22, 2) := by decide +kernel
theorem d_N_sign_38 : decode b_N_sign 38 = .ok (.lshr, 1) := by decide +kernel
theorem d_N_sign_39 : decode b_N_sign 39 = .ok (.lload_n 2, 1) := by decide +kernel
theorem d_N_sign_40 : decode b_N_sign 40 = .ok (.invokestatic 57, 3) := by decide +kernel
theorem d_N_sign_43 : decode b_N_sign 43 = .ok (.lmul, 1) := by decide +kernel
theorem d_N_sign_44 : decode b_N_sign 44 = .ok (.lload_n 0, 1) := by decide +kernel
theorem d_N_sign_45 : decode b_N_sign 45 = .ok (.invokestatic 57, 3) := by decide +kernel
theorem d_N_sign_48 : decode b_N_sign 48 = .ok (.lload_n 2, 1) := by decide +kernel
theorem d_N_sign_49 : decode b_N_sign 49 = .ok (.bipush 22, 2) := by decide +kernel
theorem d_N_sign_51 : decode b_N_sign 51 = .ok (.lshr, 1) := by decide +kernel
theorem d_N_sign_52 : decode b_N_sign 52 = .ok (.lmul, 1) := by decide +kernel
theorem d_N_sign_53 : decode b_N_sign 53 = .ok (.ladd, 1) := by decide +kernel
theorem d_N_sign_54 : decode b_N_sign 54 = .ok (.lstore 14, 2) := by decide +kernel
theorem d_N_sign_56 : decode b_N_sign 56 = .ok (.lload 14, 2) := by decide +kernel
theorem d_N_sign_58 : decode b_N_sign 58 = .ok (.lload 4, 2) := by decide +kernel
theorem d_N_sign_60 : decode b_N_sign 60 = .ok (.bipush 22, 2) := by decide +kernel
theorem d_N_sign_62 : decode b_N_sign 62 = .ok (.lshr, 1) := by decide +kernel
theorem d_N_sign_63 : decode b_N_sign 63 = .ok (.lload 6, 2) := by decide +kernel
theorem d_N_sign_65 : decode b_N_sign 65 = .ok (.invokestatic 57, 3) := by decide +kernel
theorem d_N_sign_68 : decode b_N_sign 68 = .ok (.lmul, 1) := by decide +kernel
theorem d_N_sign_69 : decode b_N_sign 69 = .ok (.ladd, 1) := by decide +kernel
theorem d_N_sign_70 : decode b_N_sign 70 = .ok (.lload 4, 2) := by decide +kernel
theorem d_N_sign_72 : decode b_N_sign 72 = .ok (.invokestatic 57, 3) := by decide +kernel
theorem d_N_sign_75 : decode b_N_sign 75 = .ok (.lload 6, 2) := by decide +kernel
theorem d_N_sign_77 : decode b_N_sign 77 = .ok (.bipush 22, 2) := by decide +kernel
theorem d_N_sign_79 : decode b_N_sign 79 = .ok (.lshr, 1) := by decide +kernel
theorem d_N_sign_80 : decode b_N_sign 80 = .ok (.lmul, 1) := by decide +kernel
theorem d_N_sign_81 : decode b_N_sign 81 = .ok (.ladd, 1) := by decide +kernel
theorem d_N_sign_82 : decode b_N_sign 82 = .ok (.lstore 14, 2) := by decide +kernel
theorem d_N_sign_84 : decode b_N_sign 84 = .ok (.lload 14, 2) := by decide +kernel
theorem d_N_sign_86 : decode b_N_sign 86 = .ok (.lload 8, 2) := by decide +kernel
theorem d_N_sign_88 : decode b_N_sign 88 = .ok (.bipush 22, 2) := by decide +kernel
theorem d_N_sign_90 : decode b_N_sign 90 = .ok (.lshr, 1) := by decide +kernel
theorem d_N_sign_91 : decode b_N_sign 91 = .ok (.lload 10, 2) := by decide +kernel
theorem d_N_sign_93 : decode b_N_sign 93 = .ok (.invokestatic 57, 3) := by decide +kernel
theorem d_N_sign_96 : decode b_N_sign 96 = .ok (.lmul, 1) := by decide +kernel
theorem d_N_sign_97 : decode b_N_sign 97 = .ok (.ladd, 1) := by decide +kernel
theorem d_N_sign_98 : decode b_N_sign 98 = .ok (.lload 8, 2) := by decide +kernel
theorem d_N_sign_100 : decode b_N_sign 100 = .ok (.invokestatic 57, 3) := by decide +kernel
theorem d_N_sign_103 : decode b_N_sign 103 = .ok (.lload 10, 2) := by decide +kernel
theorem d_N_sign_105 : decode b_N_sign 105 = .ok (.bipush 22, 2) := by decide +kernel
theorem d_N_sign_107 : decode b_N_sign 107 = .ok (.lshr, 1) := by decide +kernel
theorem d_N_sign_108 : decode b_N_sign 108 = .ok (.lmul, 1) := by decide +kernel
theorem d_N_sign_109 : decode b_N_sign 109 = .ok (.ladd, 1) := by decide +kernel
theorem d_N_sign_110 : decode b_N_sign 110 = .ok (.lstore 14, 2) := by decide +kernel
theorem d_N_sign_112 : decode b_N_sign 112 = .ok (.lload_n 0, 1) := by decide +kernel
theorem d_N_sign_113 : decode b_N_sign 113 = .ok (.bipush 22, 2) := by decide +kernel
theorem d_N_sign_115 : decode b_N_sign 115 = .ok (.lshr, 1) := by decide +kernel
theorem d_N_sign_116 : decode b_N_sign 116 = .ok (.lload_n 2, 1) := by decide +kernel
theorem d_N_sign_117 : decode b_N_sign 117 = .ok (.bipush 22, 2) := by decide +kernel
theorem d_N_sign_119 : decode b_N_sign 119 = .ok (.lshr, 1) := by decide +kernel
theorem d_N_sign_120 : decode b_N_sign 120 = .ok (.lmul, 1) := by decide +kernel
theorem d_N_sign_121 : decode b_N_sign 121 = .ok (.lload 4, 2) := by decide +kernel
theorem d_N_sign_123 : decode b_N_sign 123 = .ok (.bipush 22, 2) := by decide +kernel
theorem d_N_sign_125 : decode b_N_sign 125 = .ok (.lshr, 1) := by decide +kernel
theorem d_N_sign_126 : decode b_N_sign 126 = .ok (.lload 6, 2) := by decide +kernel
theorem d_N_sign_128 : decode b_N_sign 128 = .ok (.bipush 22, 2) := by decide +kernel
theorem d_N_sign_130 : decode b_N_sign 130 = .ok (.lshr, 1) := by decide +kernel
theorem d_N_sign_131 : decode b_N_sign 131 = .ok (.lmul, 1) := by decide +kernel
theorem d_N_sign_132 : decode b_N_sign 132 = .ok (.ladd, 1) := by decide +kernel
theorem d_N_sign_133 : decode b_N_sign 133 = .ok (.lload 8, 2) := by decide +kernel
theorem d_N_sign_135 : decode b_N_sign 135 = .ok (.bipush 22, 2) := by decide +kernel
theorem d_N_sign_137 : decode b_N_sign 137 = .ok (.lshr, 1) := by decide +kernel
theorem d_N_sign_138 : decode b_N_sign 138 = .ok (.lload 10, 2) := by decide +kernel
theorem d_N_sign_140 : decode b_N_sign 140 = .ok (.bipush 22, 2) := by decide +kernel
theorem d_N_sign_142 : decode b_N_sign 142 = .ok (.lshr, 1) := by decide +kernel
theorem d_N_sign_143 : decode b_N_sign 143 = .ok (.lmul, 1) := by decide +kernel
theorem d_N_sign_144 : decode b_N_sign 144 = .ok (.ladd, 1) := by decide +kernel
theorem d_N_sign_145 : decode b_N_sign 145 = .ok (.lstore 16, 2) := by decide +kernel
theorem d_N_sign_147 : decode b_N_sign 147 = .ok (.lload 14, 2) := by decide +kernel
theorem d_N_sign_149 : decode b_N_sign 149 = .ok (.lload 12, 2) := by decide +kernel
theorem d_N_sign_151 : decode b_N_sign 151 = .ok (.bipush 22, 2) := by decide +kernel
theorem d_N_sign_153 : decode b_N_sign 153 = .ok (.lshr, 1) := by decide +kernel
theorem d_N_sign_154 : decode b_N_sign 154 = .ok (.ladd, 1) := by decide +kernel
theorem d_N_sign_155 : decode b_N_sign 155 = .ok (.lstore 14, 2) := by decide +kernel
theorem d_N_sign_157 : decode b_N_sign 157 = .ok (.lload 16, 2) := by decide +kernel
theorem d_N_sign_159 : decode b_N_sign 159 = .ok (.lload 14, 2) := by decide +kernel
theorem d_N_sign_161 : decode b_N_sign 161 = .ok (.bipush 22, 2) := by decide +kernel
theorem d_N_sign_163 : decode b_N_sign 163 = .ok (.lshr, 1) := by decide +kernel
theorem d_N_sign_164 : decode b_N_sign 164 = .ok (.ladd, 1) := by decide +kernel
theorem d_N_sign_165 : decode b_N_sign 165 = .ok (.lstore 16, 2) := by decide +kernel
theorem d_N_sign_167 : decode b_N_sign 167 = .ok (.lload 12, 2) := by decide +kernel
theorem d_N_sign_169 : decode b_N_sign 169 = .ok (.invokestatic 57, 3) := by decide +kernel
theorem d_N_sign_172 : decode b_N_sign 172 = .ok (.lconst 0, 1) := by decide +kernel
theorem d_N_sign_173 : decode b_N_sign 173 = .ok (.lcmp, 1) := by decide +kernel
theorem d_N_sign_174 : decode b_N_sign 174 = .ok (.ifCond .ne 13, 3) := by decide +kernel
theorem d_N_sign_177 : decode b_N_sign 177 = .ok (.lload 14, 2) := by decide +kernel
theorem d_N_sign_179 : decode b_N_sign 179 = .ok (.invokestatic 57, 3) := by decide +kernel
theorem d_N_sign_182 : decode b_N_sign 182 = .ok (.lconst 0, 1) := by decide +kernel
theorem d_N_sign_183 : decode b_N_sign 183 = .ok (.lcmp, 1) := by decide +kernel
theorem d_N_sign_184 : decode b_N_sign 184 = .ok (.ifCond .eq 7, 3) := by decide +kernel
theorem d_N_sign_187 : decode b_N_sign 187 = .ok (.iconst 1, 1) := by decide +kernel
theorem d_N_sign_188 : decode b_N_sign 188 = .ok (.goto 4, 3) := by decide +kernel
theorem d_N_sign_191 : decode b_N_sign 191 = .ok (.iconst 0, 1) := by decide +kernel
theorem d_N_sign_192 : decode b_N_sign 192 = .ok (.istore 18, 2) := by decide +kernel
theorem d_N_sign_194 : decode b_N_sign 194 = .ok (.lload 16, 2) := by decide +kernel
theorem d_N_sign_196 : decode b_N_sign 196 = .ok (.lconst 0, 1) := by decide +kernel
theorem d_N_sign_197 : decode b_N_sign 197 = .ok (.lcmp, 1) := by decide +kernel
theorem d_N_sign_198 : decode b_N_sign 198 = .ok (.ifCond .ge 7, 3) := by decide +kernel
theorem d_N_sign_201 : decode b_N_sign 201 = .ok (.iconst (-1), 1) := by decide +kernel
theorem d_N_sign_202 : decode b_N_sign 202 = .ok (.goto 20, 3) := by decide +kernel
theorem d_N_sign_205 : decode b_N_sign 205 = .ok (.lload 16, 2) := by decide +kernel
theorem d_N_sign_207 : decode b_N_sign 207 = .ok (.lconst 0, 1) := by decide +kernel
theorem d_N_sign_208 : decode b_N_sign 208 = .ok (.lcmp, 1) := by decide +kernel
theorem d_N_sign_209 : decode b_N_sign 209 = .ok (.ifCond .gt 8, 3) := by decide +kernel
theorem d_N_sign_212 : decode b_N_sign 212 = .ok (.iload 18, 2) := by decide +kernel
theorem d_N_sign_214 : decode b_N_sign 214 = .ok (.ifCond .eq 7, 3) := by decide +kernel
theorem d_N_sign_217 : decode b_N_sign 217 = .ok (.iconst 1, 1) := by decide +kernel
theorem d_N_sign_218 : decode b_N_sign 218 = .ok (.goto 4, 3) := by decide +kernel
theorem d_N_sign_221 : decode b_N_sign 221 = .ok (.iconst 0, 1) := by decide +kernel
theorem d_N_sign_222 : decode b_N_sign 222 = .ok (.ireturn, 1) := by decide +kernel
theorem d_N_circle_0 : decode b_N_circle 0 = .ok (.aload_n 0, 1) := by decide +kernel
theorem d_N_circle_1 : decode b_N_circle 1 = .ok (.getfield 13, 3) := by decide +kernel
theorem d_N_circle_4 : decode b_N_circle 4 = .ok (.iload_n 1, 1) := by decide +kernel
theorem d_N_circle_5 : decode b_N_circle 5 = .ok (.iaload, 1) := by decide +kernel
theorem d_N_circle_6 : decode b_N_circle 6 = .ok (.aload_n 0, 1) := by decide +kernel
theorem d_N_circle_7 : decode b_N_circle 7 = .ok (.getfield 13, 3) := by decide +kernel
theorem d_N_circle_10 : decode b_N_circle 10 = .ok (.iload 4, 2) := by decide +kernel
theorem d_N_circle_12 : decode b_N_circle 12 = .ok (.iaload, 1) := by decide +kernel
theorem d_N_circle_13 : decode b_N_circle 13 = .ok (.isub, 1) := by decide +kernel
theorem d_N_circle_14 : decode b_N_circle 14 = .ok (.i2l, 1) := by decide +kernel
theorem d_N_circle_15 : decode b_N_circle 15 = .ok (.lstore 5, 2) := by decide +kernel
theorem d_N_circle_17 : decode b_N_circle 17 = .ok (.aload_n 0, 1) := by decide +kernel
theorem d_N_circle_18 : decode b_N_circle 18 = .ok (.getfield 17, 3) := by decide +kernel
theorem d_N_circle_21 : decode b_N_circle 21 = .ok (.iload_n 1, 1) := by decide +kernel
theorem d_N_circle_22 : decode b_N_circle 22 = .ok (.iaload, 1) := by decide +kernel
theorem d_N_circle_23 : decode b_N_circle 23 = .ok (.aload_n 0, 1) := by decide +kernel
theorem d_N_circle_24 : decode b_N_circle 24 = .ok (.getfield 17, 3) := by decide +kernel
theorem d_N_circle_27 : decode b_N_circle 27 = .ok (.iload 4, 2) := by decide +kernel
theorem d_N_circle_29 : decode b_N_circle 29 = .ok (.iaload, 1) := by decide +kernel
theorem d_N_circle_30 : decode b_N_circle 30 = .ok (.isub, 1) := by decide +kernel
theorem d_N_circle_31 : decode b_N_circle 31 = .ok (.i2l, 1) := by decide +kernel
theorem d_N_circle_32 : decode b_N_circle 32 = .ok (.lstore 7, 2) := by decide +kernel
theorem d_N_circle_34 : decode b_N_circle 34 = .ok (.aload_n 0, 1) := by decide +kernel
theorem d_N_circle_35 : decode b_N_circle 35 = .ok (.getfield 13, 3) := by decide +kernel
theorem d_N_circle_38 : decode b_N_circle 38 = .ok (.iload_n 2, 1) := by decide +kernel
theorem d_N_circle_39 : decode b_N_circle 39 = .ok (.iaload, 1) := by decide +kernel
theorem d_N_circle_40 : decode b_N_circle 40 = .ok (.aload_n 0, 1) := by decide +kernel
theorem d_N_circle_41 : decode b_N_circle 41 = .ok (.getfield 13, 3) := by decide +kernel
theorem d_N_circle_44 : decode b_N_circle 44 = .ok (.iload 4, 2) := by decide +kernel
theorem d_N_circle_46 : decode b_N_circle 46 = .ok (.iaload, 1) := by decide +kernel
theorem d_N_circle_47 : decode b_N_circle 47 = .ok (.isub, 1) := by decide +kernel
theorem d_N_circle_48 : decode b_N_circle 48 = .ok (.i2l, 1) := by decide +kernel
theorem d_N_circle_49 : decode b_N_circle 49 = .ok (.lstore 9, 2) := by decide +kernel
theorem d_N_circle_51 : decode b_N_circle 51 = .ok (.aload_n 0, 1) := by decide +kernel
theorem d_N_circle_52 : decode b_N_circle 52 = .ok (.getfield 17, 3) := by decide +kernel
theorem d_N_circle_55 : decode b_N_circle 55 = .ok (.iload_n 2, 1) := by decide +kernel
theorem d_N_circle_56 : decode b_N_circle 56 = .ok (.iaload, 1) := by decide +kernel
theorem d_N_circle_57 : decode b_N_circle 57 = .ok (.aload_n 0, 1) := by decide +kernel
theorem d_N_circle_58 : decode b_N_circle 58 = .ok (.getfield 17, 3) := by decide +kernel
theorem d_N_circle_61 : decode b_N_circle 61 = .ok (.iload 4, 2) := by decide +kernel
theorem d_N_circle_63 : decode b_N_circle 63 = .ok (.iaload, 1) := by decide +kernel
theorem d_N_circle_64 : decode b_N_circle 64 = .ok (.isub, 1) := by decide +kernel
theorem d_N_circle_65 : decode b_N_circle 65 = .ok (.i2l, 1) := by decide +kernel
theorem d_N_circle_66 : decode b_N_circle 66 = .ok (.lstore 11, 2) := by decide +kernel
theorem d_N_circle_68 : decode b_N_circle 68 = .ok (.aload_n 0, 1) := by decide +kernel
theorem d_N_circle_69 : decode b_N_circle 69 = .ok (.getfield 13, 3) := by decide +kernel
theorem d_N_circle_72 : decode b_N_circle 72 = .ok (.iload_n 3, 1) := by decide +kernel
theorem d_N_circle_73 : decode b_N_circle 73 = .ok (.iaload, 1) := by decide +kernel
theorem d_N_circle_74 : decode b_N_circle 74 = .ok (.aload_n 0, 1) := by decide +kernel
theorem d_N_circle_75 : decode b_N_circle 75 = .ok (.getfield 13, 3) := by decide +kernel
theorem d_N_circle_78 : decode b_N_circle 78 = .ok (.iload 4, 2) := by decide +kernel
theorem d_N_circle_80 : decode b_N_circle 80 = .ok (.iaload, 1) := by decide +kernel
theorem d_N_circle_81 : decode b_N_circle 81 = .ok (.isub, 1) := by decide +kernel
theorem d_N_circle_82 : decode b_N_circle 82 = .ok (.i2l, 1) := by decide +kernel
theorem d_N_circle_83 : decode b_N_circle 83 = .ok (.lstore 13, 2) := by decide +kernel
theorem d_N_circle_85 : decode b_N_circle 85 = .ok (.aload_n 0, 1) := by decide +kernel
theorem d_N_circle_86 : decode b_N_circle 86 = .ok (.getfield 17, 3) := by decide +kernel
theorem d_N_circle_89 : decode b_N_circle 89 = .ok (.iload_n 3, 1) := by decide +kernel
theorem d_N_circle_90 : decode b_N_circle 90 = .ok (.iaload, 1) := by decide +kernel
theorem d_N_circle_91 : decode b_N_circle 91 = .ok (.aload_n 0, 1) := by decide +kernel
theorem d_N_circle_92 : decode b_N_circle 92 = .ok (.getfield 17, 3) := by decide +kernel
theorem d_N_circle_95 : decode b_N_circle 95 = .ok (.iload 4, 2) := by decide +kernel
theorem d_N_circle_97 : decode b_N_circle 97 = .ok (.iaload, 1) := by decide +kernel
theorem d_N_circle_98 : decode b_N_circle 98 = .ok (.isub, 1) := by decide +kernel
theorem d_N_circle_99 : decode b_N_circle 99 = .ok (.i2l, 1) := by decide +kernel
theorem d_N_circle_100 : decode b_N_circle 100 = .ok (.lstore 15, 2) := by decide +kernel
theorem d_N_circle_102 : decode b_N_circle 102 = .ok (.lload 5, 2) := by decide +kernel
theorem d_N_circle_104 : decode b_N_circle 104 = .ok (.lload 5, 2) := by decide +kernel
theorem d_N_circle_106 : decode b_N_circle 106 = .ok (.lmul, 1) := by decide +kernel
theorem d_N_circle_107 : decode b_N_circle 107 = .ok (.lload 7, 2) := by decide +kernel
theorem d_N_circle_109 : decode b_N_circle 109 = .ok (.lload 7, 2) := by decide +kernel
theorem d_N_circle_111 : decode b_N_circle 111 = .ok (.lmul, 1) := by decide +kernel
theorem d_N_circle_112 : decode b_N_circle 112 = .ok (.ladd, 1) := by decide +kernel
theorem d_N_circle_113 : decode b_N_circle 113 = .ok (.lload 9, 2) := by decide +kernel
theorem d_N_circle_115 : decode b_N_circle 115 = .ok (.lload 15, 2) := by decide +kernel
theorem d_N_circle_117 : decode b_N_circle 117 = .ok (.lmul, 1) := by decide +kernel
theorem d_N_circle_118 : decode b_N_circle 118 = .ok (.lload 11, 2) := by decide +kernel
theorem d_N_circle_120 : decode b_N_circle 120 = .ok (.lload 13, 2) := by decide +kernel
theorem d_N_circle_122 : decode b_N_circle 122 = .ok (.lmul, 1) := by decide +kernel
theorem d_N_circle_123 : decode b_N_circle 123 = .ok (.lsub, 1) := by decide +kernel
theorem d_N_circle_124 : decode b_N_circle 124 = .ok (.lload 9, 2) := by decide +kernel
theorem d_N_circle_126 : decode b_N_circle 126 = .ok (.lload 9, 2) := by decide +kernel
theorem d_N_circle_128 : decode b_N_circle 128 = .ok (.lmul, 1) := by decide +kernel
theorem d_N_circle_129 : decode b_N_circle 129 = .ok (.lload 11, 2) := by decide +kernel
theorem d_N_circle_131 : decode b_N_circle 131 = .ok (.lload 11, 2) := by decide +kernel
theorem d_N_circle_133 : decode b_N_circle 133 = .ok (.lmul, 1) := by decide +kernel
theorem d_N_circle_134 : decode b_N_circle 134 = .ok (.ladd, 1) := by decide +kernel
theorem d_N_circle_135 : decode b_N_circle 135 = .ok (.lload 13, 2) := by decide +kernel
theorem d_N_circle_137 : decode b_N_circle 137 = .ok (.lload 7, 2) := by decide +kernel
theorem d_N_circle_139 : decode b_N_circle 139 = .ok (.lmul, 1) := by decide +kernel
theorem d_N_circle_140 : decode b_N_circle 140 = .ok (.lload 15, 2) := by decide +kernel
theorem d_N_circle_142 : decode b_N_circle 142 = .ok (.lload 5, 2) := by decide +kernel
theorem d_N_circle_144 : decode b_N_circle 144 = .ok (.lmul, 1) := by decide +kernel
theorem d_N_circle_145 : decode b_N_circle 145 = .ok (.lsub, 1) := by decide +kernel
theorem d_N_circle_146 : decode b_N_circle 146 = .ok (.lload 13, 2) := by decide +kernel
theorem d_N_circle_148 : decode b_N_circle 148 = .ok (.lload 13, 2) := by decide +kernel
theorem d_N_circle_150 : decode b_N_circle 150 = .ok (.lmul, 1) := by decide +kernel
theorem d_N_circle_151 : decode b_N_circle 151 = .ok (.lload 15, 2) := by decide +kernel
theorem d_N_circle_153 : decode b_N_circle 153 = .ok (.lload 15, 2) := by decide +kernel
theorem d_N_circle_155 : decode b_N_circle 155 = .ok (.lmul, 1) := by decide +kernel
theorem d_N_circle_156 : decode b_N_circle 156 = .ok (.ladd, 1) := by decide +kernel
theorem d_N_circle_157 : decode b_N_circle 157 = .ok (.lload 5, 2) := by decide +kernel
theorem d_N_circle_159 : decode b_N_circle 159 = .ok (.lload 11, 2) := by decide +kernel
theorem d_N_circle_161 : decode b_N_circle 161 = .ok (.lmul, 1) := by decide +kernel
theorem d_N_circle_162 : decode b_N_circle 162 = .ok (.lload 7, 2) := by decide +kernel
theorem d_N_circle_164 : decode b_N_circle 164 = .ok (.lload 9, 2) := by decide +kernel
theorem d_N_circle_166 : decode b_N_circle 166 = .ok (.lmul, 1) := by decide +kernel
theorem d_N_circle_167 : decode b_N_circle 167 = .ok (.lsub, 1) := by decide +kernel
theorem d_N_circle_168 : decode b_N_circle 168 = .ok (.invokestatic 61, 3) := by decide +kernel
theorem d_N_circle_171 : decode b_N_circle 171 = .ok (.ireturn, 1) := by decide +kernel
theorem d_N_isTriangle_0 : decode b_N_isTriangle 0 = .ok (.aload_n 0, 1) := by decide +kernel
theorem d_N_isTriangle_1 : decode b_N_isTriangle 1 = .ok (.getfield 7, 3) := by decide +kernel
theorem d_N_isTriangle_4 : decode b_N_isTriangle 4 = .ok (.iload_n 1, 1) := by decide +kernel
theorem d_N_isTriangle_5 : decode b_N_isTriangle 5 = .ok (.baload, 1) := by decide +kernel
theorem d_N_isTriangle_6 : decode b_N_isTriangle 6 = .ok (.ifCond .eq 50, 3) := by decide +kernel
theorem d_N_isTriangle_9 : decode b_N_isTriangle 9 = .ok (.aload_n 0, 1) := by decide +kernel
theorem d_N_isTriangle_10 : decode b_N_isTriangle 10 = .ok (.getfield 7, 3) := by decide +kernel
theorem d_N_isTriangle_13 : decode b_N_isTriangle 13 = .ok (.iload_n 2, 1) := by decide +kernel
theorem d_N_isTriangle_14 : decode b_N_isTriangle 14 = .ok (.baload, 1) := by decide +kernel
theorem d_N_isTriangle_15 : decode b_N_isTriangle 15 = .ok (.ifCond .eq 41, 3) := by decide +kernel
theorem d_N_isTriangle_18 : decode b_N_isTriangle 18 = .ok (.aload_n 0, 1) := by decide +kernel
theorem d_N_isTriangle_19 : decode b_N_isTriangle 19 = .ok (.getfield 7, 3) := by decide +kernel
theorem d_N_isTriangle_22 : decode b_N_isTriangle 22 = .ok (.iload_n 3, 1) := by decide +kernel
theorem d_N_isTriangle_23 : decode b_N_isTriangle 23 = .ok (.baload, 1) := by decide +kernel
theorem d_N_isTriangle_24 : decode b_N_isTriangle 24 = .ok (.ifCond .eq 32, 3) := by decide +kernel
theorem d_N_isTriangle_27 : decode b_N_isTriangle 27 = .ok (.aload_n 0, 1) := by decide +kernel
theorem d_N_isTriangle_28 : decode b_N_isTriangle 28 = .ok (.iload_n 1, 1) := by decide +kernel
theorem d_N_isTriangle_29 : decode b_N_isTriangle 29 = .ok (.iload_n 2, 1) := by decide +kernel
theorem d_N_isTriangle_30 : decode b_N_isTriangle 30 = .ok (.iload_n 3, 1) := by decide +kernel
theorem d_N_isTriangle_31 : decode b_N_isTriangle 31 = .ok (.invokevirtual 65, 3) := by decide +kernel
theorem d_N_isTriangle_34 : decode b_N_isTriangle 34 = .ok (.iconst 1, 1) := by decide +kernel
theorem d_N_isTriangle_35 : decode b_N_isTriangle 35 = .ok (.if_icmp .ne 21, 3) := by decide +kernel
theorem d_N_isTriangle_38 : decode b_N_isTriangle 38 = .ok (.aload_n 0, 1) := by decide +kernel
theorem d_N_isTriangle_39 : decode b_N_isTriangle 39 = .ok (.iload_n 1, 1) := by decide +kernel
theorem d_N_isTriangle_40 : decode b_N_isTriangle 40 = .ok (.iload_n 2, 1) := by decide +kernel
theorem d_N_isTriangle_41 : decode b_N_isTriangle 41 = .ok (.invokevirtual 69, 3) := by decide +kernel
theorem d_N_isTriangle_44 : decode b_N_isTriangle 44 = .ok (.ifCond .eq 12, 3) := by decide +kernel
theorem d_N_isTriangle_47 : decode b_N_isTriangle 47 = .ok (.aload_n 0, 1) := by decide +kernel
theorem d_N_isTriangle_48 : decode b_N_isTriangle 48 = .ok (.iload_n 1, 1) := by decide +kernel
theorem d_N_isTriangle_49 : decode b_N_isTriangle 49 = .ok (.iload_n 3, 1) := by decide +kernel
theorem d_N_isTriangle_50 : decode b_N_isTriangle 50 = .ok (.invokevirtual 69, 3) := by decide +kernel
theorem d_N_isTriangle_53 : decode b_N_isTriangle 53 = .ok (.ifCond .ne 5, 3) := by decide +kernel
theorem d_N_isTriangle_56 : decode b_N_isTriangle 56 = .ok (.iconst 0, 1) := by decide +kernel
theorem d_N_isTriangle_57 : decode b_N_isTriangle 57 = .ok (.ireturn, 1) := by decide +kernel
theorem d_N_isTriangle_58 : decode b_N_isTriangle 58 = .ok (.iconst 0, 1) := by decide +kernel
theorem d_N_isTriangle_59 : decode b_N_isTriangle 59 = .ok (.istore 4, 2) := by decide +kernel
theorem d_N_isTriangle_61 : decode b_N_isTriangle 61 = .ok (.iload 4, 2) := by decide +kernel
theorem d_N_isTriangle_63 : decode b_N_isTriangle 63 = .ok (.bipush 20, 2) := by decide +kernel
theorem d_N_isTriangle_65 : decode b_N_isTriangle 65 = .ok (.if_icmp .ge 81, 3) := by decide +kernel
theorem d_N_isTriangle_68 : decode b_N_isTriangle 68 = .ok (.aload_n 0, 1) := by decide +kernel
theorem d_N_isTriangle_69 : decode b_N_isTriangle 69 = .ok (.getfield 7, 3) := by decide +kernel
theorem d_N_isTriangle_72 : decode b_N_isTriangle 72 = .ok (.iload 4, 2) := by decide +kernel
theorem d_N_isTriangle_74 : decode b_N_isTriangle 74 = .ok (.baload, 1) := by decide +kernel
theorem d_N_isTriangle_75 : decode b_N_isTriangle 75 = .ok (.ifCond .eq 65, 3) := by decide +kernel
theorem d_N_isTriangle_78 : decode b_N_isTriangle 78 = .ok (.iload 4, 2) := by decide +kernel
theorem d_N_isTriangle_80 : decode b_N_isTriangle 80 = .ok (.iload_n 1, 1) := by decide +kernel
theorem d_N_isTriangle_81 : decode b_N_isTriangle 81 = .ok (.if_icmp .eq 59, 3) := by decide +kernel
theorem d_N_isTriangle_84 : decode b_N_isTriangle 84 = .ok (.iload 4, 2) := by decide +kernel
theorem d_N_isTriangle_86 : decode b_N_isTriangle 86 = .ok (.iload_n 2, 1) := by decide +kernel
theorem d_N_isTriangle_87 : decode b_N_isTriangle 87 = .ok (.if_icmp .eq 53, 3) := by decide +kernel
theorem d_N_isTriangle_90 : decode b_N_isTriangle 90 = .ok (.iload 4, 2) := by decide +kernel
theorem d_N_isTriangle_92 : decode b_N_isTriangle 92 = .ok (.iload_n 3, 1) := by decide +kernel
theorem d_N_isTriangle_93 : decode b_N_isTriangle 93 = .ok (.if_icmp .eq 47, 3) := by decide +kernel
theorem d_N_isTriangle_96 : decode b_N_isTriangle 96 = .ok (.aload_n 0, 1) := by decide +kernel
theorem d_N_isTriangle_97 : decode b_N_isTriangle 97 = .ok (.iload_n 1, 1) := by decide +kernel
theorem d_N_isTriangle_98 : decode b_N_isTriangle 98 = .ok (.iload_n 2, 1) := by decide +kernel
theorem d_N_isTriangle_99 : decode b_N_isTriangle 99 = .ok (.iload_n 3, 1) := by decide +kernel
theorem d_N_isTriangle_100 : decode b_N_isTriangle 100 = .ok (.iload 4, 2) := by decide +kernel
theorem d_N_isTriangle_102 : decode b_N_isTriangle 102 = .ok (.invokevirtual 72, 3) := by decide +kernel
theorem d_N_isTriangle_105 : decode b_N_isTriangle 105 = .ok (.istore 5, 2) := by decide +kernel
theorem d_N_isTriangle_107 : decode b_N_isTriangle 107 = .ok (.iload 5, 2) := by decide +kernel
theorem d_N_isTriangle_109 : decode b_N_isTriangle 109 = .ok (.ifCond .gt 29, 3) := by decide +kernel
theorem d_N_isTriangle_112 : decode b_N_isTriangle 112 = .ok (.iload 5, 2) := by decide +kernel
theorem d_N_isTriangle_114 : decode b_N_isTriangle 114 = .ok (.ifCond .ne 26, 3) := by decide +kernel
theorem d_N_isTriangle_117 : decode b_N_isTriangle 117 = .ok (.aload_n 0, 1) := by decide +kernel
theorem d_N_isTriangle_118 : decode b_N_isTriangle 118 = .ok (.iload 4, 2) := by decide +kernel
theorem d_N_isTriangle_120 : decode b_N_isTriangle 120 = .ok (.iload_n 1, 1) := by decide +kernel
theorem d_N_isTriangle_121 : decode b_N_isTriangle 121 = .ok (.invokevirtual 69, 3) := by decide +kernel
theorem d_N_isTriangle_124 : decode b_N_isTriangle 124 = .ok (.ifCond .ne 14, 3) := by decide +kernel
theorem d_N_isTriangle_127 : decode b_N_isTriangle 127 = .ok (.aload_n 0, 1) := by decide +kernel
theorem d_N_isTriangle_128 : decode b_N_isTriangle 128 = .ok (.iload_n 2, 1) := by decide +kernel
theorem d_N_isTriangle_129 : decode b_N_isTriangle 129 = .ok (.iload_n 3, 1) := by decide +kernel
theorem d_N_isTriangle_130 : decode b_N_isTriangle 130 = .ok (.iload 4, 2) := by decide +kernel
theorem d_N_isTriangle_132 : decode b_N_isTriangle 132 = .ok (.invokevirtual 65, 3) := by decide +kernel
theorem d_N_isTriangle_135 : decode b_N_isTriangle 135 = .ok (.ifCond .ge 5, 3) := by decide +kernel
theorem d_N_isTriangle_138 : decode b_N_isTriangle 138 = .ok (.iconst 0, 1) := by decide +kernel
theorem d_N_isTriangle_139 : decode b_N_isTriangle 139 = .ok (.ireturn, 1) := by decide +kernel
theorem d_N_isTriangle_140 : decode b_N_isTriangle 140 = .ok (.iinc 4 1, 3) := by decide +kernel
theorem d_N_isTriangle_143 : decode b_N_isTriangle 143 = .ok (.goto (-82), 3) := by decide +kernel
theorem d_N_isTriangle_146 : decode b_N_isTriangle 146 = .ok (.iconst 1, 1) := by decide +kernel
theorem d_N_isTriangle_147 : decode b_N_isTriangle 147 = .ok (.ireturn, 1) := by decide +kernel
theorem d_N_work_0 : decode b_N_work 0 = .ok (.aload_n 0, 1) := by decide +kernel
theorem d_N_work_1 : decode b_N_work 1 = .ok (.getfield 42, 3) := by decide +kernel
theorem d_N_work_4 : decode b_N_work 4 = .ok (.ifCond .eq 4, 3) := by decide +kernel
theorem d_N_work_7 : decode b_N_work 7 = .ok (.return_, 1) := by decide +kernel
theorem d_N_work_8 : decode b_N_work 8 = .ok (.aload_n 0, 1) := by decide +kernel
theorem d_N_work_9 : decode b_N_work 9 = .ok (.iconst 1, 1) := by decide +kernel
theorem d_N_work_10 : decode b_N_work 10 = .ok (.putfield 42, 3) := by decide +kernel
theorem d_N_work_13 : decode b_N_work 13 = .ok (.aload_n 0, 1) := by decide +kernel
theorem d_N_work_14 : decode b_N_work 14 = .ok (.iconst 0, 1) := by decide +kernel
theorem d_N_work_15 : decode b_N_work 15 = .ok (.putfield 75, 3) := by decide +kernel
theorem d_N_work_18 : decode b_N_work 18 = .ok (.iconst 0, 1) := by decide +kernel
theorem d_N_work_19 : decode b_N_work 19 = .ok (.istore_n 1, 1) := by decide +kernel
theorem d_N_work_20 : decode b_N_work 20 = .ok (.iload_n 1, 1) := by decide +kernel
theorem d_N_work_21 : decode b_N_work 21 = .ok (.bipush 20, 2) := by decide +kernel
theorem d_N_work_23 : decode b_N_work 23 = .ok (.if_icmp .ge 102, 3) := by decide +kernel
theorem d_N_work_26 : decode b_N_work 26 = .ok (.iconst 0, 1) := by decide +kernel
theorem d_N_work_27 : decode b_N_work 27 = .ok (.istore_n 2, 1) := by decide +kernel
theorem d_N_work_28 : decode b_N_work 28 = .ok (.iload_n 2, 1) := by decide +kernel
theorem d_N_work_29 : decode b_N_work 29 = .ok (.bipush 20, 2) := by decide +kernel
theorem d_N_work_31 : decode b_N_work 31 = .ok (.if_icmp .ge 88, 3) := by decide +kernel
theorem d_N_work_34 : decode b_N_work 34 = .ok (.iconst 0, 1) := by decide +kernel
theorem d_N_work_35 : decode b_N_work 35 = .ok (.istore_n 3, 1) := by decide +kernel
theorem d_N_work_36 : decode b_N_work 36 = .ok (.iload_n 3, 1) := by decide +kernel
theorem d_N_work_37 : decode b_N_work 37 = .ok (.bipush 20, 2) := by decide +kernel
theorem d_N_work_39 : decode b_N_work 39 = .ok (.if_icmp .ge 74, 3) := by decide +kernel
theorem d_N_work_42 : decode b_N_work 42 = .ok (.iload_n 1, 1) := by decide +kernel
theorem d_N_work_43 : decode b_N_work 43 = .ok (.iload_n 2, 1) := by decide +kernel
theorem d_N_work_44 : decode b_N_work 44 = .ok (.if_icmp .eq 63, 3) := by decide +kernel
theorem d_N_work_47 : decode b_N_work 47 = .ok (.iload_n 2, 1) := by decide +kernel
theorem d_N_work_48 : decode b_N_work 48 = .ok (.iload_n 3, 1) := by decide +kernel
theorem d_N_work_49 : decode b_N_work 49 = .ok (.if_icmp .eq 58, 3) := by decide +kernel
theorem d_N_work_52 : decode b_N_work 52 = .ok (.iload_n 1, 1) := by decide +kernel
theorem d_N_work_53 : decode b_N_work 53 = .ok (.iload_n 3, 1) := by decide +kernel
theorem d_N_work_54 : decode b_N_work 54 = .ok (.if_icmp .eq 53, 3) := by decide +kernel
theorem d_N_work_57 : decode b_N_work 57 = .ok (.aload_n 0, 1) := by decide +kernel
theorem d_N_work_58 : decode b_N_work 58 = .ok (.iload_n 1, 1) := by decide +kernel
theorem d_N_work_59 : decode b_N_work 59 = .ok (.iload_n 2, 1) := by decide +kernel
theorem d_N_work_60 : decode b_N_work 60 = .ok (.iload_n 3, 1) := by decide +kernel
theorem d_N_work_61 : decode b_N_work 61 = .ok (.invokevirtual 79, 3) := by decide +kernel
theorem d_N_work_64 : decode b_N_work 64 = .ok (.ifCond .eq 43, 3) := by decide +kernel
theorem d_N_work_67 : decode b_N_work 67 = .ok (.aload_n 0, 1) := by decide +kernel
theorem d_N_work_68 : decode b_N_work 68 = .ok (.getfield 20, 3) := by decide +kernel
theorem d_N_work_71 : decode b_N_work 71 = .ok (.aload_n 0, 1) := by decide +kernel
theorem d_N_work_72 : decode b_N_work 72 = .ok (.getfield 75, 3) := by decide +kernel
theorem d_N_work_75 : decode b_N_work 75 = .ok (.iload_n 1, 1) := by decide +kernel
theorem d_N_work_76 : decode b_N_work 76 = .ok (.iastore, 1) := by decide +kernel
theorem d_N_work_77 : decode b_N_work 77 = .ok (.aload_n 0, 1) := by decide +kernel
theorem d_N_work_78 : decode b_N_work 78 = .ok (.getfield 23, 3) := by decide +kernel
theorem d_N_work_81 : decode b_N_work 81 = .ok (.aload_n 0, 1) := by decide +kernel
theorem d_N_work_82 : decode b_N_work 82 = .ok (.getfield 75, 3) := by decide +kernel
theorem d_N_work_85 : decode b_N_work 85 = .ok (.iload_n 2, 1) := by decide +kernel
theorem d_N_work_86 : decode b_N_work 86 = .ok (.iastore, 1) := by decide +kernel
theorem d_N_work_87 : decode b_N_work 87 = .ok (.aload_n 0, 1) := by decide +kernel
theorem d_N_work_88 : decode b_N_work 88 = .ok (.getfield 26, 3) := by decide +kernel
theorem d_N_work_91 : decode b_N_work 91 = .ok (.aload_n 0, 1) := by decide +kernel
theorem d_N_work_92 : decode b_N_work 92 = .ok (.getfield 75, 3) := by decide +kernel
theorem d_N_work_95 : decode b_N_work 95 = .ok (.iload_n 3, 1) := by decide +kernel
theorem d_N_work_96 : decode b_N_work 96 = .ok (.iastore, 1) := by decide +kernel
theorem d_N_work_97 : decode b_N_work 97 = .ok (.aload_n 0, 1) := by decide +kernel
theorem d_N_work_98 : decode b_N_work 98 = .ok (.dup, 1) := by decide +kernel
theorem d_N_work_99 : decode b_N_work 99 = .ok (.getfield 75, 3) := by decide +kernel
theorem d_N_work_102 : decode b_N_work 102 = .ok (.iconst 1, 1) := by decide +kernel
theorem d_N_work_103 : decode b_N_work 103 = .ok (.iadd, 1) := by decide +kernel
theorem d_N_work_104 : decode b_N_work 104 = .ok (.putfield 75, 3) := by decide +kernel
theorem d_N_work_107 : decode b_N_work 107 = .ok (.iinc 3 1, 3) := by decide +kernel
theorem d_N_work_110 : decode b_N_work 110 = .ok (.goto (-74), 3) := by decide +kernel
theorem d_N_work_113 : decode b_N_work 113 = .ok (.iinc 2 1, 3) := by decide +kernel
theorem d_N_work_116 : decode b_N_work 116 = .ok (.goto (-88), 3) := by decide +kernel
theorem d_N_work_119 : decode b_N_work 119 = .ok (.iinc 1 1, 3) := by decide +kernel
theorem d_N_work_122 : decode b_N_work 122 = .ok (.goto (-102), 3) := by decide +kernel
theorem d_N_work_125 : decode b_N_work 125 = .ok (.return_, 1) := by decide +kernel
theorem d_N_triangles_0 : decode b_N_triangles 0 = .ok (.aload_n 0, 1) := by decide +kernel
theorem d_N_triangles_1 : decode b_N_triangles 1 = .ok (.invokevirtual 83, 3) := by decide +kernel
theorem d_N_triangles_4 : decode b_N_triangles 4 = .ok (.aload_n 0, 1) := by decide +kernel
theorem d_N_triangles_5 : decode b_N_triangles 5 = .ok (.getfield 75, 3) := by decide +kernel
theorem d_N_triangles_8 : decode b_N_triangles 8 = .ok (.ireturn, 1) := by decide +kernel
theorem d_N_triangle_0 : decode b_N_triangle 0 = .ok (.aload_n 0, 1) := by decide +kernel
theorem d_N_triangle_1 : decode b_N_triangle 1 = .ok (.invokevirtual 83, 3) := by decide +kernel
theorem d_N_triangle_4 : decode b_N_triangle 4 = .ok (.iload_n 1, 1) := by decide +kernel
theorem d_N_triangle_5 : decode b_N_triangle 5 = .ok (.ifCond .lt 11, 3) := by decide +kernel
theorem d_N_triangle_8 : decode b_N_triangle 8 = .ok (.iload_n 1, 1) := by decide +kernel
theorem d_N_triangle_9 : decode b_N_triangle 9 = .ok (.aload_n 0, 1) := by decide +kernel
theorem d_N_triangle_10 : decode b_N_triangle 10 = .ok (.getfield 75, 3) := by decide +kernel
theorem d_N_triangle_13 : decode b_N_triangle 13 = .ok (.if_icmp .lt 7, 3) := by decide +kernel
theorem d_N_triangle_16 : decode b_N_triangle 16 = .ok (.iconst (-1), 1) := by decide +kernel
theorem d_N_triangle_17 : decode b_N_triangle 17 = .ok (.goto 30, 3) := by decide +kernel
theorem d_N_triangle_20 : decode b_N_triangle 20 = .ok (.aload_n 0, 1) := by decide +kernel
theorem d_N_triangle_21 : decode b_N_triangle 21 = .ok (.getfield 20, 3) := by decide +kernel
theorem d_N_triangle_24 : decode b_N_triangle 24 = .ok (.iload_n 1, 1) := by decide +kernel
theorem d_N_triangle_25 : decode b_N_triangle 25 = .ok (.iaload, 1) := by decide +kernel
theorem d_N_triangle_26 : decode b_N_triangle 26 = .ok (.bipush 32, 2) := by decide +kernel
theorem d_N_triangle_28 : decode b_N_triangle 28 = .ok (.aload_n 0, 1) := by decide +kernel
theorem d_N_triangle_29 : decode b_N_triangle 29 = .ok (.getfield 23, 3) := by decide +kernel
theorem d_N_triangle_32 : decode b_N_triangle 32 = .ok (.iload_n 1, 1) := by decide +kernel
theorem d_N_triangle_33 : decode b_N_triangle 33 = .ok (.iaload, 1) := by decide +kernel
theorem d_N_triangle_34 : decode b_N_triangle 34 = .ok (.imul, 1) := by decide +kernel
theorem d_N_triangle_35 : decode b_N_triangle 35 = .ok (.iadd, 1) := by decide +kernel
theorem d_N_triangle_36 : decode b_N_triangle 36 = .ok (.sipush 1024, 3) := by decide +kernel
theorem d_N_triangle_39 : decode b_N_triangle 39 = .ok (.aload_n 0, 1) := by decide +kernel
theorem d_N_triangle_40 : decode b_N_triangle 40 = .ok (.getfield 26, 3) := by decide +kernel
theorem d_N_triangle_43 : decode b_N_triangle 43 = .ok (.iload_n 1, 1) := by decide +kernel
theorem d_N_triangle_44 : decode b_N_triangle 44 = .ok (.iaload, 1) := by decide +kernel
theorem d_N_triangle_45 : decode b_N_triangle 45 = .ok (.imul, 1) := by decide +kernel
theorem d_N_triangle_46 : decode b_N_triangle 46 = .ok (.iadd, 1) := by decide +kernel
theorem d_N_triangle_47 : decode b_N_triangle 47 = .ok (.ireturn, 1) := by decide +kernel
theorem d_N_has_0 : decode b_N_has 0 = .ok (.aload_n 0, 1) := by decide +kernel
theorem d_N_has_1 : decode b_N_has 1 = .ok (.getfield 20, 3) := by decide +kernel
theorem d_N_has_4 : decode b_N_has 4 = .ok (.iload_n 1, 1) := by decide +kernel
theorem d_N_has_5 : decode b_N_has 5 = .ok (.iaload, 1) := by decide +kernel
theorem d_N_has_6 : decode b_N_has 6 = .ok (.iload_n 2, 1) := by decide +kernel
theorem d_N_has_7 : decode b_N_has 7 = .ok (.if_icmp .eq 23, 3) := by decide +kernel
theorem d_N_has_10 : decode b_N_has 10 = .ok (.aload_n 0, 1) := by decide +kernel
theorem d_N_has_11 : decode b_N_has 11 = .ok (.getfield 23, 3) := by decide +kernel
theorem d_N_has_14 : decode b_N_has 14 = .ok (.iload_n 1, 1) := by decide +kernel
theorem d_N_has_15 : decode b_N_has 15 = .ok (.iaload, 1) := by decide +kernel
theorem d_N_has_16 : decode b_N_has 16 = .ok (.iload_n 2, 1) := by decide +kernel
theorem d_N_has_17 : decode b_N_has 17 = .ok (.if_icmp .eq 13, 3) := by decide +kernel
theorem d_N_has_20 : decode b_N_has 20 = .ok (.aload_n 0, 1) := by decide +kernel
theorem d_N_has_21 : decode b_N_has 21 = .ok (.getfield 26, 3) := by decide +kernel
theorem d_N_has_24 : decode b_N_has 24 = .ok (.iload_n 1, 1) := by decide +kernel
theorem d_N_has_25 : decode b_N_has 25 = .ok (.iaload, 1) := by decide +kernel
theorem d_N_has_26 : decode b_N_has 26 = .ok (.iload_n 2, 1) := by decide +kernel
theorem d_N_has_27 : decode b_N_has 27 = .ok (.if_icmp .ne 7, 3) := by decide +kernel
theorem d_N_has_30 : decode b_N_has 30 = .ok (.iconst 1, 1) := by decide +kernel
theorem d_N_has_31 : decode b_N_has 31 = .ok (.goto 4, 3) := by decide +kernel
theorem d_N_has_34 : decode b_N_has 34 = .ok (.iconst 0, 1) := by decide +kernel
theorem d_N_has_35 : decode b_N_has 35 = .ok (.ireturn, 1) := by decide +kernel
theorem d_N_number_0 : decode b_N_number 0 = .ok (.aload_n 0, 1) := by decide +kernel
theorem d_N_number_1 : decode b_N_number 1 = .ok (.invokevirtual 83, 3) := by decide +kernel
theorem d_N_number_4 : decode b_N_number 4 = .ok (.iconst 0, 1) := by decide +kernel
theorem d_N_number_5 : decode b_N_number 5 = .ok (.istore 4, 2) := by decide +kernel
theorem d_N_number_7 : decode b_N_number 7 = .ok (.iload 4, 2) := by decide +kernel
theorem d_N_number_9 : decode b_N_number 9 = .ok (.aload_n 0, 1) := by decide +kernel
theorem d_N_number_10 : decode b_N_number 10 = .ok (.getfield 75, 3) := by decide +kernel
theorem d_N_number_13 : decode b_N_number 13 = .ok (.if_icmp .ge 57, 3) := by decide +kernel
theorem d_N_number_16 : decode b_N_number 16 = .ok (.iload_n 1, 1) := by decide +kernel
theorem d_N_number_17 : decode b_N_number 17 = .ok (.iload_n 2, 1) := by decide +kernel
theorem d_N_number_18 : decode b_N_number 18 = .ok (.if_icmp .eq 46, 3) := by decide +kernel
theorem d_N_number_21 : decode b_N_number 21 = .ok (.iload_n 2, 1) := by decide +kernel
theorem d_N_number_22 : decode b_N_number 22 = .ok (.iload_n 3, 1) := by decide +kernel
theorem d_N_number_23 : decode b_N_number 23 = .ok (.if_icmp .eq 41, 3) := by decide +kernel
theorem d_N_number_26 : decode b_N_number 26 = .ok (.iload_n 1, 1) := by decide +kernel
theorem d_N_number_27 : decode b_N_number 27 = .ok (.iload_n 3, 1) := by decide +kernel
theorem d_N_number_28 : decode b_N_number 28 = .ok (.if_icmp .eq 36, 3) := by decide +kernel
theorem d_N_number_31 : decode b_N_number 31 = .ok (.aload_n 0, 1) := by decide +kernel
theorem d_N_number_32 : decode b_N_number 32 = .ok (.iload 4, 2) := by decide +kernel
theorem d_N_number_34 : decode b_N_number 34 = .ok (.iload_n 1, 1) := by decide +kernel
theorem d_N_number_35 : decode b_N_number 35 = .ok (.invokevirtual 86, 3) := by decide +kernel
theorem d_N_number_38 : decode b_N_number 38 = .ok (.ifCond .eq 26, 3) := by decide +kernel
theorem d_N_number_41 : decode b_N_number 41 = .ok (.aload_n 0, 1) := by decide +kernel
theorem d_N_number_42 : decode b_N_number 42 = .ok (.iload 4, 2) := by decide +kernel
theorem d_N_number_44 : decode b_N_number 44 = .ok (.iload_n 2, 1) := by decide +kernel
theorem d_N_number_45 : decode b_N_number 45 = .ok (.invokevirtual 86, 3) := by decide +kernel
theorem d_N_number_48 : decode b_N_number 48 = .ok (.ifCond .eq 16, 3) := by decide +kernel
theorem d_N_number_51 : decode b_N_number 51 = .ok (.aload_n 0, 1) := by decide +kernel
theorem d_N_number_52 : decode b_N_number 52 = .ok (.iload 4, 2) := by decide +kernel
theorem d_N_number_54 : decode b_N_number 54 = .ok (.iload_n 3, 1) := by decide +kernel
theorem d_N_number_55 : decode b_N_number 55 = .ok (.invokevirtual 86, 3) := by decide +kernel
theorem d_N_number_58 : decode b_N_number 58 = .ok (.ifCond .eq 6, 3) := by decide +kernel
theorem d_N_number_61 : decode b_N_number 61 = .ok (.iload 4, 2) := by decide +kernel
theorem d_N_number_63 : decode b_N_number 63 = .ok (.ireturn, 1) := by decide +kernel
theorem d_N_number_64 : decode b_N_number 64 = .ok (.iinc 4 1, 3) := by decide +kernel
theorem d_N_number_67 : decode b_N_number 67 = .ok (.goto (-60), 3) := by decide +kernel
theorem d_N_number_70 : decode b_N_number 70 = .ok (.iconst (-1), 1) := by decide +kernel
theorem d_N_number_71 : decode b_N_number 71 = .ok (.ireturn, 1) := by decide +kernel
theorem d_N_across_0 : decode b_N_across 0 = .ok (.aload_n 0, 1) := by decide +kernel
theorem d_N_across_1 : decode b_N_across 1 = .ok (.invokevirtual 83, 3) := by decide +kernel
theorem d_N_across_4 : decode b_N_across 4 = .ok (.iload_n 1, 1) := by decide +kernel
theorem d_N_across_5 : decode b_N_across 5 = .ok (.ifCond .lt 20, 3) := by decide +kernel
theorem d_N_across_8 : decode b_N_across 8 = .ok (.iload_n 1, 1) := by decide +kernel
theorem d_N_across_9 : decode b_N_across 9 = .ok (.aload_n 0, 1) := by decide +kernel
theorem d_N_across_10 : decode b_N_across 10 = .ok (.getfield 75, 3) := by decide +kernel
theorem d_N_across_13 : decode b_N_across 13 = .ok (.if_icmp .ge 12, 3) := by decide +kernel
theorem d_N_across_16 : decode b_N_across 16 = .ok (.iload_n 2, 1) := by decide +kernel
theorem d_N_across_17 : decode b_N_across 17 = .ok (.ifCond .lt 8, 3) := by decide +kernel
theorem d_N_across_20 : decode b_N_across 20 = .ok (.iload_n 2, 1) := by decide +kernel
theorem d_N_across_21 : decode b_N_across 21 = .ok (.iconst 2, 1) := by decide +kernel
theorem d_N_across_22 : decode b_N_across 22 = .ok (.if_icmp .le 5, 3) := by decide +kernel
theorem d_N_across_25 : decode b_N_across 25 = .ok (.iconst (-1), 1) := by decide +kernel
theorem d_N_across_26 : decode b_N_across 26 = .ok (.ireturn, 1) := by decide +kernel
theorem d_N_across_27 : decode b_N_across 27 = .ok (.iload_n 2, 1) := by decide +kernel
theorem d_N_across_28 : decode b_N_across 28 = .ok (.ifCond .ne 12, 3) := by decide +kernel
theorem d_N_across_31 : decode b_N_across 31 = .ok (.aload_n 0, 1) := by decide +kernel
theorem d_N_across_32 : decode b_N_across 32 = .ok (.getfield 23, 3) := by decide +kernel
theorem d_N_across_35 : decode b_N_across 35 = .ok (.iload_n 1, 1) := by decide +kernel
theorem d_N_across_36 : decode b_N_across 36 = .ok (.iaload, 1) := by decide +kernel
theorem d_N_across_37 : decode b_N_across 37 = .ok (.goto 23, 3) := by decide +kernel
theorem d_N_across_40 : decode b_N_across 40 = .ok (.iload_n 2, 1) := by decide +kernel
theorem d_N_across_41 : decode b_N_across 41 = .ok (.iconst 1, 1) := by decide +kernel
theorem d_N_across_42 : decode b_N_across 42 = .ok (.if_icmp .ne 12, 3) := by decide +kernel
theorem d_N_across_45 : decode b_N_across 45 = .ok (.aload_n 0, 1) := by decide +kernel
theorem d_N_across_46 : decode b_N_across 46 = .ok (.getfield 26, 3) := by decide +kernel
theorem d_N_across_49 : decode b_N_across 49 = .ok (.iload_n 1, 1) := by decide +kernel
theorem d_N_across_50 : decode b_N_across 50 = .ok (.iaload, 1) := by decide +kernel
theorem d_N_across_51 : decode b_N_across 51 = .ok (.goto 9, 3) := by decide +kernel
theorem d_N_across_54 : decode b_N_across 54 = .ok (.aload_n 0, 1) := by decide +kernel
theorem d_N_across_55 : decode b_N_across 55 = .ok (.getfield 20, 3) := by decide +kernel
theorem d_N_across_58 : decode b_N_across 58 = .ok (.iload_n 1, 1) := by decide +kernel
theorem d_N_across_59 : decode b_N_across 59 = .ok (.iaload, 1) := by decide +kernel
theorem d_N_across_60 : decode b_N_across 60 = .ok (.istore_n 3, 1) := by decide +kernel
theorem d_N_across_61 : decode b_N_across 61 = .ok (.iload_n 2, 1) := by decide +kernel
theorem d_N_across_62 : decode b_N_across 62 = .ok (.ifCond .ne 12, 3) := by decide +kernel
theorem d_N_across_65 : decode b_N_across 65 = .ok (.aload_n 0, 1) := by decide +kernel
theorem d_N_across_66 : decode b_N_across 66 = .ok (.getfield 26, 3) := by decide +kernel
theorem d_N_across_69 : decode b_N_across 69 = .ok (.iload_n 1, 1) := by decide +kernel
theorem d_N_across_70 : decode b_N_across 70 = .ok (.iaload, 1) := by decide +kernel
theorem d_N_across_71 : decode b_N_across 71 = .ok (.goto 23, 3) := by decide +kernel
theorem d_N_across_74 : decode b_N_across 74 = .ok (.iload_n 2, 1) := by decide +kernel
theorem d_N_across_75 : decode b_N_across 75 = .ok (.iconst 1, 1) := by decide +kernel
theorem d_N_across_76 : decode b_N_across 76 = .ok (.if_icmp .ne 12, 3) := by decide +kernel
theorem d_N_across_79 : decode b_N_across 79 = .ok (.aload_n 0, 1) := by decide +kernel
theorem d_N_across_80 : decode b_N_across 80 = .ok (.getfield 20, 3) := by decide +kernel
theorem d_N_across_83 : decode b_N_across 83 = .ok (.iload_n 1, 1) := by decide +kernel
theorem d_N_across_84 : decode b_N_across 84 = .ok (.iaload, 1) := by decide +kernel
theorem d_N_across_85 : decode b_N_across 85 = .ok (.goto 9, 3) := by decide +kernel
theorem d_N_across_88 : decode b_N_across 88 = .ok (.aload_n 0, 1) := by decide +kernel
theorem d_N_across_89 : decode b_N_across 89 = .ok (.getfield 23, 3) := by decide +kernel
theorem d_N_across_92 : decode b_N_across 92 = .ok (.iload_n 1, 1) := by decide +kernel
theorem d_N_across_93 : decode b_N_across 93 = .ok (.iaload, 1) := by decide +kernel
theorem d_N_across_94 : decode b_N_across 94 = .ok (.istore 4, 2) := by decide +kernel
theorem d_N_across_96 : decode b_N_across 96 = .ok (.iconst 0, 1) := by decide +kernel
theorem d_N_across_97 : decode b_N_across 97 = .ok (.istore 5, 2) := by decide +kernel
theorem d_N_across_99 : decode b_N_across 99 = .ok (.iload 5, 2) := by decide +kernel
theorem d_N_across_101 : decode b_N_across 101 = .ok (.aload_n 0, 1) := by decide +kernel
theorem d_N_across_102 : decode b_N_across 102 = .ok (.getfield 75, 3) := by decide +kernel
theorem d_N_across_105 : decode b_N_across 105 = .ok (.if_icmp .ge 39, 3) := by decide +kernel
theorem d_N_across_108 : decode b_N_across 108 = .ok (.iload 5, 2) := by decide +kernel
theorem d_N_across_110 : decode b_N_across 110 = .ok (.iload_n 1, 1) := by decide +kernel
theorem d_N_across_111 : decode b_N_across 111 = .ok (.if_icmp .eq 27, 3) := by decide +kernel
theorem d_N_across_114 : decode b_N_across 114 = .ok (.aload_n 0, 1) := by decide +kernel
theorem d_N_across_115 : decode b_N_across 115 = .ok (.iload 5, 2) := by decide +kernel
theorem d_N_across_117 : decode b_N_across 117 = .ok (.iload_n 3, 1) := by decide +kernel
theorem d_N_across_118 : decode b_N_across 118 = .ok (.invokevirtual 86, 3) := by decide +kernel
theorem d_N_across_121 : decode b_N_across 121 = .ok (.ifCond .eq 17, 3) := by decide +kernel
theorem d_N_across_124 : decode b_N_across 124 = .ok (.aload_n 0, 1) := by decide +kernel
theorem d_N_across_125 : decode b_N_across 125 = .ok (.iload 5, 2) := by decide +kernel
theorem d_N_across_127 : decode b_N_across 127 = .ok (.iload 4, 2) := by decide +kernel
theorem d_N_across_129 : decode b_N_across 129 = .ok (.invokevirtual 86, 3) := by decide +kernel
theorem d_N_across_132 : decode b_N_across 132 = .ok (.ifCond .eq 6, 3) := by decide +kernel
theorem d_N_across_135 : decode b_N_across 135 = .ok (.iload 5, 2) := by decide +kernel
theorem d_N_across_137 : decode b_N_across 137 = .ok (.ireturn, 1) := by decide +kernel
theorem d_N_across_138 : decode b_N_across 138 = .ok (.iinc 5 1, 3) := by decide +kernel
theorem d_N_across_141 : decode b_N_across 141 = .ok (.goto (-42), 3) := by decide +kernel
theorem d_N_across_144 : decode b_N_across 144 = .ok (.iconst (-1), 1) := by decide +kernel
theorem d_N_across_145 : decode b_N_across 145 = .ok (.ireturn, 1) := by decide +kernel
theorem d_N_corners_0 : decode b_N_corners 0 = .ok (.aload_n 0, 1) := by decide +kernel
theorem d_N_corners_1 : decode b_N_corners 1 = .ok (.invokevirtual 83, 3) := by decide +kernel
theorem d_N_corners_4 : decode b_N_corners 4 = .ok (.iload_n 1, 1) := by decide +kernel
theorem d_N_corners_5 : decode b_N_corners 5 = .ok (.ifCond .lt 11, 3) := by decide +kernel
theorem d_N_corners_8 : decode b_N_corners 8 = .ok (.iload_n 1, 1) := by decide +kernel
theorem d_N_corners_9 : decode b_N_corners 9 = .ok (.aload_n 0, 1) := by decide +kernel
theorem d_N_corners_10 : decode b_N_corners 10 = .ok (.getfield 75, 3) := by decide +kernel
theorem d_N_corners_13 : decode b_N_corners 13 = .ok (.if_icmp .lt 5, 3) := by decide +kernel
theorem d_N_corners_16 : decode b_N_corners 16 = .ok (.iconst (-1), 1) := by decide +kernel
theorem d_N_corners_17 : decode b_N_corners 17 = .ok (.ireturn, 1) := by decide +kernel
theorem d_N_corners_18 : decode b_N_corners 18 = .ok (.iconst 0, 1) := by decide +kernel
theorem d_N_corners_19 : decode b_N_corners 19 = .ok (.istore_n 2, 1) := by decide +kernel
theorem d_N_corners_20 : decode b_N_corners 20 = .ok (.iconst 0, 1) := by decide +kernel
theorem d_N_corners_21 : decode b_N_corners 21 = .ok (.istore_n 3, 1) := by decide +kernel
theorem d_N_corners_22 : decode b_N_corners 22 = .ok (.iload_n 3, 1) := by decide +kernel
theorem d_N_corners_23 : decode b_N_corners 23 = .ok (.bipush 20, 2) := by decide +kernel
theorem d_N_corners_25 : decode b_N_corners 25 = .ok (.if_icmp .ge 52, 3) := by decide +kernel
theorem d_N_corners_28 : decode b_N_corners 28 = .ok (.iload_n 2, 1) := by decide +kernel
theorem d_N_corners_29 : decode b_N_corners 29 = .ok (.aload_n 0, 1) := by decide +kernel
theorem d_N_corners_30 : decode b_N_corners 30 = .ok (.getfield 7, 3) := by decide +kernel
theorem d_N_corners_33 : decode b_N_corners 33 = .ok (.iload_n 3, 1) := by decide +kernel
theorem d_N_corners_34 : decode b_N_corners 34 = .ok (.baload, 1) := by decide +kernel
theorem d_N_corners_35 : decode b_N_corners 35 = .ok (.ifCond .eq 33, 3) := by decide +kernel
theorem d_N_corners_38 : decode b_N_corners 38 = .ok (.aload_n 0, 1) := by decide +kernel
theorem d_N_corners_39 : decode b_N_corners 39 = .ok (.aload_n 0, 1) := by decide +kernel
theorem d_N_corners_40 : decode b_N_corners 40 = .ok (.getfield 20, 3) := by decide +kernel
theorem d_N_corners_43 : decode b_N_corners 43 = .ok (.iload_n 1, 1) := by decide +kernel
theorem d_N_corners_44 : decode b_N_corners 44 = .ok (.iaload, 1) := by decide +kernel
theorem d_N_corners_45 : decode b_N_corners 45 = .ok (.aload_n 0, 1) := by decide +kernel
theorem d_N_corners_46 : decode b_N_corners 46 = .ok (.getfield 23, 3) := by decide +kernel
theorem d_N_corners_49 : decode b_N_corners 49 = .ok (.iload_n 1, 1) := by decide +kernel
theorem d_N_corners_50 : decode b_N_corners 50 = .ok (.iaload, 1) := by decide +kernel
theorem d_N_corners_51 : decode b_N_corners 51 = .ok (.aload_n 0, 1) := by decide +kernel
theorem d_N_corners_52 : decode b_N_corners 52 = .ok (.getfield 26, 3) := by decide +kernel
theorem d_N_corners_55 : decode b_N_corners 55 = .ok (.iload_n 1, 1) := by decide +kernel
theorem d_N_corners_56 : decode b_N_corners 56 = .ok (.iaload, 1) := by decide +kernel
theorem d_N_corners_57 : decode b_N_corners 57 = .ok (.iload_n 3, 1) := by decide +kernel
theorem d_N_corners_58 : decode b_N_corners 58 = .ok (.invokevirtual 72, 3) := by decide +kernel
theorem d_N_corners_61 : decode b_N_corners 61 = .ok (.ifCond .ne 7, 3) := by decide +kernel
theorem d_N_corners_64 : decode b_N_corners 64 = .ok (.iconst 1, 1) := by decide +kernel
theorem d_N_corners_65 : decode b_N_corners 65 = .ok (.goto 4, 3) := by decide +kernel
theorem d_N_corners_68 : decode b_N_corners 68 = .ok (.iconst 0, 1) := by decide +kernel
theorem d_N_corners_69 : decode b_N_corners 69 = .ok (.iadd, 1) := by decide +kernel
theorem d_N_corners_70 : decode b_N_corners 70 = .ok (.istore_n 2, 1) := by decide +kernel
theorem d_N_corners_71 : decode b_N_corners 71 = .ok (.iinc 3 1, 3) := by decide +kernel
theorem d_N_corners_74 : decode b_N_corners 74 = .ok (.goto (-52), 3) := by decide +kernel
theorem d_N_corners_77 : decode b_N_corners 77 = .ok (.iload_n 2, 1) := by decide +kernel
theorem d_N_corners_78 : decode b_N_corners 78 = .ok (.ireturn, 1) := by decide +kernel
theorem d_N_locate_0 : decode b_N_locate 0 = .ok (.aload_n 0, 1) := by decide +kernel
theorem d_N_locate_1 : decode b_N_locate 1 = .ok (.invokevirtual 83, 3) := by decide +kernel
theorem d_N_locate_4 : decode b_N_locate 4 = .ok (.iload_n 1, 1) := by decide +kernel
theorem d_N_locate_5 : decode b_N_locate 5 = .ok (.iload_n 2, 1) := by decide +kernel
theorem d_N_locate_6 : decode b_N_locate 6 = .ok (.invokestatic 34, 3) := by decide +kernel
theorem d_N_locate_9 : decode b_N_locate 9 = .ok (.ifCond .eq 5, 3) := by decide +kernel
theorem d_N_locate_12 : decode b_N_locate 12 = .ok (.iconst (-1), 1) := by decide +kernel
theorem d_N_locate_13 : decode b_N_locate 13 = .ok (.ireturn, 1) := by decide +kernel
theorem d_N_locate_14 : decode b_N_locate 14 = .ok (.iconst 0, 1) := by decide +kernel
theorem d_N_locate_15 : decode b_N_locate 15 = .ok (.istore_n 3, 1) := by decide +kernel
theorem d_N_locate_16 : decode b_N_locate 16 = .ok (.iload_n 3, 1) := by decide +kernel
theorem d_N_locate_17 : decode b_N_locate 17 = .ok (.aload_n 0, 1) := by decide +kernel
theorem d_N_locate_18 : decode b_N_locate 18 = .ok (.getfield 75, 3) := by decide +kernel
theorem d_N_locate_21 : decode b_N_locate 21 = .ok (.if_icmp .ge 74, 3) := by decide +kernel
theorem d_N_locate_24 : decode b_N_locate 24 = .ok (.aload_n 0, 1) := by decide +kernel
theorem d_N_locate_25 : decode b_N_locate 25 = .ok (.aload_n 0, 1) := by decide +kernel
theorem d_N_locate_26 : decode b_N_locate 26 = .ok (.getfield 20, 3) := by decide +kernel
theorem d_N_locate_29 : decode b_N_locate 29 = .ok (.iload_n 3, 1) := by decide +kernel
theorem d_N_locate_30 : decode b_N_locate 30 = .ok (.iaload, 1) := by decide +kernel
theorem d_N_locate_31 : decode b_N_locate 31 = .ok (.aload_n 0, 1) := by decide +kernel
theorem d_N_locate_32 : decode b_N_locate 32 = .ok (.getfield 23, 3) := by decide +kernel
theorem d_N_locate_35 : decode b_N_locate 35 = .ok (.iload_n 3, 1) := by decide +kernel
theorem d_N_locate_36 : decode b_N_locate 36 = .ok (.iaload, 1) := by decide +kernel
theorem d_N_locate_37 : decode b_N_locate 37 = .ok (.iload_n 1, 1) := by decide +kernel
theorem d_N_locate_38 : decode b_N_locate 38 = .ok (.iload_n 2, 1) := by decide +kernel
theorem d_N_locate_39 : decode b_N_locate 39 = .ok (.invokevirtual 51, 3) := by decide +kernel
theorem d_N_locate_42 : decode b_N_locate 42 = .ok (.ifCond .lt 47, 3) := by decide +kernel
theorem d_N_locate_45 : decode b_N_locate 45 = .ok (.aload_n 0, 1) := by decide +kernel
theorem d_N_locate_46 : decode b_N_locate 46 = .ok (.aload_n 0, 1) := by decide +kernel
theorem d_N_locate_47 : decode b_N_locate 47 = .ok (.getfield 23, 3) := by decide +kernel
theorem d_N_locate_50 : decode b_N_locate 50 = .ok (.iload_n 3, 1) := by decide +kernel
theorem d_N_locate_51 : decode b_N_locate 51 = .ok (.iaload, 1) := by decide +kernel
theorem d_N_locate_52 : decode b_N_locate 52 = .ok (.aload_n 0, 1) := by decide +kernel
theorem d_N_locate_53 : decode b_N_locate 53 = .ok (.getfield 26, 3) := by decide +kernel
theorem d_N_locate_56 : decode b_N_locate 56 = .ok (.iload_n 3, 1) := by decide +kernel
theorem d_N_locate_57 : decode b_N_locate 57 = .ok (.iaload, 1) := by decide +kernel
theorem d_N_locate_58 : decode b_N_locate 58 = .ok (.iload_n 1, 1) := by decide +kernel
theorem d_N_locate_59 : decode b_N_locate 59 = .ok (.iload_n 2, 1) := by decide +kernel
theorem d_N_locate_60 : decode b_N_locate 60 = .ok (.invokevirtual 51, 3) := by decide +kernel
theorem d_N_locate_63 : decode b_N_locate 63 = .ok (.ifCond .lt 26, 3) := by decide +kernel
theorem d_N_locate_66 : decode b_N_locate 66 = .ok (.aload_n 0, 1) := by decide +kernel
theorem d_N_locate_67 : decode b_N_locate 67 = .ok (.aload_n 0, 1) := by decide +kernel
theorem d_N_locate_68 : decode b_N_locate 68 = .ok (.getfield 26, 3) := by decide +kernel
theorem d_N_locate_71 : decode b_N_locate 71 = .ok (.iload_n 3, 1) := by decide +kernel
theorem d_N_locate_72 : decode b_N_locate 72 = .ok (.iaload, 1) := by decide +kernel
theorem d_N_locate_73 : decode b_N_locate 73 = .ok (.aload_n 0, 1) := by decide +kernel
theorem d_N_locate_74 : decode b_N_locate 74 = .ok (.getfield 20, 3) := by decide +kernel
theorem d_N_locate_77 : decode b_N_locate 77 = .ok (.iload_n 3, 1) := by decide +kernel
theorem d_N_locate_78 : decode b_N_locate 78 = .ok (.iaload, 1) := by decide +kernel
theorem d_N_locate_79 : decode b_N_locate 79 = .ok (.iload_n 1, 1) := by decide +kernel
theorem d_N_locate_80 : decode b_N_locate 80 = .ok (.iload_n 2, 1) := by decide +kernel
theorem d_N_locate_81 : decode b_N_locate 81 = .ok (.invokevirtual 51, 3) := by decide +kernel
theorem d_N_locate_84 : decode b_N_locate 84 = .ok (.ifCond .lt 5, 3) := by decide +kernel
theorem d_N_locate_87 : decode b_N_locate 87 = .ok (.iload_n 3, 1) := by decide +kernel
theorem d_N_locate_88 : decode b_N_locate 88 = .ok (.ireturn, 1) := by decide +kernel
theorem d_N_locate_89 : decode b_N_locate 89 = .ok (.iinc 3 1, 3) := by decide +kernel
theorem d_N_locate_92 : decode b_N_locate 92 = .ok (.goto (-76), 3) := by decide +kernel
theorem d_N_locate_95 : decode b_N_locate 95 = .ok (.iconst (-1), 1) := by decide +kernel
theorem d_N_locate_96 : decode b_N_locate 96 = .ok (.ireturn, 1) := by decide +kernel
theorem d_N_nearest_0 : decode b_N_nearest 0 = .ok (.iload_n 1, 1) := by decide +kernel
theorem d_N_nearest_1 : decode b_N_nearest 1 = .ok (.iload_n 2, 1) := by decide +kernel
theorem d_N_nearest_2 : decode b_N_nearest 2 = .ok (.invokestatic 34, 3) := by decide +kernel
theorem d_N_nearest_5 : decode b_N_nearest 5 = .ok (.ifCond .eq 5, 3) := by decide +kernel
theorem d_N_nearest_8 : decode b_N_nearest 8 = .ok (.iconst (-1), 1) := by decide +kernel
theorem d_N_nearest_9 : decode b_N_nearest 9 = .ok (.ireturn, 1) := by decide +kernel
theorem d_N_nearest_10 : decode b_N_nearest 10 = .ok (.iconst (-1), 1) := by decide +kernel
theorem d_N_nearest_11 : decode b_N_nearest 11 = .ok (.istore_n 3, 1) := by decide +kernel
theorem d_N_nearest_12 : decode b_N_nearest 12 = .ok (.lconst 0, 1) := by decide +kernel
theorem d_N_nearest_13 : decode b_N_nearest 13 = .ok (.lstore 4, 2) := by decide +kernel
theorem d_N_nearest_15 : decode b_N_nearest 15 = .ok (.iconst 0, 1) := by decide +kernel
theorem d_N_nearest_16 : decode b_N_nearest 16 = .ok (.istore 6, 2) := by decide +kernel
theorem d_N_nearest_18 : decode b_N_nearest 18 = .ok (.iload 6, 2) := by decide +kernel
theorem d_N_nearest_20 : decode b_N_nearest 20 = .ok (.bipush 20, 2) := by decide +kernel
theorem d_N_nearest_22 : decode b_N_nearest 22 = .ok (.if_icmp .ge 75, 3) := by decide +kernel
theorem d_N_nearest_25 : decode b_N_nearest 25 = .ok (.aload_n 0, 1) := by decide +kernel
theorem d_N_nearest_26 : decode b_N_nearest 26 = .ok (.getfield 13, 3) := by decide +kernel
theorem d_N_nearest_29 : decode b_N_nearest 29 = .ok (.iload 6, 2) := by decide +kernel
theorem d_N_nearest_31 : decode b_N_nearest 31 = .ok (.iaload, 1) := by decide +kernel
theorem d_N_nearest_32 : decode b_N_nearest 32 = .ok (.iload_n 1, 1) := by decide +kernel
theorem d_N_nearest_33 : decode b_N_nearest 33 = .ok (.isub, 1) := by decide +kernel
theorem d_N_nearest_34 : decode b_N_nearest 34 = .ok (.i2l, 1) := by decide +kernel
theorem d_N_nearest_35 : decode b_N_nearest 35 = .ok (.lstore 7, 2) := by decide +kernel
theorem d_N_nearest_37 : decode b_N_nearest 37 = .ok (.aload_n 0, 1) := by decide +kernel
theorem d_N_nearest_38 : decode b_N_nearest 38 = .ok (.getfield 17, 3) := by decide +kernel
theorem d_N_nearest_41 : decode b_N_nearest 41 = .ok (.iload 6, 2) := by decide +kernel
theorem d_N_nearest_43 : decode b_N_nearest 43 = .ok (.iaload, 1) := by decide +kernel
theorem d_N_nearest_44 : decode b_N_nearest 44 = .ok (.iload_n 2, 1) := by decide +kernel
theorem d_N_nearest_45 : decode b_N_nearest 45 = .ok (.isub, 1) := by decide +kernel
theorem d_N_nearest_46 : decode b_N_nearest 46 = .ok (.i2l, 1) := by decide +kernel
theorem d_N_nearest_47 : decode b_N_nearest 47 = .ok (.lstore 9, 2) := by decide +kernel
theorem d_N_nearest_49 : decode b_N_nearest 49 = .ok (.lload 7, 2) := by decide +kernel
theorem d_N_nearest_51 : decode b_N_nearest 51 = .ok (.lload 7, 2) := by decide +kernel
theorem d_N_nearest_53 : decode b_N_nearest 53 = .ok (.lmul, 1) := by decide +kernel
theorem d_N_nearest_54 : decode b_N_nearest 54 = .ok (.lload 9, 2) := by decide +kernel
theorem d_N_nearest_56 : decode b_N_nearest 56 = .ok (.lload 9, 2) := by decide +kernel
theorem d_N_nearest_58 : decode b_N_nearest 58 = .ok (.lmul, 1) := by decide +kernel
theorem d_N_nearest_59 : decode b_N_nearest 59 = .ok (.ladd, 1) := by decide +kernel
theorem d_N_nearest_60 : decode b_N_nearest 60 = .ok (.lstore 11, 2) := by decide +kernel
theorem d_N_nearest_62 : decode b_N_nearest 62 = .ok (.aload_n 0, 1) := by decide +kernel
theorem d_N_nearest_63 : decode b_N_nearest 63 = .ok (.getfield 7, 3) := by decide +kernel
theorem d_N_nearest_66 : decode b_N_nearest 66 = .ok (.iload 6, 2) := by decide +kernel
theorem d_N_nearest_68 : decode b_N_nearest 68 = .ok (.baload, 1) := by decide +kernel
theorem d_N_nearest_69 : decode b_N_nearest 69 = .ok (.ifCond .eq 22, 3) := by decide +kernel
theorem d_N_nearest_72 : decode b_N_nearest 72 = .ok (.iload_n 3, 1) := by decide +kernel
theorem d_N_nearest_73 : decode b_N_nearest 73 = .ok (.ifCond .lt 11, 3) := by decide +kernel
theorem d_N_nearest_76 : decode b_N_nearest 76 = .ok (.lload 11, 2) := by decide +kernel
theorem d_N_nearest_78 : decode b_N_nearest 78 = .ok (.lload 4, 2) := by decide +kernel
theorem d_N_nearest_80 : decode b_N_nearest 80 = .ok (.lcmp, 1) := by decide +kernel
theorem d_N_nearest_81 : decode b_N_nearest 81 = .ok (.ifCond .ge 10, 3) := by decide +kernel
theorem d_N_nearest_84 : decode b_N_nearest 84 = .ok (.iload 6, 2) := by decide +kernel
theorem d_N_nearest_86 : decode b_N_nearest 86 = .ok (.istore_n 3, 1) := by decide +kernel
theorem d_N_nearest_87 : decode b_N_nearest 87 = .ok (.lload 11, 2) := by decide +kernel
theorem d_N_nearest_89 : decode b_N_nearest 89 = .ok (.lstore 4, 2) := by decide +kernel
theorem d_N_nearest_91 : decode b_N_nearest 91 = .ok (.iinc 6 1, 3) := by decide +kernel
theorem d_N_nearest_94 : decode b_N_nearest 94 = .ok (.goto (-76), 3) := by decide +kernel
theorem d_N_nearest_97 : decode b_N_nearest 97 = .ok (.iload_n 3, 1) := by decide +kernel
theorem d_N_nearest_98 : decode b_N_nearest 98 = .ok (.ireturn, 1) := by decide +kernel
theorem d_N_follow_0 : decode b_N_follow 0 = .ok (.iconst 0, 1) := by decide +kernel
theorem d_N_follow_1 : decode b_N_follow 1 = .ok (.istore 4, 2) := by decide +kernel
theorem d_N_follow_3 : decode b_N_follow 3 = .ok (.iconst 0, 1) := by decide +kernel
theorem d_N_follow_4 : decode b_N_follow 4 = .ok (.istore 5, 2) := by decide +kernel
theorem d_N_follow_6 : decode b_N_follow 6 = .ok (.iload 5, 2) := by decide +kernel
theorem d_N_follow_8 : decode b_N_follow 8 = .ok (.bipush 20, 2) := by decide +kernel
theorem d_N_follow_10 : decode b_N_follow 10 = .ok (.if_icmp .ge 81, 3) := by decide +kernel
theorem d_N_follow_13 : decode b_N_follow 13 = .ok (.iload 4, 2) := by decide +kernel
theorem d_N_follow_15 : decode b_N_follow 15 = .ok (.ifCond .ne 63, 3) := by decide +kernel
theorem d_N_follow_18 : decode b_N_follow 18 = .ok (.aload_n 0, 1) := by decide +kernel
theorem d_N_follow_19 : decode b_N_follow 19 = .ok (.getfield 7, 3) := by decide +kernel
theorem d_N_follow_22 : decode b_N_follow 22 = .ok (.iload 5, 2) := by decide +kernel
theorem d_N_follow_24 : decode b_N_follow 24 = .ok (.baload, 1) := by decide +kernel
theorem d_N_follow_25 : decode b_N_follow 25 = .ok (.ifCond .eq 57, 3) := by decide +kernel
theorem d_N_follow_28 : decode b_N_follow 28 = .ok (.iload 5, 2) := by decide +kernel
theorem d_N_follow_30 : decode b_N_follow 30 = .ok (.iload_n 2, 1) := by decide +kernel
theorem d_N_follow_31 : decode b_N_follow 31 = .ok (.if_icmp .eq 51, 3) := by decide +kernel
theorem d_N_follow_34 : decode b_N_follow 34 = .ok (.iload 5, 2) := by decide +kernel
theorem d_N_follow_36 : decode b_N_follow 36 = .ok (.iload_n 3, 1) := by decide +kernel
theorem d_N_follow_37 : decode b_N_follow 37 = .ok (.if_icmp .eq 45, 3) := by decide +kernel
theorem d_N_follow_40 : decode b_N_follow 40 = .ok (.aload_n 0, 1) := by decide +kernel
theorem d_N_follow_41 : decode b_N_follow 41 = .ok (.iload_n 2, 1) := by decide +kernel
theorem d_N_follow_42 : decode b_N_follow 42 = .ok (.iload_n 3, 1) := by decide +kernel
theorem d_N_follow_43 : decode b_N_follow 43 = .ok (.iload 5, 2) := by decide +kernel
theorem d_N_follow_45 : decode b_N_follow 45 = .ok (.invokevirtual 65, 3) := by decide +kernel
theorem d_N_follow_48 : decode b_N_follow 48 = .ok (.ifCond .ge 34, 3) := by decide +kernel
theorem d_N_follow_51 : decode b_N_follow 51 = .ok (.aload_n 0, 1) := by decide +kernel
theorem d_N_follow_52 : decode b_N_follow 52 = .ok (.aload_n 0, 1) := by decide +kernel
theorem d_N_follow_53 : decode b_N_follow 53 = .ok (.getfield 20, 3) := by decide +kernel
theorem d_N_follow_56 : decode b_N_follow 56 = .ok (.iload_n 1, 1) := by decide +kernel
theorem d_N_follow_57 : decode b_N_follow 57 = .ok (.iaload, 1) := by decide +kernel
theorem d_N_follow_58 : decode b_N_follow 58 = .ok (.aload_n 0, 1) := by decide +kernel
theorem d_N_follow_59 : decode b_N_follow 59 = .ok (.getfield 23, 3) := by decide +kernel
theorem d_N_follow_62 : decode b_N_follow 62 = .ok (.iload_n 1, 1) := by decide +kernel
theorem d_N_follow_63 : decode b_N_follow 63 = .ok (.iaload, 1) := by decide +kernel
theorem d_N_follow_64 : decode b_N_follow 64 = .ok (.aload_n 0, 1) := by decide +kernel
theorem d_N_follow_65 : decode b_N_follow 65 = .ok (.getfield 26, 3) := by decide +kernel
theorem d_N_follow_68 : decode b_N_follow 68 = .ok (.iload_n 1, 1) := by decide +kernel
theorem d_N_follow_69 : decode b_N_follow 69 = .ok (.iaload, 1) := by decide +kernel
theorem d_N_follow_70 : decode b_N_follow 70 = .ok (.iload 5, 2) := by decide +kernel
theorem d_N_follow_72 : decode b_N_follow 72 = .ok (.invokevirtual 72, 3) := by decide +kernel
theorem d_N_follow_75 : decode b_N_follow 75 = .ok (.ifCond .ne 7, 3) := by decide +kernel
theorem d_N_follow_78 : decode b_N_follow 78 = .ok (.iconst 1, 1) := by decide +kernel
theorem d_N_follow_79 : decode b_N_follow 79 = .ok (.goto 4, 3) := by decide +kernel
theorem d_N_follow_82 : decode b_N_follow 82 = .ok (.iconst 0, 1) := by decide +kernel
theorem d_N_follow_83 : decode b_N_follow 83 = .ok (.istore 4, 2) := by decide +kernel
theorem d_N_follow_85 : decode b_N_follow 85 = .ok (.iinc 5 1, 3) := by decide +kernel
theorem d_N_follow_88 : decode b_N_follow 88 = .ok (.goto (-82), 3) := by decide +kernel
theorem d_N_follow_91 : decode b_N_follow 91 = .ok (.iload 4, 2) := by decide +kernel
theorem d_N_follow_93 : decode b_N_follow 93 = .ok (.ifCond .ne 7, 3) := by decide +kernel
theorem d_N_follow_96 : decode b_N_follow 96 = .ok (.iconst 1, 1) := by decide +kernel
theorem d_N_follow_97 : decode b_N_follow 97 = .ok (.goto 4, 3) := by decide +kernel
theorem d_N_follow_100 : decode b_N_follow 100 = .ok (.iconst 0, 1) := by decide +kernel
theorem d_N_follow_101 : decode b_N_follow 101 = .ok (.ireturn, 1) := by decide +kernel
theorem d_N_flatNeighbours_0 : decode b_N_flatNeighbours 0 = .ok (.iconst (-1), 1) := by decide +kernel
theorem d_N_flatNeighbours_1 : decode b_N_flatNeighbours 1 = .ok (.istore_n 2, 1) := by decide +kernel
theorem d_N_flatNeighbours_2 : decode b_N_flatNeighbours 2 = .ok (.iconst (-1), 1) := by decide +kernel
theorem d_N_flatNeighbours_3 : decode b_N_flatNeighbours 3 = .ok (.istore_n 3, 1) := by decide +kernel
theorem d_N_flatNeighbours_4 : decode b_N_flatNeighbours 4 = .ok (.iconst 0, 1) := by decide +kernel
theorem d_N_flatNeighbours_5 : decode b_N_flatNeighbours 5 = .ok (.istore 4, 2) := by decide +kernel
theorem d_N_flatNeighbours_7 : decode b_N_flatNeighbours 7 = .ok (.iload 4, 2) := by decide +kernel
theorem d_N_flatNeighbours_9 : decode b_N_flatNeighbours 9 = .ok (.bipush 20, 2) := by decide +kernel
theorem d_N_flatNeighbours_11 : decode b_N_flatNeighbours 11 = .ok (.if_icmp .ge 87, 3) := by decide +kernel
theorem d_N_flatNeighbours_14 : decode b_N_flatNeighbours 14 = .ok (.aload_n 0, 1) := by decide +kernel
theorem d_N_flatNeighbours_15 : decode b_N_flatNeighbours 15 = .ok (.getfield 7, 3) := by decide +kernel
theorem d_N_flatNeighbours_18 : decode b_N_flatNeighbours 18 = .ok (.iload 4, 2) := by decide +kernel
theorem d_N_flatNeighbours_20 : decode b_N_flatNeighbours 20 = .ok (.baload, 1) := by decide +kernel
theorem d_N_flatNeighbours_21 : decode b_N_flatNeighbours 21 = .ok (.ifCond .eq 71, 3) := by decide +kernel
theorem d_N_flatNeighbours_24 : decode b_N_flatNeighbours 24 = .ok (.iload 4, 2) := by decide +kernel
theorem d_N_flatNeighbours_26 : decode b_N_flatNeighbours 26 = .ok (.iload_n 1, 1) := by decide +kernel
theorem d_N_flatNeighbours_27 : decode b_N_flatNeighbours 27 = .ok (.if_icmp .eq 65, 3) := by decide +kernel
theorem d_N_flatNeighbours_30 : decode b_N_flatNeighbours 30 = .ok (.aload_n 0, 1) := by decide +kernel
theorem d_N_flatNeighbours_31 : decode b_N_flatNeighbours 31 = .ok (.iload 4, 2) := by decide +kernel
theorem d_N_flatNeighbours_33 : decode b_N_flatNeighbours 33 = .ok (.iload_n 1, 1) := by decide +kernel
theorem d_N_flatNeighbours_34 : decode b_N_flatNeighbours 34 = .ok (.invokevirtual 69, 3) := by decide +kernel
theorem d_N_flatNeighbours_37 : decode b_N_flatNeighbours 37 = .ok (.ifCond .eq 22, 3) := by decide +kernel
theorem d_N_flatNeighbours_40 : decode b_N_flatNeighbours 40 = .ok (.iload_n 2, 1) := by decide +kernel
theorem d_N_flatNeighbours_41 : decode b_N_flatNeighbours 41 = .ok (.ifCond .lt 13, 3) := by decide +kernel
theorem d_N_flatNeighbours_44 : decode b_N_flatNeighbours 44 = .ok (.aload_n 0, 1) := by decide +kernel
theorem d_N_flatNeighbours_45 : decode b_N_flatNeighbours 45 = .ok (.iload_n 2, 1) := by decide +kernel
theorem d_N_flatNeighbours_46 : decode b_N_flatNeighbours 46 = .ok (.iload 4, 2) := by decide +kernel
theorem d_N_flatNeighbours_48 : decode b_N_flatNeighbours 48 = .ok (.invokevirtual 69, 3) := by decide +kernel
theorem d_N_flatNeighbours_51 : decode b_N_flatNeighbours 51 = .ok (.ifCond .eq 8, 3) := by decide +kernel
theorem d_N_flatNeighbours_54 : decode b_N_flatNeighbours 54 = .ok (.iload 4, 2) := by decide +kernel
theorem d_N_flatNeighbours_56 : decode b_N_flatNeighbours 56 = .ok (.goto 4, 3) := by decide +kernel
theorem d_N_flatNeighbours_59 : decode b_N_flatNeighbours 59 = .ok (.iload_n 2, 1) := by decide +kernel
theorem d_N_flatNeighbours_60 : decode b_N_flatNeighbours 60 = .ok (.istore_n 2, 1) := by decide +kernel
theorem d_N_flatNeighbours_61 : decode b_N_flatNeighbours 61 = .ok (.aload_n 0, 1) := by decide +kernel
theorem d_N_flatNeighbours_62 : decode b_N_flatNeighbours 62 = .ok (.iload_n 1, 1) := by decide +kernel
theorem d_N_flatNeighbours_63 : decode b_N_flatNeighbours 63 = .ok (.iload 4, 2) := by decide +kernel
theorem d_N_flatNeighbours_65 : decode b_N_flatNeighbours 65 = .ok (.invokevirtual 69, 3) := by decide +kernel
theorem d_N_flatNeighbours_68 : decode b_N_flatNeighbours 68 = .ok (.ifCond .eq 22, 3) := by decide +kernel
theorem d_N_flatNeighbours_71 : decode b_N_flatNeighbours 71 = .ok (.iload_n 3, 1) := by decide +kernel
theorem d_N_flatNeighbours_72 : decode b_N_flatNeighbours 72 = .ok (.ifCond .lt 13, 3) := by decide +kernel
theorem d_N_flatNeighbours_75 : decode b_N_flatNeighbours 75 = .ok (.aload_n 0, 1) := by decide +kernel
theorem d_N_flatNeighbours_76 : decode b_N_flatNeighbours 76 = .ok (.iload 4, 2) := by decide +kernel
theorem d_N_flatNeighbours_78 : decode b_N_flatNeighbours 78 = .ok (.iload_n 3, 1) := by decide +kernel
theorem d_N_flatNeighbours_79 : decode b_N_flatNeighbours 79 = .ok (.invokevirtual 69, 3) := by decide +kernel
theorem d_N_flatNeighbours_82 : decode b_N_flatNeighbours 82 = .ok (.ifCond .eq 8, 3) := by decide +kernel
theorem d_N_flatNeighbours_85 : decode b_N_flatNeighbours 85 = .ok (.iload 4, 2) := by decide +kernel
theorem d_N_flatNeighbours_87 : decode b_N_flatNeighbours 87 = .ok (.goto 4, 3) := by decide +kernel
theorem d_N_flatNeighbours_90 : decode b_N_flatNeighbours 90 = .ok (.iload_n 3, 1) := by decide +kernel
theorem d_N_flatNeighbours_91 : decode b_N_flatNeighbours 91 = .ok (.istore_n 3, 1) := by decide +kernel
theorem d_N_flatNeighbours_92 : decode b_N_flatNeighbours 92 = .ok (.iinc 4 1, 3) := by decide +kernel
theorem d_N_flatNeighbours_95 : decode b_N_flatNeighbours 95 = .ok (.goto (-88), 3) := by decide +kernel
theorem d_N_flatNeighbours_98 : decode b_N_flatNeighbours 98 = .ok (.iload_n 2, 1) := by decide +kernel
theorem d_N_flatNeighbours_99 : decode b_N_flatNeighbours 99 = .ok (.ifCond .ge 7, 3) := by decide +kernel
theorem d_N_flatNeighbours_102 : decode b_N_flatNeighbours 102 = .ok (.iconst 0, 1) := by decide +kernel
theorem d_N_flatNeighbours_103 : decode b_N_flatNeighbours 103 = .ok (.goto 6, 3) := by decide +kernel
theorem d_N_flatNeighbours_106 : decode b_N_flatNeighbours 106 = .ok (.iconst 1, 1) := by decide +kernel
theorem d_N_flatNeighbours_107 : decode b_N_flatNeighbours 107 = .ok (.iload_n 2, 1) := by decide +kernel
theorem d_N_flatNeighbours_108 : decode b_N_flatNeighbours 108 = .ok (.ishl, 1) := by decide +kernel
theorem d_N_flatNeighbours_109 : decode b_N_flatNeighbours 109 = .ok (.iload_n 3, 1) := by decide +kernel
theorem d_N_flatNeighbours_110 : decode b_N_flatNeighbours 110 = .ok (.ifCond .ge 7, 3) := by decide +kernel
theorem d_N_flatNeighbours_113 : decode b_N_flatNeighbours 113 = .ok (.iconst 0, 1) := by decide +kernel
theorem d_N_flatNeighbours_114 : decode b_N_flatNeighbours 114 = .ok (.goto 6, 3) := by decide +kernel
theorem d_N_flatNeighbours_117 : decode b_N_flatNeighbours 117 = .ok (.iconst 1, 1) := by decide +kernel
theorem d_N_flatNeighbours_118 : decode b_N_flatNeighbours 118 = .ok (.iload_n 3, 1) := by decide +kernel
theorem d_N_flatNeighbours_119 : decode b_N_flatNeighbours 119 = .ok (.ishl, 1) := by decide +kernel
theorem d_N_flatNeighbours_120 : decode b_N_flatNeighbours 120 = .ok (.iadd, 1) := by decide +kernel
theorem d_N_flatNeighbours_121 : decode b_N_flatNeighbours 121 = .ok (.ireturn, 1) := by decide +kernel
theorem d_N_link_0 : decode b_N_link 0 = .ok (.iload_n 3, 1) := by decide +kernel
theorem d_N_link_1 : decode b_N_link 1 = .ok (.iload_n 2, 1) := by decide +kernel
theorem d_N_link_2 : decode b_N_link 2 = .ok (.if_icmp .eq 9, 3) := by decide +kernel
theorem d_N_link_5 : decode b_N_link 5 = .ok (.iload 4, 2) := by decide +kernel
theorem d_N_link_7 : decode b_N_link 7 = .ok (.iload_n 2, 1) := by decide +kernel
theorem d_N_link_8 : decode b_N_link 8 = .ok (.if_icmp .ne 7, 3) := by decide +kernel
theorem d_N_link_11 : decode b_N_link 11 = .ok (.iconst 1, 1) := by decide +kernel
theorem d_N_link_12 : decode b_N_link 12 = .ok (.goto 4, 3) := by decide +kernel
theorem d_N_link_15 : decode b_N_link 15 = .ok (.iconst 0, 1) := by decide +kernel
theorem d_N_link_16 : decode b_N_link 16 = .ok (.istore 5, 2) := by decide +kernel
theorem d_N_link_18 : decode b_N_link 18 = .ok (.iload 5, 2) := by decide +kernel
theorem d_N_link_20 : decode b_N_link 20 = .ok (.ifCond .eq 30, 3) := by decide +kernel
theorem d_N_link_23 : decode b_N_link 23 = .ok (.aload_n 0, 1) := by decide +kernel
theorem d_N_link_24 : decode b_N_link 24 = .ok (.iload_n 1, 1) := by decide +kernel
theorem d_N_link_25 : decode b_N_link 25 = .ok (.iload_n 3, 1) := by decide +kernel
theorem d_N_link_26 : decode b_N_link 26 = .ok (.iload 4, 2) := by decide +kernel
theorem d_N_link_28 : decode b_N_link 28 = .ok (.invokevirtual 89, 3) := by decide +kernel
theorem d_N_link_31 : decode b_N_link 31 = .ok (.ifCond .eq 19, 3) := by decide +kernel
theorem d_N_link_34 : decode b_N_link 34 = .ok (.iconst 1, 1) := by decide +kernel
theorem d_N_link_35 : decode b_N_link 35 = .ok (.iload_n 3, 1) := by decide +kernel
theorem d_N_link_36 : decode b_N_link 36 = .ok (.iload_n 2, 1) := by decide +kernel
theorem d_N_link_37 : decode b_N_link 37 = .ok (.if_icmp .ne 8, 3) := by decide +kernel
theorem d_N_link_40 : decode b_N_link 40 = .ok (.iload 4, 2) := by decide +kernel
theorem d_N_link_42 : decode b_N_link 42 = .ok (.goto 4, 3) := by decide +kernel
theorem d_N_link_45 : decode b_N_link 45 = .ok (.iload_n 3, 1) := by decide +kernel
theorem d_N_link_46 : decode b_N_link 46 = .ok (.ishl, 1) := by decide +kernel
theorem d_N_link_47 : decode b_N_link 47 = .ok (.goto 4, 3) := by decide +kernel
theorem d_N_link_50 : decode b_N_link 50 = .ok (.iconst 0, 1) := by decide +kernel
theorem d_N_link_51 : decode b_N_link 51 = .ok (.ireturn, 1) := by decide +kernel
theorem d_N_neighbours_0 : decode b_N_neighbours 0 = .ok (.aload_n 0, 1) := by decide +kernel
theorem d_N_neighbours_1 : decode b_N_neighbours 1 = .ok (.iload_n 1, 1) := by decide +kernel
theorem d_N_neighbours_2 : decode b_N_neighbours 2 = .ok (.invokevirtual 46, 3) := by decide +kernel
theorem d_N_neighbours_5 : decode b_N_neighbours 5 = .ok (.ifCond .ne 5, 3) := by decide +kernel
theorem d_N_neighbours_8 : decode b_N_neighbours 8 = .ok (.iconst (-1), 1) := by decide +kernel
theorem d_N_neighbours_9 : decode b_N_neighbours 9 = .ok (.ireturn, 1) := by decide +kernel
theorem d_N_neighbours_10 : decode b_N_neighbours 10 = .ok (.aload_n 0, 1) := by decide +kernel
theorem d_N_neighbours_11 : decode b_N_neighbours 11 = .ok (.invokevirtual 83, 3) := by decide +kernel
theorem d_N_neighbours_14 : decode b_N_neighbours 14 = .ok (.aload_n 0, 1) := by decide +kernel
theorem d_N_neighbours_15 : decode b_N_neighbours 15 = .ok (.getfield 75, 3) := by decide +kernel
theorem d_N_neighbours_18 : decode b_N_neighbours 18 = .ok (.ifCond .ne 9, 3) := by decide +kernel
theorem d_N_neighbours_21 : decode b_N_neighbours 21 = .ok (.aload_n 0, 1) := by decide +kernel
theorem d_N_neighbours_22 : decode b_N_neighbours 22 = .ok (.iload_n 1, 1) := by decide +kernel
theorem d_N_neighbours_23 : decode b_N_neighbours 23 = .ok (.invokevirtual 92, 3) := by decide +kernel
theorem d_N_neighbours_26 : decode b_N_neighbours 26 = .ok (.ireturn, 1) := by decide +kernel
theorem d_N_neighbours_27 : decode b_N_neighbours 27 = .ok (.iconst 0, 1) := by decide +kernel
theorem d_N_neighbours_28 : decode b_N_neighbours 28 = .ok (.istore_n 2, 1) := by decide +kernel
theorem d_N_neighbours_29 : decode b_N_neighbours 29 = .ok (.iconst 0, 1) := by decide +kernel
theorem d_N_neighbours_30 : decode b_N_neighbours 30 = .ok (.istore_n 3, 1) := by decide +kernel
theorem d_N_neighbours_31 : decode b_N_neighbours 31 = .ok (.iload_n 3, 1) := by decide +kernel
theorem d_N_neighbours_32 : decode b_N_neighbours 32 = .ok (.aload_n 0, 1) := by decide +kernel
theorem d_N_neighbours_33 : decode b_N_neighbours 33 = .ok (.getfield 75, 3) := by decide +kernel
theorem d_N_neighbours_36 : decode b_N_neighbours 36 = .ok (.if_icmp .ge 68, 3) := by decide +kernel
theorem d_N_neighbours_39 : decode b_N_neighbours 39 = .ok (.iload_n 2, 1) := by decide +kernel
theorem d_N_neighbours_40 : decode b_N_neighbours 40 = .ok (.aload_n 0, 1) := by decide +kernel
theorem d_N_neighbours_41 : decode b_N_neighbours 41 = .ok (.iload_n 3, 1) := by decide +kernel
theorem d_N_neighbours_42 : decode b_N_neighbours 42 = .ok (.iload_n 1, 1) := by decide +kernel
theorem d_N_neighbours_43 : decode b_N_neighbours 43 = .ok (.aload_n 0, 1) := by decide +kernel
theorem d_N_neighbours_44 : decode b_N_neighbours 44 = .ok (.getfield 20, 3) := by decide +kernel
theorem d_N_neighbours_47 : decode b_N_neighbours 47 = .ok (.iload_n 3, 1) := by decide +kernel
theorem d_N_neighbours_48 : decode b_N_neighbours 48 = .ok (.iaload, 1) := by decide +kernel
theorem d_N_neighbours_49 : decode b_N_neighbours 49 = .ok (.aload_n 0, 1) := by decide +kernel
theorem d_N_neighbours_50 : decode b_N_neighbours 50 = .ok (.getfield 23, 3) := by decide +kernel
theorem d_N_neighbours_53 : decode b_N_neighbours 53 = .ok (.iload_n 3, 1) := by decide +kernel
theorem d_N_neighbours_54 : decode b_N_neighbours 54 = .ok (.iaload, 1) := by decide +kernel
theorem d_N_neighbours_55 : decode b_N_neighbours 55 = .ok (.invokevirtual 96, 3) := by decide +kernel
theorem d_N_neighbours_58 : decode b_N_neighbours 58 = .ok (.ior, 1) := by decide +kernel
theorem d_N_neighbours_59 : decode b_N_neighbours 59 = .ok (.aload_n 0, 1) := by decide +kernel
theorem d_N_neighbours_60 : decode b_N_neighbours 60 = .ok (.iload_n 3, 1) := by decide +kernel
theorem d_N_neighbours_61 : decode b_N_neighbours 61 = .ok (.iload_n 1, 1) := by decide +kernel
theorem d_N_neighbours_62 : decode b_N_neighbours 62 = .ok (.aload_n 0, 1) := by decide +kernel
theorem d_N_neighbours_63 : decode b_N_neighbours 63 = .ok (.getfield 23, 3) := by decide +kernel
theorem d_N_neighbours_66 : decode b_N_neighbours 66 = .ok (.iload_n 3, 1) := by decide +kernel
theorem d_N_neighbours_67 : decode b_N_neighbours 67 = .ok (.iaload, 1) := by decide +kernel
theorem d_N_neighbours_68 : decode b_N_neighbours 68 = .ok (.aload_n 0, 1) := by decide +kernel
theorem d_N_neighbours_69 : decode b_N_neighbours 69 = .ok (.getfield 26, 3) := by decide +kernel
theorem d_N_neighbours_72 : decode b_N_neighbours 72 = .ok (.iload_n 3, 1) := by decide +kernel
theorem d_N_neighbours_73 : decode b_N_neighbours 73 = .ok (.iaload, 1) := by decide +kernel
theorem d_N_neighbours_74 : decode b_N_neighbours 74 = .ok (.invokevirtual 96, 3) := by decide +kernel
theorem d_N_neighbours_77 : decode b_N_neighbours 77 = .ok (.ior, 1) := by decide +kernel
theorem d_N_neighbours_78 : decode b_N_neighbours 78 = .ok (.aload_n 0, 1) := by decide +kernel
theorem d_N_neighbours_79 : decode b_N_neighbours 79 = .ok (.iload_n 3, 1) := by decide +kernel
theorem d_N_neighbours_80 : decode b_N_neighbours 80 = .ok (.iload_n 1, 1) := by decide +kernel
theorem d_N_neighbours_81 : decode b_N_neighbours 81 = .ok (.aload_n 0, 1) := by decide +kernel
theorem d_N_neighbours_82 : decode b_N_neighbours 82 = .ok (.getfield 26, 3) := by decide +kernel
theorem d_N_neighbours_85 : decode b_N_neighbours 85 = .ok (.iload_n 3, 1) := by decide +kernel
theorem d_N_neighbours_86 : decode b_N_neighbours 86 = .ok (.iaload, 1) := by decide +kernel
theorem d_N_neighbours_87 : decode b_N_neighbours 87 = .ok (.aload_n 0, 1) := by decide +kernel
theorem d_N_neighbours_88 : decode b_N_neighbours 88 = .ok (.getfield 20, 3) := by decide +kernel
theorem d_N_neighbours_91 : decode b_N_neighbours 91 = .ok (.iload_n 3, 1) := by decide +kernel
theorem d_N_neighbours_92 : decode b_N_neighbours 92 = .ok (.iaload, 1) := by decide +kernel
theorem d_N_neighbours_93 : decode b_N_neighbours 93 = .ok (.invokevirtual 96, 3) := by decide +kernel
theorem d_N_neighbours_96 : decode b_N_neighbours 96 = .ok (.ior, 1) := by decide +kernel
theorem d_N_neighbours_97 : decode b_N_neighbours 97 = .ok (.istore_n 2, 1) := by decide +kernel
theorem d_N_neighbours_98 : decode b_N_neighbours 98 = .ok (.iinc 3 1, 3) := by decide +kernel
theorem d_N_neighbours_101 : decode b_N_neighbours 101 = .ok (.goto (-70), 3) := by decide +kernel
theorem d_N_neighbours_104 : decode b_N_neighbours 104 = .ok (.iload_n 2, 1) := by decide +kernel
theorem d_N_neighbours_105 : decode b_N_neighbours 105 = .ok (.ireturn, 1) := by decide +kernel
theorem d_N_earliest_0 : decode b_N_earliest 0 = .ok (.iconst (-1), 1) := by decide +kernel
theorem d_N_earliest_1 : decode b_N_earliest 1 = .ok (.istore_n 1, 1) := by decide +kernel
theorem d_N_earliest_2 : decode b_N_earliest 2 = .ok (.iconst 0, 1) := by decide +kernel
theorem d_N_earliest_3 : decode b_N_earliest 3 = .ok (.istore_n 2, 1) := by decide +kernel
theorem d_N_earliest_4 : decode b_N_earliest 4 = .ok (.iload_n 2, 1) := by decide +kernel
theorem d_N_earliest_5 : decode b_N_earliest 5 = .ok (.bipush 20, 2) := by decide +kernel
theorem d_N_earliest_7 : decode b_N_earliest 7 = .ok (.if_icmp .ge 37, 3) := by decide +kernel
theorem d_N_earliest_10 : decode b_N_earliest 10 = .ok (.aload_n 0, 1) := by decide +kernel
theorem d_N_earliest_11 : decode b_N_earliest 11 = .ok (.getfield 7, 3) := by decide +kernel
theorem d_N_earliest_14 : decode b_N_earliest 14 = .ok (.iload_n 2, 1) := by decide +kernel
theorem d_N_earliest_15 : decode b_N_earliest 15 = .ok (.baload, 1) := by decide +kernel
theorem d_N_earliest_16 : decode b_N_earliest 16 = .ok (.ifCond .eq 20, 3) := by decide +kernel
theorem d_N_earliest_19 : decode b_N_earliest 19 = .ok (.iload_n 1, 1) := by decide +kernel
theorem d_N_earliest_20 : decode b_N_earliest 20 = .ok (.ifCond .lt 12, 3) := by decide +kernel
theorem d_N_earliest_23 : decode b_N_earliest 23 = .ok (.aload_n 0, 1) := by decide +kernel
theorem d_N_earliest_24 : decode b_N_earliest 24 = .ok (.iload_n 2, 1) := by decide +kernel
theorem d_N_earliest_25 : decode b_N_earliest 25 = .ok (.iload_n 1, 1) := by decide +kernel
theorem d_N_earliest_26 : decode b_N_earliest 26 = .ok (.invokevirtual 69, 3) := by decide +kernel
theorem d_N_earliest_29 : decode b_N_earliest 29 = .ok (.ifCond .eq 7, 3) := by decide +kernel
theorem d_N_earliest_32 : decode b_N_earliest 32 = .ok (.iload_n 2, 1) := by decide +kernel
theorem d_N_earliest_33 : decode b_N_earliest 33 = .ok (.goto 4, 3) := by decide +kernel
theorem d_N_earliest_36 : decode b_N_earliest 36 = .ok (.iload_n 1, 1) := by decide +kernel
theorem d_N_earliest_37 : decode b_N_earliest 37 = .ok (.istore_n 1, 1) := by decide +kernel
theorem d_N_earliest_38 : decode b_N_earliest 38 = .ok (.iinc 2 1, 3) := by decide +kernel
theorem d_N_earliest_41 : decode b_N_earliest 41 = .ok (.goto (-37), 3) := by decide +kernel
theorem d_N_earliest_44 : decode b_N_earliest 44 = .ok (.iload_n 1, 1) := by decide +kernel
theorem d_N_earliest_45 : decode b_N_earliest 45 = .ok (.ireturn, 1) := by decide +kernel
theorem d_N_distance_0 : decode b_N_distance 0 = .ok (.aload_n 0, 1) := by decide +kernel
theorem d_N_distance_1 : decode b_N_distance 1 = .ok (.getfield 13, 3) := by decide +kernel
theorem d_N_distance_4 : decode b_N_distance 4 = .ok (.iload_n 1, 1) := by decide +kernel
theorem d_N_distance_5 : decode b_N_distance 5 = .ok (.iaload, 1) := by decide +kernel
theorem d_N_distance_6 : decode b_N_distance 6 = .ok (.aload_n 0, 1) := by decide +kernel
theorem d_N_distance_7 : decode b_N_distance 7 = .ok (.getfield 13, 3) := by decide +kernel
theorem d_N_distance_10 : decode b_N_distance 10 = .ok (.iload_n 2, 1) := by decide +kernel
theorem d_N_distance_11 : decode b_N_distance 11 = .ok (.iaload, 1) := by decide +kernel
theorem d_N_distance_12 : decode b_N_distance 12 = .ok (.isub, 1) := by decide +kernel
theorem d_N_distance_13 : decode b_N_distance 13 = .ok (.i2l, 1) := by decide +kernel
theorem d_N_distance_14 : decode b_N_distance 14 = .ok (.lstore_n 3, 1) := by decide +kernel
theorem d_N_distance_15 : decode b_N_distance 15 = .ok (.aload_n 0, 1) := by decide +kernel
theorem d_N_distance_16 : decode b_N_distance 16 = .ok (.getfield 17, 3) := by decide +kernel
theorem d_N_distance_19 : decode b_N_distance 19 = .ok (.iload_n 1, 1) := by decide +kernel
theorem d_N_distance_20 : decode b_N_distance 20 = .ok (.iaload, 1) := by decide +kernel
theorem d_N_distance_21 : decode b_N_distance 21 = .ok (.aload_n 0, 1) := by decide +kernel
theorem d_N_distance_22 : decode b_N_distance 22 = .ok (.getfield 17, 3) := by decide +kernel
theorem d_N_distance_25 : decode b_N_distance 25 = .ok (.iload_n 2, 1) := by decide +kernel
theorem d_N_distance_26 : decode b_N_distance 26 = .ok (.iaload, 1) := by decide +kernel
theorem d_N_distance_27 : decode b_N_distance 27 = .ok (.isub, 1) := by decide +kernel
theorem d_N_distance_28 : decode b_N_distance 28 = .ok (.i2l, 1) := by decide +kernel
theorem d_N_distance_29 : decode b_N_distance 29 = .ok (.lstore 5, 2) := by decide +kernel
theorem d_N_distance_31 : decode b_N_distance 31 = .ok (.lload_n 3, 1) := by decide +kernel
theorem d_N_distance_32 : decode b_N_distance 32 = .ok (.lload_n 3, 1) := by decide +kernel
theorem d_N_distance_33 : decode b_N_distance 33 = .ok (.lmul, 1) := by decide +kernel
theorem d_N_distance_34 : decode b_N_distance 34 = .ok (.lload 5, 2) := by decide +kernel
theorem d_N_distance_36 : decode b_N_distance 36 = .ok (.lload 5, 2) := by decide +kernel
theorem d_N_distance_38 : decode b_N_distance 38 = .ok (.lmul, 1) := by decide +kernel
theorem d_N_distance_39 : decode b_N_distance 39 = .ok (.ladd, 1) := by decide +kernel
theorem d_N_distance_40 : decode b_N_distance 40 = .ok (.lreturn, 1) := by decide +kernel
theorem d_N_onward_0 : decode b_N_onward 0 = .ok (.iconst (-1), 1) := by decide +kernel
theorem d_N_onward_1 : decode b_N_onward 1 = .ok (.istore_n 2, 1) := by decide +kernel
theorem d_N_onward_2 : decode b_N_onward 2 = .ok (.iconst 0, 1) := by decide +kernel
theorem d_N_onward_3 : decode b_N_onward 3 = .ok (.istore_n 3, 1) := by decide +kernel
theorem d_N_onward_4 : decode b_N_onward 4 = .ok (.iload_n 3, 1) := by decide +kernel
theorem d_N_onward_5 : decode b_N_onward 5 = .ok (.bipush 20, 2) := by decide +kernel
theorem d_N_onward_7 : decode b_N_onward 7 = .ok (.if_icmp .ge 110, 3) := by decide +kernel
theorem d_N_onward_10 : decode b_N_onward 10 = .ok (.aload_n 0, 1) := by decide +kernel
theorem d_N_onward_11 : decode b_N_onward 11 = .ok (.getfield 7, 3) := by decide +kernel
theorem d_N_onward_14 : decode b_N_onward 14 = .ok (.iload_n 3, 1) := by decide +kernel
theorem d_N_onward_15 : decode b_N_onward 15 = .ok (.baload, 1) := by decide +kernel
theorem d_N_onward_16 : decode b_N_onward 16 = .ok (.ifCond .eq 12, 3) := by decide +kernel
theorem d_N_onward_19 : decode b_N_onward 19 = .ok (.iload_n 3, 1) := by decide +kernel
theorem d_N_onward_20 : decode b_N_onward 20 = .ok (.iload_n 1, 1) := by decide +kernel
theorem d_N_onward_21 : decode b_N_onward 21 = .ok (.if_icmp .eq 7, 3) := by decide +kernel
theorem d_N_onward_24 : decode b_N_onward 24 = .ok (.iconst 1, 1) := by decide +kernel
theorem d_N_onward_25 : decode b_N_onward 25 = .ok (.goto 4, 3) := by decide +kernel
theorem d_N_onward_28 : decode b_N_onward 28 = .ok (.iconst 0, 1) := by decide +kernel
theorem d_N_onward_29 : decode b_N_onward 29 = .ok (.istore 4, 2) := by decide +kernel
theorem d_N_onward_31 : decode b_N_onward 31 = .ok (.iconst 0, 1) := by decide +kernel
theorem d_N_onward_32 : decode b_N_onward 32 = .ok (.istore 5, 2) := by decide +kernel
theorem d_N_onward_34 : decode b_N_onward 34 = .ok (.iload 5, 2) := by decide +kernel
theorem d_N_onward_36 : decode b_N_onward 36 = .ok (.bipush 20, 2) := by decide +kernel
theorem d_N_onward_38 : decode b_N_onward 38 = .ok (.if_icmp .ge 42, 3) := by decide +kernel
theorem d_N_onward_41 : decode b_N_onward 41 = .ok (.iload 4, 2) := by decide +kernel
theorem d_N_onward_43 : decode b_N_onward 43 = .ok (.ifCond .eq 37, 3) := by decide +kernel
theorem d_N_onward_46 : decode b_N_onward 46 = .ok (.aload_n 0, 1) := by decide +kernel
theorem d_N_onward_47 : decode b_N_onward 47 = .ok (.getfield 7, 3) := by decide +kernel
theorem d_N_onward_50 : decode b_N_onward 50 = .ok (.iload 5, 2) := by decide +kernel
theorem d_N_onward_52 : decode b_N_onward 52 = .ok (.baload, 1) := by decide +kernel
theorem d_N_onward_53 : decode b_N_onward 53 = .ok (.ifCond .eq 14, 3) := by decide +kernel
theorem d_N_onward_56 : decode b_N_onward 56 = .ok (.aload_n 0, 1) := by decide +kernel
theorem d_N_onward_57 : decode b_N_onward 57 = .ok (.iload_n 1, 1) := by decide +kernel
theorem d_N_onward_58 : decode b_N_onward 58 = .ok (.iload_n 3, 1) := by decide +kernel
theorem d_N_onward_59 : decode b_N_onward 59 = .ok (.iload 5, 2) := by decide +kernel
theorem d_N_onward_61 : decode b_N_onward 61 = .ok (.invokevirtual 65, 3) := by decide +kernel
theorem d_N_onward_64 : decode b_N_onward 64 = .ok (.ifCond .lt 7, 3) := by decide +kernel
theorem d_N_onward_67 : decode b_N_onward 67 = .ok (.iconst 1, 1) := by decide +kernel
theorem d_N_onward_68 : decode b_N_onward 68 = .ok (.goto 4, 3) := by decide +kernel
theorem d_N_onward_71 : decode b_N_onward 71 = .ok (.iconst 0, 1) := by decide +kernel
theorem d_N_onward_72 : decode b_N_onward 72 = .ok (.istore 4, 2) := by decide +kernel
theorem d_N_onward_74 : decode b_N_onward 74 = .ok (.iinc 5 1, 3) := by decide +kernel
theorem d_N_onward_77 : decode b_N_onward 77 = .ok (.goto (-43), 3) := by decide +kernel
theorem d_N_onward_80 : decode b_N_onward 80 = .ok (.iload 4, 2) := by decide +kernel
theorem d_N_onward_82 : decode b_N_onward 82 = .ok (.ifCond .eq 27, 3) := by decide +kernel
theorem d_N_onward_85 : decode b_N_onward 85 = .ok (.iload_n 2, 1) := by decide +kernel
theorem d_N_onward_86 : decode b_N_onward 86 = .ok (.ifCond .lt 19, 3) := by decide +kernel
theorem d_N_onward_89 : decode b_N_onward 89 = .ok (.aload_n 0, 1) := by decide +kernel
theorem d_N_onward_90 : decode b_N_onward 90 = .ok (.iload_n 1, 1) := by decide +kernel
theorem d_N_onward_91 : decode b_N_onward 91 = .ok (.iload_n 3, 1) := by decide +kernel
theorem d_N_onward_92 : decode b_N_onward 92 = .ok (.invokevirtual 99, 3) := by decide +kernel
theorem d_N_onward_95 : decode b_N_onward 95 = .ok (.aload_n 0, 1) := by decide +kernel
theorem d_N_onward_96 : decode b_N_onward 96 = .ok (.iload_n 1, 1) := by decide +kernel
theorem d_N_onward_97 : decode b_N_onward 97 = .ok (.iload_n 2, 1) := by decide +kernel
theorem d_N_onward_98 : decode b_N_onward 98 = .ok (.invokevirtual 99, 3) := by decide +kernel
theorem d_N_onward_101 : decode b_N_onward 101 = .ok (.lcmp, 1) := by decide +kernel
theorem d_N_onward_102 : decode b_N_onward 102 = .ok (.ifCond .ge 7, 3) := by decide +kernel
theorem d_N_onward_105 : decode b_N_onward 105 = .ok (.iload_n 3, 1) := by decide +kernel
theorem d_N_onward_106 : decode b_N_onward 106 = .ok (.goto 4, 3) := by decide +kernel
theorem d_N_onward_109 : decode b_N_onward 109 = .ok (.iload_n 2, 1) := by decide +kernel
theorem d_N_onward_110 : decode b_N_onward 110 = .ok (.istore_n 2, 1) := by decide +kernel
theorem d_N_onward_111 : decode b_N_onward 111 = .ok (.iinc 3 1, 3) := by decide +kernel
theorem d_N_onward_114 : decode b_N_onward 114 = .ok (.goto (-110), 3) := by decide +kernel
theorem d_N_onward_117 : decode b_N_onward 117 = .ok (.iload_n 2, 1) := by decide +kernel
theorem d_N_onward_118 : decode b_N_onward 118 = .ok (.ireturn, 1) := by decide +kernel
theorem d_N_later_0 : decode b_N_later 0 = .ok (.iconst (-1), 1) := by decide +kernel
theorem d_N_later_1 : decode b_N_later 1 = .ok (.istore_n 2, 1) := by decide +kernel
theorem d_N_later_2 : decode b_N_later 2 = .ok (.iconst 0, 1) := by decide +kernel
theorem d_N_later_3 : decode b_N_later 3 = .ok (.istore_n 3, 1) := by decide +kernel
theorem d_N_later_4 : decode b_N_later 4 = .ok (.iload_n 3, 1) := by decide +kernel
theorem d_N_later_5 : decode b_N_later 5 = .ok (.bipush 20, 2) := by decide +kernel
theorem d_N_later_7 : decode b_N_later 7 = .ok (.if_icmp .ge 46, 3) := by decide +kernel
theorem d_N_later_10 : decode b_N_later 10 = .ok (.aload_n 0, 1) := by decide +kernel
theorem d_N_later_11 : decode b_N_later 11 = .ok (.getfield 7, 3) := by decide +kernel
theorem d_N_later_14 : decode b_N_later 14 = .ok (.iload_n 3, 1) := by decide +kernel
theorem d_N_later_15 : decode b_N_later 15 = .ok (.baload, 1) := by decide +kernel
theorem d_N_later_16 : decode b_N_later 16 = .ok (.ifCond .eq 29, 3) := by decide +kernel
theorem d_N_later_19 : decode b_N_later 19 = .ok (.aload_n 0, 1) := by decide +kernel
theorem d_N_later_20 : decode b_N_later 20 = .ok (.iload_n 1, 1) := by decide +kernel
theorem d_N_later_21 : decode b_N_later 21 = .ok (.iload_n 3, 1) := by decide +kernel
theorem d_N_later_22 : decode b_N_later 22 = .ok (.invokevirtual 69, 3) := by decide +kernel
theorem d_N_later_25 : decode b_N_later 25 = .ok (.ifCond .eq 20, 3) := by decide +kernel
theorem d_N_later_28 : decode b_N_later 28 = .ok (.iload_n 2, 1) := by decide +kernel
theorem d_N_later_29 : decode b_N_later 29 = .ok (.ifCond .lt 12, 3) := by decide +kernel
theorem d_N_later_32 : decode b_N_later 32 = .ok (.aload_n 0, 1) := by decide +kernel
theorem d_N_later_33 : decode b_N_later 33 = .ok (.iload_n 3, 1) := by decide +kernel
theorem d_N_later_34 : decode b_N_later 34 = .ok (.iload_n 2, 1) := by decide +kernel
theorem d_N_later_35 : decode b_N_later 35 = .ok (.invokevirtual 69, 3) := by decide +kernel
theorem d_N_later_38 : decode b_N_later 38 = .ok (.ifCond .eq 7, 3) := by decide +kernel
theorem d_N_later_41 : decode b_N_later 41 = .ok (.iload_n 3, 1) := by decide +kernel
theorem d_N_later_42 : decode b_N_later 42 = .ok (.goto 4, 3) := by decide +kernel
theorem d_N_later_45 : decode b_N_later 45 = .ok (.iload_n 2, 1) := by decide +kernel
theorem d_N_later_46 : decode b_N_later 46 = .ok (.istore_n 2, 1) := by decide +kernel
theorem d_N_later_47 : decode b_N_later 47 = .ok (.iinc 3 1, 3) := by decide +kernel
theorem d_N_later_50 : decode b_N_later 50 = .ok (.goto (-46), 3) := by decide +kernel
theorem d_N_later_53 : decode b_N_later 53 = .ok (.iload_n 2, 1) := by decide +kernel
theorem d_N_later_54 : decode b_N_later 54 = .ok (.ireturn, 1) := by decide +kernel
theorem d_N_goRound_0 : decode b_N_goRound 0 = .ok (.aload_n 0, 1) := by decide +kernel
theorem d_N_goRound_1 : decode b_N_goRound 1 = .ok (.invokevirtual 83, 3) := by decide +kernel
theorem d_N_goRound_4 : decode b_N_goRound 4 = .ok (.aload_n 0, 1) := by decide +kernel
theorem d_N_goRound_5 : decode b_N_goRound 5 = .ok (.iconst 0, 1) := by decide +kernel
theorem d_N_goRound_6 : decode b_N_goRound 6 = .ok (.putfield 103, 3) := by decide +kernel
theorem d_N_goRound_9 : decode b_N_goRound 9 = .ok (.aload_n 0, 1) := by decide +kernel
theorem d_N_goRound_10 : decode b_N_goRound 10 = .ok (.invokevirtual 106, 3) := by decide +kernel
theorem d_N_goRound_13 : decode b_N_goRound 13 = .ok (.istore_n 1, 1) := by decide +kernel
theorem d_N_goRound_14 : decode b_N_goRound 14 = .ok (.iload_n 1, 1) := by decide +kernel
theorem d_N_goRound_15 : decode b_N_goRound 15 = .ok (.istore_n 2, 1) := by decide +kernel
theorem d_N_goRound_16 : decode b_N_goRound 16 = .ok (.iload_n 2, 1) := by decide +kernel
theorem d_N_goRound_17 : decode b_N_goRound 17 = .ok (.ifCond .lt 67, 3) := by decide +kernel
theorem d_N_goRound_20 : decode b_N_goRound 20 = .ok (.aload_n 0, 1) := by decide +kernel
theorem d_N_goRound_21 : decode b_N_goRound 21 = .ok (.getfield 103, 3) := by decide +kernel
theorem d_N_goRound_24 : decode b_N_goRound 24 = .ok (.bipush 20, 2) := by decide +kernel
theorem d_N_goRound_26 : decode b_N_goRound 26 = .ok (.if_icmp .ge 58, 3) := by decide +kernel
theorem d_N_goRound_29 : decode b_N_goRound 29 = .ok (.aload_n 0, 1) := by decide +kernel
theorem d_N_goRound_30 : decode b_N_goRound 30 = .ok (.getfield 29, 3) := by decide +kernel
theorem d_N_goRound_33 : decode b_N_goRound 33 = .ok (.aload_n 0, 1) := by decide +kernel
theorem d_N_goRound_34 : decode b_N_goRound 34 = .ok (.getfield 103, 3) := by decide +kernel
theorem d_N_goRound_37 : decode b_N_goRound 37 = .ok (.iload_n 2, 1) := by decide +kernel
theorem d_N_goRound_38 : decode b_N_goRound 38 = .ok (.iastore, 1) := by decide +kernel
theorem d_N_goRound_39 : decode b_N_goRound 39 = .ok (.aload_n 0, 1) := by decide +kernel
theorem d_N_goRound_40 : decode b_N_goRound 40 = .ok (.dup, 1) := by decide +kernel
theorem d_N_goRound_41 : decode b_N_goRound 41 = .ok (.getfield 103, 3) := by decide +kernel
theorem d_N_goRound_44 : decode b_N_goRound 44 = .ok (.iconst 1, 1) := by decide +kernel
theorem d_N_goRound_45 : decode b_N_goRound 45 = .ok (.iadd, 1) := by decide +kernel
theorem d_N_goRound_46 : decode b_N_goRound 46 = .ok (.putfield 103, 3) := by decide +kernel
theorem d_N_goRound_49 : decode b_N_goRound 49 = .ok (.aload_n 0, 1) := by decide +kernel
theorem d_N_goRound_50 : decode b_N_goRound 50 = .ok (.getfield 75, 3) := by decide +kernel
theorem d_N_goRound_53 : decode b_N_goRound 53 = .ok (.ifCond .ne 11, 3) := by decide +kernel
theorem d_N_goRound_56 : decode b_N_goRound 56 = .ok (.aload_n 0, 1) := by decide +kernel
theorem d_N_goRound_57 : decode b_N_goRound 57 = .ok (.iload_n 2, 1) := by decide +kernel
theorem d_N_goRound_58 : decode b_N_goRound 58 = .ok (.invokevirtual 110, 3) := by decide +kernel
theorem d_N_goRound_61 : decode b_N_goRound 61 = .ok (.goto 8, 3) := by decide +kernel
theorem d_N_goRound_64 : decode b_N_goRound 64 = .ok (.aload_n 0, 1) := by decide +kernel
theorem d_N_goRound_65 : decode b_N_goRound 65 = .ok (.iload_n 2, 1) := by decide +kernel
theorem d_N_goRound_66 : decode b_N_goRound 66 = .ok (.invokevirtual 113, 3) := by decide +kernel
theorem d_N_goRound_69 : decode b_N_goRound 69 = .ok (.istore_n 2, 1) := by decide +kernel
theorem d_N_goRound_70 : decode b_N_goRound 70 = .ok (.iload_n 2, 1) := by decide +kernel
theorem d_N_goRound_71 : decode b_N_goRound 71 = .ok (.iload_n 1, 1) := by decide +kernel
theorem d_N_goRound_72 : decode b_N_goRound 72 = .ok (.if_icmp .ne 7, 3) := by decide +kernel
theorem d_N_goRound_75 : decode b_N_goRound 75 = .ok (.iconst (-1), 1) := by decide +kernel
theorem d_N_goRound_76 : decode b_N_goRound 76 = .ok (.goto 4, 3) := by decide +kernel
theorem d_N_goRound_79 : decode b_N_goRound 79 = .ok (.iload_n 2, 1) := by decide +kernel
theorem d_N_goRound_80 : decode b_N_goRound 80 = .ok (.istore_n 2, 1) := by decide +kernel
theorem d_N_goRound_81 : decode b_N_goRound 81 = .ok (.goto (-65), 3) := by decide +kernel
theorem d_N_goRound_84 : decode b_N_goRound 84 = .ok (.return_, 1) := by decide +kernel
theorem d_N_boundary_0 : decode b_N_boundary 0 = .ok (.aload_n 0, 1) := by decide +kernel
theorem d_N_boundary_1 : decode b_N_boundary 1 = .ok (.invokevirtual 116, 3) := by decide +kernel
theorem d_N_boundary_4 : decode b_N_boundary 4 = .ok (.iload_n 1, 1) := by decide +kernel
theorem d_N_boundary_5 : decode b_N_boundary 5 = .ok (.ifCond .lt 11, 3) := by decide +kernel
theorem d_N_boundary_8 : decode b_N_boundary 8 = .ok (.iload_n 1, 1) := by decide +kernel
theorem d_N_boundary_9 : decode b_N_boundary 9 = .ok (.aload_n 0, 1) := by decide +kernel
theorem d_N_boundary_10 : decode b_N_boundary 10 = .ok (.getfield 103, 3) := by decide +kernel
theorem d_N_boundary_13 : decode b_N_boundary 13 = .ok (.if_icmp .lt 7, 3) := by decide +kernel
theorem d_N_boundary_16 : decode b_N_boundary 16 = .ok (.iconst (-1), 1) := by decide +kernel
theorem d_N_boundary_17 : decode b_N_boundary 17 = .ok (.goto 9, 3) := by decide +kernel
theorem d_N_boundary_20 : decode b_N_boundary 20 = .ok (.aload_n 0, 1) := by decide +kernel
theorem d_N_boundary_21 : decode b_N_boundary 21 = .ok (.getfield 29, 3) := by decide +kernel
theorem d_N_boundary_24 : decode b_N_boundary 24 = .ok (.iload_n 1, 1) := by decide +kernel
theorem d_N_boundary_25 : decode b_N_boundary 25 = .ok (.iaload, 1) := by decide +kernel
theorem d_N_boundary_26 : decode b_N_boundary 26 = .ok (.ireturn, 1) := by decide +kernel
theorem d_N_inside_0 : decode b_N_inside 0 = .ok (.aload_n 0, 1) := by decide +kernel
theorem d_N_inside_1 : decode b_N_inside 1 = .ok (.iload_n 1, 1) := by decide +kernel
theorem d_N_inside_2 : decode b_N_inside 2 = .ok (.invokevirtual 46, 3) := by decide +kernel
theorem d_N_inside_5 : decode b_N_inside 5 = .ok (.ifCond .eq 38, 3) := by decide +kernel
theorem d_N_inside_8 : decode b_N_inside 8 = .ok (.aload_n 0, 1) := by decide +kernel
theorem d_N_inside_9 : decode b_N_inside 9 = .ok (.iload_n 2, 1) := by decide +kernel
theorem d_N_inside_10 : decode b_N_inside 10 = .ok (.invokevirtual 46, 3) := by decide +kernel
theorem d_N_inside_13 : decode b_N_inside 13 = .ok (.ifCond .eq 30, 3) := by decide +kernel
theorem d_N_inside_16 : decode b_N_inside 16 = .ok (.aload_n 0, 1) := by decide +kernel
theorem d_N_inside_17 : decode b_N_inside 17 = .ok (.iload_n 3, 1) := by decide +kernel
theorem d_N_inside_18 : decode b_N_inside 18 = .ok (.invokevirtual 46, 3) := by decide +kernel
theorem d_N_inside_21 : decode b_N_inside 21 = .ok (.ifCond .eq 22, 3) := by decide +kernel
theorem d_N_inside_24 : decode b_N_inside 24 = .ok (.aload_n 0, 1) := by decide +kernel
theorem d_N_inside_25 : decode b_N_inside 25 = .ok (.iload 4, 2) := by decide +kernel
theorem d_N_inside_27 : decode b_N_inside 27 = .ok (.invokevirtual 46, 3) := by decide +kernel
theorem d_N_inside_30 : decode b_N_inside 30 = .ok (.ifCond .eq 13, 3) := by decide +kernel
theorem d_N_inside_33 : decode b_N_inside 33 = .ok (.aload_n 0, 1) := by decide +kernel
theorem d_N_inside_34 : decode b_N_inside 34 = .ok (.iload_n 1, 1) := by decide +kernel
theorem d_N_inside_35 : decode b_N_inside 35 = .ok (.iload_n 2, 1) := by decide +kernel
theorem d_N_inside_36 : decode b_N_inside 36 = .ok (.iload_n 3, 1) := by decide +kernel
theorem d_N_inside_37 : decode b_N_inside 37 = .ok (.invokevirtual 65, 3) := by decide +kernel
theorem d_N_inside_40 : decode b_N_inside 40 = .ok (.ifCond .ne 5, 3) := by decide +kernel
theorem d_N_inside_43 : decode b_N_inside 43 = .ok (.iconst 2, 1) := by decide +kernel
theorem d_N_inside_44 : decode b_N_inside 44 = .ok (.ireturn, 1) := by decide +kernel
theorem d_N_inside_45 : decode b_N_inside 45 = .ok (.aload_n 0, 1) := by decide +kernel
theorem d_N_inside_46 : decode b_N_inside 46 = .ok (.iload_n 1, 1) := by decide +kernel
theorem d_N_inside_47 : decode b_N_inside 47 = .ok (.iload_n 2, 1) := by decide +kernel
theorem d_N_inside_48 : decode b_N_inside 48 = .ok (.iload_n 3, 1) := by decide +kernel
theorem d_N_inside_49 : decode b_N_inside 49 = .ok (.invokevirtual 65, 3) := by decide +kernel
theorem d_N_inside_52 : decode b_N_inside 52 = .ok (.ifCond .le 15, 3) := by decide +kernel
theorem d_N_inside_55 : decode b_N_inside 55 = .ok (.aload_n 0, 1) := by decide +kernel
theorem d_N_inside_56 : decode b_N_inside 56 = .ok (.iload_n 1, 1) := by decide +kernel
theorem d_N_inside_57 : decode b_N_inside 57 = .ok (.iload_n 2, 1) := by decide +kernel
theorem d_N_inside_58 : decode b_N_inside 58 = .ok (.iload_n 3, 1) := by decide +kernel
theorem d_N_inside_59 : decode b_N_inside 59 = .ok (.iload 4, 2) := by decide +kernel
theorem d_N_inside_61 : decode b_N_inside 61 = .ok (.invokevirtual 72, 3) := by decide +kernel
theorem d_N_inside_64 : decode b_N_inside 64 = .ok (.goto 12, 3) := by decide +kernel
theorem d_N_inside_67 : decode b_N_inside 67 = .ok (.aload_n 0, 1) := by decide +kernel
theorem d_N_inside_68 : decode b_N_inside 68 = .ok (.iload_n 1, 1) := by decide +kernel
theorem d_N_inside_69 : decode b_N_inside 69 = .ok (.iload_n 3, 1) := by decide +kernel
theorem d_N_inside_70 : decode b_N_inside 70 = .ok (.iload_n 2, 1) := by decide +kernel
theorem d_N_inside_71 : decode b_N_inside 71 = .ok (.iload 4, 2) := by decide +kernel
theorem d_N_inside_73 : decode b_N_inside 73 = .ok (.invokevirtual 72, 3) := by decide +kernel
theorem d_N_inside_76 : decode b_N_inside 76 = .ok (.ireturn, 1) := by decide +kernel
theorem d_N_area_0 : decode b_N_area 0 = .ok (.aload_n 0, 1) := by decide +kernel
theorem d_N_area_1 : decode b_N_area 1 = .ok (.invokevirtual 116, 3) := by decide +kernel
theorem d_N_area_4 : decode b_N_area 4 = .ok (.lconst 0, 1) := by decide +kernel
theorem d_N_area_5 : decode b_N_area 5 = .ok (.lstore_n 1, 1) := by decide +kernel
theorem d_N_area_6 : decode b_N_area 6 = .ok (.iconst 0, 1) := by decide +kernel
theorem d_N_area_7 : decode b_N_area 7 = .ok (.istore_n 3, 1) := by decide +kernel
theorem d_N_area_8 : decode b_N_area 8 = .ok (.iload_n 3, 1) := by decide +kernel
theorem d_N_area_9 : decode b_N_area 9 = .ok (.aload_n 0, 1) := by decide +kernel
theorem d_N_area_10 : decode b_N_area 10 = .ok (.getfield 103, 3) := by decide +kernel
theorem d_N_area_13 : decode b_N_area 13 = .ok (.if_icmp .ge 70, 3) := by decide +kernel
theorem d_N_area_16 : decode b_N_area 16 = .ok (.aload_n 0, 1) := by decide +kernel
theorem d_N_area_17 : decode b_N_area 17 = .ok (.getfield 29, 3) := by decide +kernel
theorem d_N_area_20 : decode b_N_area 20 = .ok (.iload_n 3, 1) := by decide +kernel
theorem d_N_area_21 : decode b_N_area 21 = .ok (.iaload, 1) := by decide +kernel
theorem d_N_area_22 : decode b_N_area 22 = .ok (.istore 4, 2) := by decide +kernel
theorem d_N_area_24 : decode b_N_area 24 = .ok (.aload_n 0, 1) := by decide +kernel
theorem d_N_area_25 : decode b_N_area 25 = .ok (.getfield 29, 3) := by decide +kernel
theorem d_N_area_28 : decode b_N_area 28 = .ok (.iload_n 3, 1) := by decide +kernel
theorem d_N_area_29 : decode b_N_area 29 = .ok (.iconst 1, 1) := by decide +kernel
theorem d_N_area_30 : decode b_N_area 30 = .ok (.iadd, 1) := by decide +kernel
theorem d_N_area_31 : decode b_N_area 31 = .ok (.aload_n 0, 1) := by decide +kernel
theorem d_N_area_32 : decode b_N_area 32 = .ok (.getfield 103, 3) := by decide +kernel
theorem d_N_area_35 : decode b_N_area 35 = .ok (.irem, 1) := by decide +kernel
theorem d_N_area_36 : decode b_N_area 36 = .ok (.iaload, 1) := by decide +kernel
theorem d_N_area_37 : decode b_N_area 37 = .ok (.istore 5, 2) := by decide +kernel
theorem d_N_area_39 : decode b_N_area 39 = .ok (.lload_n 1, 1) := by decide +kernel
theorem d_N_area_40 : decode b_N_area 40 = .ok (.aload_n 0, 1) := by decide +kernel
theorem d_N_area_41 : decode b_N_area 41 = .ok (.getfield 13, 3) := by decide +kernel
theorem d_N_area_44 : decode b_N_area 44 = .ok (.iload 4, 2) := by decide +kernel
theorem d_N_area_46 : decode b_N_area 46 = .ok (.iaload, 1) := by decide +kernel
theorem d_N_area_47 : decode b_N_area 47 = .ok (.i2l, 1) := by decide +kernel
theorem d_N_area_48 : decode b_N_area 48 = .ok (.aload_n 0, 1) := by decide +kernel
theorem d_N_area_49 : decode b_N_area 49 = .ok (.getfield 17, 3) := by decide +kernel
theorem d_N_area_52 : decode b_N_area 52 = .ok (.iload 5, 2) := by decide +kernel
theorem d_N_area_54 : decode b_N_area 54 = .ok (.iaload, 1) := by decide +kernel
theorem d_N_area_55 : decode b_N_area 55 = .ok (.i2l, 1) := by decide +kernel
theorem d_N_area_56 : decode b_N_area 56 = .ok (.lmul, 1) := by decide +kernel
theorem d_N_area_57 : decode b_N_area 57 = .ok (.ladd, 1) := by decide +kernel
theorem d_N_area_58 : decode b_N_area 58 = .ok (.aload_n 0, 1) := by decide +kernel
theorem d_N_area_59 : decode b_N_area 59 = .ok (.getfield 13, 3) := by decide +kernel
theorem d_N_area_62 : decode b_N_area 62 = .ok (.iload 5, 2) := by decide +kernel
theorem d_N_area_64 : decode b_N_area 64 = .ok (.iaload, 1) := by decide +kernel
theorem d_N_area_65 : decode b_N_area 65 = .ok (.i2l, 1) := by decide +kernel
theorem d_N_area_66 : decode b_N_area 66 = .ok (.aload_n 0, 1) := by decide +kernel
theorem d_N_area_67 : decode b_N_area 67 = .ok (.getfield 17, 3) := by decide +kernel
theorem d_N_area_70 : decode b_N_area 70 = .ok (.iload 4, 2) := by decide +kernel
theorem d_N_area_72 : decode b_N_area 72 = .ok (.iaload, 1) := by decide +kernel
theorem d_N_area_73 : decode b_N_area 73 = .ok (.i2l, 1) := by decide +kernel
theorem d_N_area_74 : decode b_N_area 74 = .ok (.lmul, 1) := by decide +kernel
theorem d_N_area_75 : decode b_N_area 75 = .ok (.lsub, 1) := by decide +kernel
theorem d_N_area_76 : decode b_N_area 76 = .ok (.lstore_n 1, 1) := by decide +kernel
theorem d_N_area_77 : decode b_N_area 77 = .ok (.iinc 3 1, 3) := by decide +kernel
theorem d_N_area_80 : decode b_N_area 80 = .ok (.goto (-72), 3) := by decide +kernel
theorem d_N_area_83 : decode b_N_area 83 = .ok (.aload_n 0, 1) := by decide +kernel
theorem d_N_area_84 : decode b_N_area 84 = .ok (.getfield 75, 3) := by decide +kernel
theorem d_N_area_87 : decode b_N_area 87 = .ok (.ifCond .ne 7, 3) := by decide +kernel
theorem d_N_area_90 : decode b_N_area 90 = .ok (.lconst 0, 1) := by decide +kernel
theorem d_N_area_91 : decode b_N_area 91 = .ok (.goto 4, 3) := by decide +kernel
theorem d_N_area_94 : decode b_N_area 94 = .ok (.lload_n 1, 1) := by decide +kernel
theorem d_N_area_95 : decode b_N_area 95 = .ok (.lreturn, 1) := by decide +kernel
