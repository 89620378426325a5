theorem d_P_init_0 : decode b_P_init 0 = .ok (.aload_n 0, 1) := by decide +kernel
theorem d_P_init_1 : decode b_P_init 1 = .ok (.invokespecial 3, 3) := by decide +kernel
theorem d_P_init_4 : decode b_P_init 4 = .ok (.aload_n 0, 1) := by decide +kernel
theorem d_P_init_5 : decode b_P_init 5 = .ok (.bipush 20, 2) := by decide +kernel
theorem d_P_init_7 : decode b_P_init 7 = .ok (.newarray .int, 2) := by decide +kernel
theorem d_P_init_9 : decode b_P_init 9 = .ok (.putfield 9, 3) := by decide +kernel
theorem d_P_init_12 : decode b_P_init 12 = .ok (.aload_n 0, 1) := by decide +kernel
theorem d_P_init_13 : decode b_P_init 13 = .ok (.bipush 20, 2) := by decide +kernel
theorem d_P_init_15 : decode b_P_init 15 = .ok (.newarray .int, 2) := by decide +kernel
theorem d_P_init_17 : decode b_P_init 17 = .ok (.putfield 15, 3) := by decide +kernel
theorem d_P_init_20 : decode b_P_init 20 = .ok (.aload_n 0, 1) := by decide +kernel
theorem d_P_init_21 : decode b_P_init 21 = .ok (.bipush 20, 2) := by decide +kernel
theorem d_P_init_23 : decode b_P_init 23 = .ok (.newarray .boolean, 2) := by decide +kernel
theorem d_P_init_25 : decode b_P_init 25 = .ok (.putfield 18, 3) := by decide +kernel
theorem d_P_init_28 : decode b_P_init 28 = .ok (.aload_n 0, 1) := by decide +kernel
theorem d_P_init_29 : decode b_P_init 29 = .ok (.bipush 20, 2) := by decide +kernel
theorem d_P_init_31 : decode b_P_init 31 = .ok (.newarray .int, 2) := by decide +kernel
theorem d_P_init_33 : decode b_P_init 33 = .ok (.putfield 22, 3) := by decide +kernel
theorem d_P_init_36 : decode b_P_init 36 = .ok (.aload_n 0, 1) := by decide +kernel
theorem d_P_init_37 : decode b_P_init 37 = .ok (.iconst 0, 1) := by decide +kernel
theorem d_P_init_38 : decode b_P_init 38 = .ok (.putfield 25, 3) := by decide +kernel
theorem d_P_init_41 : decode b_P_init 41 = .ok (.return_, 1) := by decide +kernel
theorem d_P_size_0 : decode b_P_size 0 = .ok (.aload_n 0, 1) := by decide +kernel
theorem d_P_size_1 : decode b_P_size 1 = .ok (.getfield 25, 3) := by decide +kernel
theorem d_P_size_4 : decode b_P_size 4 = .ok (.ireturn, 1) := by decide +kernel
theorem d_P_has_0 : decode b_P_has 0 = .ok (.iload_n 1, 1) := by decide +kernel
theorem d_P_has_1 : decode b_P_has 1 = .ok (.ifCond .lt 22, 3) := by decide +kernel
theorem d_P_has_4 : decode b_P_has 4 = .ok (.iload_n 1, 1) := by decide +kernel
theorem d_P_has_5 : decode b_P_has 5 = .ok (.bipush 20, 2) := by decide +kernel
theorem d_P_has_7 : decode b_P_has 7 = .ok (.if_icmp .ge 16, 3) := by decide +kernel
theorem d_P_has_10 : decode b_P_has 10 = .ok (.aload_n 0, 1) := by decide +kernel
theorem d_P_has_11 : decode b_P_has 11 = .ok (.getfield 18, 3) := by decide +kernel
theorem d_P_has_14 : decode b_P_has 14 = .ok (.iload_n 1, 1) := by decide +kernel
theorem d_P_has_15 : decode b_P_has 15 = .ok (.baload, 1) := by decide +kernel
theorem d_P_has_16 : decode b_P_has 16 = .ok (.ifCond .eq 7, 3) := by decide +kernel
theorem d_P_has_19 : decode b_P_has 19 = .ok (.iconst 1, 1) := by decide +kernel
theorem d_P_has_20 : decode b_P_has 20 = .ok (.goto 4, 3) := by decide +kernel
theorem d_P_has_23 : decode b_P_has 23 = .ok (.iconst 0, 1) := by decide +kernel
theorem d_P_has_24 : decode b_P_has 24 = .ok (.ireturn, 1) := by decide +kernel
theorem d_P_x_0 : decode b_P_x 0 = .ok (.aload_n 0, 1) := by decide +kernel
theorem d_P_x_1 : decode b_P_x 1 = .ok (.getfield 9, 3) := by decide +kernel
theorem d_P_x_4 : decode b_P_x 4 = .ok (.iload_n 1, 1) := by decide +kernel
theorem d_P_x_5 : decode b_P_x 5 = .ok (.iaload, 1) := by decide +kernel
theorem d_P_x_6 : decode b_P_x 6 = .ok (.ireturn, 1) := by decide +kernel
theorem d_P_y_0 : decode b_P_y 0 = .ok (.aload_n 0, 1) := by decide +kernel
theorem d_P_y_1 : decode b_P_y 1 = .ok (.getfield 15, 3) := by decide +kernel
theorem d_P_y_4 : decode b_P_y 4 = .ok (.iload_n 1, 1) := by decide +kernel
theorem d_P_y_5 : decode b_P_y 5 = .ok (.iaload, 1) := by decide +kernel
theorem d_P_y_6 : decode b_P_y 6 = .ok (.ireturn, 1) := by decide +kernel
theorem d_P_inOrder_0 : decode b_P_inOrder 0 = .ok (.aload_n 0, 1) := by decide +kernel
theorem d_P_inOrder_1 : decode b_P_inOrder 1 = .ok (.getfield 22, 3) := by decide +kernel
theorem d_P_inOrder_4 : decode b_P_inOrder 4 = .ok (.iload_n 1, 1) := by decide +kernel
theorem d_P_inOrder_5 : decode b_P_inOrder 5 = .ok (.iaload, 1) := by decide +kernel
theorem d_P_inOrder_6 : decode b_P_inOrder 6 = .ok (.ireturn, 1) := by decide +kernel
theorem d_P_slotAt_0 : decode b_P_slotAt 0 = .ok (.iconst 0, 1) := by decide +kernel
theorem d_P_slotAt_1 : decode b_P_slotAt 1 = .ok (.istore_n 3, 1) := by decide +kernel
theorem d_P_slotAt_2 : decode b_P_slotAt 2 = .ok (.iload_n 3, 1) := by decide +kernel
theorem d_P_slotAt_3 : decode b_P_slotAt 3 = .ok (.bipush 20, 2) := by decide +kernel
theorem d_P_slotAt_5 : decode b_P_slotAt 5 = .ok (.if_icmp .ge 40, 3) := by decide +kernel
theorem d_P_slotAt_8 : decode b_P_slotAt 8 = .ok (.aload_n 0, 1) := by decide +kernel
theorem d_P_slotAt_9 : decode b_P_slotAt 9 = .ok (.getfield 18, 3) := by decide +kernel
theorem d_P_slotAt_12 : decode b_P_slotAt 12 = .ok (.iload_n 3, 1) := by decide +kernel
theorem d_P_slotAt_13 : decode b_P_slotAt 13 = .ok (.baload, 1) := by decide +kernel
theorem d_P_slotAt_14 : decode b_P_slotAt 14 = .ok (.ifCond .eq 25, 3) := by decide +kernel
theorem d_P_slotAt_17 : decode b_P_slotAt 17 = .ok (.aload_n 0, 1) := by decide +kernel
theorem d_P_slotAt_18 : decode b_P_slotAt 18 = .ok (.getfield 9, 3) := by decide +kernel
theorem d_P_slotAt_21 : decode b_P_slotAt 21 = .ok (.iload_n 3, 1) := by decide +kernel
theorem d_P_slotAt_22 : decode b_P_slotAt 22 = .ok (.iaload, 1) := by decide +kernel
theorem d_P_slotAt_23 : decode b_P_slotAt 23 = .ok (.iload_n 1, 1) := by decide +kernel
theorem d_P_slotAt_24 : decode b_P_slotAt 24 = .ok (.if_icmp .ne 15, 3) := by decide +kernel
theorem d_P_slotAt_27 : decode b_P_slotAt 27 = .ok (.aload_n 0, 1) := by decide +kernel
theorem d_P_slotAt_28 : decode b_P_slotAt 28 = .ok (.getfield 15, 3) := by decide +kernel
theorem d_P_slotAt_31 : decode b_P_slotAt 31 = .ok (.iload_n 3, 1) := by decide +kernel
theorem d_P_slotAt_32 : decode b_P_slotAt 32 = .ok (.iaload, 1) := by decide +kernel
theorem d_P_slotAt_33 : decode b_P_slotAt 33 = .ok (.iload_n 2, 1) := by decide +kernel
theorem d_P_slotAt_34 : decode b_P_slotAt 34 = .ok (.if_icmp .ne 5, 3) := by decide +kernel
theorem d_P_slotAt_37 : decode b_P_slotAt 37 = .ok (.iload_n 3, 1) := by decide +kernel
theorem d_P_slotAt_38 : decode b_P_slotAt 38 = .ok (.ireturn, 1) := by decide +kernel
theorem d_P_slotAt_39 : decode b_P_slotAt 39 = .ok (.iinc 3 1, 3) := by decide +kernel
theorem d_P_slotAt_42 : decode b_P_slotAt 42 = .ok (.goto (-40), 3) := by decide +kernel
theorem d_P_slotAt_45 : decode b_P_slotAt 45 = .ok (.iconst (-1), 1) := by decide +kernel
theorem d_P_slotAt_46 : decode b_P_slotAt 46 = .ok (.ireturn, 1) := by decide +kernel
theorem d_P_freeSlot_0 : decode b_P_freeSlot 0 = .ok (.iconst 0, 1) := by decide +kernel
theorem d_P_freeSlot_1 : decode b_P_freeSlot 1 = .ok (.istore_n 1, 1) := by decide +kernel
theorem d_P_freeSlot_2 : decode b_P_freeSlot 2 = .ok (.iload_n 1, 1) := by decide +kernel
theorem d_P_freeSlot_3 : decode b_P_freeSlot 3 = .ok (.bipush 20, 2) := by decide +kernel
theorem d_P_freeSlot_5 : decode b_P_freeSlot 5 = .ok (.if_icmp .ge 20, 3) := by decide +kernel
theorem d_P_freeSlot_8 : decode b_P_freeSlot 8 = .ok (.aload_n 0, 1) := by decide +kernel
theorem d_P_freeSlot_9 : decode b_P_freeSlot 9 = .ok (.getfield 18, 3) := by decide +kernel
theorem d_P_freeSlot_12 : decode b_P_freeSlot 12 = .ok (.iload_n 1, 1) := by decide +kernel
theorem d_P_freeSlot_13 : decode b_P_freeSlot 13 = .ok (.baload, 1) := by decide +kernel
theorem d_P_freeSlot_14 : decode b_P_freeSlot 14 = .ok (.ifCond .ne 5, 3) := by decide +kernel
theorem d_P_freeSlot_17 : decode b_P_freeSlot 17 = .ok (.iload_n 1, 1) := by decide +kernel
theorem d_P_freeSlot_18 : decode b_P_freeSlot 18 = .ok (.ireturn, 1) := by decide +kernel
theorem d_P_freeSlot_19 : decode b_P_freeSlot 19 = .ok (.iinc 1 1, 3) := by decide +kernel
theorem d_P_freeSlot_22 : decode b_P_freeSlot 22 = .ok (.goto (-20), 3) := by decide +kernel
theorem d_P_freeSlot_25 : decode b_P_freeSlot 25 = .ok (.iconst (-1), 1) := by decide +kernel
theorem d_P_freeSlot_26 : decode b_P_freeSlot 26 = .ok (.ireturn, 1) := by decide +kernel
theorem d_P_put_0 : decode b_P_put 0 = .ok (.aload_n 0, 1) := by decide +kernel
theorem d_P_put_1 : decode b_P_put 1 = .ok (.getfield 9, 3) := by decide +kernel
theorem d_P_put_4 : decode b_P_put 4 = .ok (.iload_n 1, 1) := by decide +kernel
theorem d_P_put_5 : decode b_P_put 5 = .ok (.iload_n 2, 1) := by decide +kernel
theorem d_P_put_6 : decode b_P_put 6 = .ok (.iastore, 1) := by decide +kernel
theorem d_P_put_7 : decode b_P_put 7 = .ok (.aload_n 0, 1) := by decide +kernel
theorem d_P_put_8 : decode b_P_put 8 = .ok (.getfield 15, 3) := by decide +kernel
theorem d_P_put_11 : decode b_P_put 11 = .ok (.iload_n 1, 1) := by decide +kernel
theorem d_P_put_12 : decode b_P_put 12 = .ok (.iload_n 3, 1) := by decide +kernel
theorem d_P_put_13 : decode b_P_put 13 = .ok (.iastore, 1) := by decide +kernel
theorem d_P_put_14 : decode b_P_put 14 = .ok (.aload_n 0, 1) := by decide +kernel
theorem d_P_put_15 : decode b_P_put 15 = .ok (.getfield 18, 3) := by decide +kernel
theorem d_P_put_18 : decode b_P_put 18 = .ok (.iload_n 1, 1) := by decide +kernel
theorem d_P_put_19 : decode b_P_put 19 = .ok (.iconst 1, 1) := by decide +kernel
theorem d_P_put_20 : decode b_P_put 20 = .ok (.bastore, 1) := by decide +kernel
theorem d_P_put_21 : decode b_P_put 21 = .ok (.aload_n 0, 1) := by decide +kernel
theorem d_P_put_22 : decode b_P_put 22 = .ok (.getfield 25, 3) := by decide +kernel
theorem d_P_put_25 : decode b_P_put 25 = .ok (.istore 4, 2) := by decide +kernel
theorem d_P_put_27 : decode b_P_put 27 = .ok (.iload 4, 2) := by decide +kernel
theorem d_P_put_29 : decode b_P_put 29 = .ok (.ifCond .le 42, 3) := by decide +kernel
theorem d_P_put_32 : decode b_P_put 32 = .ok (.aload_n 0, 1) := by decide +kernel
theorem d_P_put_33 : decode b_P_put 33 = .ok (.iload_n 1, 1) := by decide +kernel
theorem d_P_put_34 : decode b_P_put 34 = .ok (.aload_n 0, 1) := by decide +kernel
theorem d_P_put_35 : decode b_P_put 35 = .ok (.getfield 22, 3) := by decide +kernel
theorem d_P_put_38 : decode b_P_put 38 = .ok (.iload 4, 2) := by decide +kernel
theorem d_P_put_40 : decode b_P_put 40 = .ok (.iconst 1, 1) := by decide +kernel
theorem d_P_put_41 : decode b_P_put 41 = .ok (.isub, 1) := by decide +kernel
theorem d_P_put_42 : decode b_P_put 42 = .ok (.iaload, 1) := by decide +kernel
theorem d_P_put_43 : decode b_P_put 43 = .ok (.invokevirtual 29, 3) := by decide +kernel
theorem d_P_put_46 : decode b_P_put 46 = .ok (.ifCond .eq 25, 3) := by decide +kernel
theorem d_P_put_49 : decode b_P_put 49 = .ok (.aload_n 0, 1) := by decide +kernel
theorem d_P_put_50 : decode b_P_put 50 = .ok (.getfield 22, 3) := by decide +kernel
theorem d_P_put_53 : decode b_P_put 53 = .ok (.iload 4, 2) := by decide +kernel
theorem d_P_put_55 : decode b_P_put 55 = .ok (.aload_n 0, 1) := by decide +kernel
theorem d_P_put_56 : decode b_P_put 56 = .ok (.getfield 22, 3) := by decide +kernel
theorem d_P_put_59 : decode b_P_put 59 = .ok (.iload 4, 2) := by decide +kernel
theorem d_P_put_61 : decode b_P_put 61 = .ok (.iconst 1, 1) := by decide +kernel
theorem d_P_put_62 : decode b_P_put 62 = .ok (.isub, 1) := by decide +kernel
theorem d_P_put_63 : decode b_P_put 63 = .ok (.iaload, 1) := by decide +kernel
theorem d_P_put_64 : decode b_P_put 64 = .ok (.iastore, 1) := by decide +kernel
theorem d_P_put_65 : decode b_P_put 65 = .ok (.iinc 4 (-1), 3) := by decide +kernel
theorem d_P_put_68 : decode b_P_put 68 = .ok (.goto (-41), 3) := by decide +kernel
theorem d_P_put_71 : decode b_P_put 71 = .ok (.aload_n 0, 1) := by decide +kernel
theorem d_P_put_72 : decode b_P_put 72 = .ok (.getfield 22, 3) := by decide +kernel
theorem d_P_put_75 : decode b_P_put 75 = .ok (.iload 4, 2) := by decide +kernel
theorem d_P_put_77 : decode b_P_put 77 = .ok (.iload_n 1, 1) := by decide +kernel
theorem d_P_put_78 : decode b_P_put 78 = .ok (.iastore, 1) := by decide +kernel
theorem d_P_put_79 : decode b_P_put 79 = .ok (.aload_n 0, 1) := by decide +kernel
theorem d_P_put_80 : decode b_P_put 80 = .ok (.dup, 1) := by decide +kernel
theorem d_P_put_81 : decode b_P_put 81 = .ok (.getfield 25, 3) := by decide +kernel
theorem d_P_put_84 : decode b_P_put 84 = .ok (.iconst 1, 1) := by decide +kernel
theorem d_P_put_85 : decode b_P_put 85 = .ok (.iadd, 1) := by decide +kernel
theorem d_P_put_86 : decode b_P_put 86 = .ok (.putfield 25, 3) := by decide +kernel
theorem d_P_put_89 : decode b_P_put 89 = .ok (.return_, 1) := by decide +kernel
theorem d_P_drop_0 : decode b_P_drop 0 = .ok (.aload_n 0, 1) := by decide +kernel
theorem d_P_drop_1 : decode b_P_drop 1 = .ok (.getfield 18, 3) := by decide +kernel
theorem d_P_drop_4 : decode b_P_drop 4 = .ok (.iload_n 1, 1) := by decide +kernel
theorem d_P_drop_5 : decode b_P_drop 5 = .ok (.iconst 0, 1) := by decide +kernel
theorem d_P_drop_6 : decode b_P_drop 6 = .ok (.bastore, 1) := by decide +kernel
theorem d_P_drop_7 : decode b_P_drop 7 = .ok (.iconst 0, 1) := by decide +kernel
theorem d_P_drop_8 : decode b_P_drop 8 = .ok (.istore_n 2, 1) := by decide +kernel
theorem d_P_drop_9 : decode b_P_drop 9 = .ok (.iconst 0, 1) := by decide +kernel
theorem d_P_drop_10 : decode b_P_drop 10 = .ok (.istore_n 3, 1) := by decide +kernel
theorem d_P_drop_11 : decode b_P_drop 11 = .ok (.iload_n 3, 1) := by decide +kernel
theorem d_P_drop_12 : decode b_P_drop 12 = .ok (.aload_n 0, 1) := by decide +kernel
theorem d_P_drop_13 : decode b_P_drop 13 = .ok (.getfield 25, 3) := by decide +kernel
theorem d_P_drop_16 : decode b_P_drop 16 = .ok (.if_icmp .ge 34, 3) := by decide +kernel
theorem d_P_drop_19 : decode b_P_drop 19 = .ok (.aload_n 0, 1) := by decide +kernel
theorem d_P_drop_20 : decode b_P_drop 20 = .ok (.getfield 22, 3) := by decide +kernel
theorem d_P_drop_23 : decode b_P_drop 23 = .ok (.iload_n 3, 1) := by decide +kernel
theorem d_P_drop_24 : decode b_P_drop 24 = .ok (.iaload, 1) := by decide +kernel
theorem d_P_drop_25 : decode b_P_drop 25 = .ok (.iload_n 1, 1) := by decide +kernel
theorem d_P_drop_26 : decode b_P_drop 26 = .ok (.if_icmp .eq 18, 3) := by decide +kernel
theorem d_P_drop_29 : decode b_P_drop 29 = .ok (.aload_n 0, 1) := by decide +kernel
theorem d_P_drop_30 : decode b_P_drop 30 = .ok (.getfield 22, 3) := by decide +kernel
theorem d_P_drop_33 : decode b_P_drop 33 = .ok (.iload_n 2, 1) := by decide +kernel
theorem d_P_drop_34 : decode b_P_drop 34 = .ok (.aload_n 0, 1) := by decide +kernel
theorem d_P_drop_35 : decode b_P_drop 35 = .ok (.getfield 22, 3) := by decide +kernel
theorem d_P_drop_38 : decode b_P_drop 38 = .ok (.iload_n 3, 1) := by decide +kernel
theorem d_P_drop_39 : decode b_P_drop 39 = .ok (.iaload, 1) := by decide +kernel
theorem d_P_drop_40 : decode b_P_drop 40 = .ok (.iastore, 1) := by decide +kernel
theorem d_P_drop_41 : decode b_P_drop 41 = .ok (.iinc 2 1, 3) := by decide +kernel
theorem d_P_drop_44 : decode b_P_drop 44 = .ok (.iinc 3 1, 3) := by decide +kernel
theorem d_P_drop_47 : decode b_P_drop 47 = .ok (.goto (-36), 3) := by decide +kernel
theorem d_P_drop_50 : decode b_P_drop 50 = .ok (.aload_n 0, 1) := by decide +kernel
theorem d_P_drop_51 : decode b_P_drop 51 = .ok (.iload_n 2, 1) := by decide +kernel
theorem d_P_drop_52 : decode b_P_drop 52 = .ok (.putfield 25, 3) := by decide +kernel
theorem d_P_drop_55 : decode b_P_drop 55 = .ok (.return_, 1) := by decide +kernel
theorem d_P_isEarlier_0 : decode b_P_isEarlier 0 = .ok (.aload_n 0, 1) := by decide +kernel
theorem d_P_isEarlier_1 : decode b_P_isEarlier 1 = .ok (.getfield 9, 3) := by decide +kernel
theorem d_P_isEarlier_4 : decode b_P_isEarlier 4 = .ok (.iload_n 1, 1) := by decide +kernel
theorem d_P_isEarlier_5 : decode b_P_isEarlier 5 = .ok (.iaload, 1) := by decide +kernel
theorem d_P_isEarlier_6 : decode b_P_isEarlier 6 = .ok (.aload_n 0, 1) := by decide +kernel
theorem d_P_isEarlier_7 : decode b_P_isEarlier 7 = .ok (.getfield 9, 3) := by decide +kernel
theorem d_P_isEarlier_10 : decode b_P_isEarlier 10 = .ok (.iload_n 2, 1) := by decide +kernel
theorem d_P_isEarlier_11 : decode b_P_isEarlier 11 = .ok (.iaload, 1) := by decide +kernel
theorem d_P_isEarlier_12 : decode b_P_isEarlier 12 = .ok (.if_icmp .lt 33, 3) := by decide +kernel
theorem d_P_isEarlier_15 : decode b_P_isEarlier 15 = .ok (.aload_n 0, 1) := by decide +kernel
theorem d_P_isEarlier_16 : decode b_P_isEarlier 16 = .ok (.getfield 9, 3) := by decide +kernel
theorem d_P_isEarlier_19 : decode b_P_isEarlier 19 = .ok (.iload_n 1, 1) := by decide +kernel
theorem d_P_isEarlier_20 : decode b_P_isEarlier 20 = .ok (.iaload, 1) := by decide +kernel
theorem d_P_isEarlier_21 : decode b_P_isEarlier 21 = .ok (.aload_n 0, 1) := by decide +kernel
theorem d_P_isEarlier_22 : decode b_P_isEarlier 22 = .ok (.getfield 9, 3) := by decide +kernel
theorem d_P_isEarlier_25 : decode b_P_isEarlier 25 = .ok (.iload_n 2, 1) := by decide +kernel
theorem d_P_isEarlier_26 : decode b_P_isEarlier 26 = .ok (.iaload, 1) := by decide +kernel
theorem d_P_isEarlier_27 : decode b_P_isEarlier 27 = .ok (.if_icmp .ne 22, 3) := by decide +kernel
theorem d_P_isEarlier_30 : decode b_P_isEarlier 30 = .ok (.aload_n 0, 1) := by decide +kernel
theorem d_P_isEarlier_31 : decode b_P_isEarlier 31 = .ok (.getfield 15, 3) := by decide +kernel
theorem d_P_isEarlier_34 : decode b_P_isEarlier 34 = .ok (.iload_n 1, 1) := by decide +kernel
theorem d_P_isEarlier_35 : decode b_P_isEarlier 35 = .ok (.iaload, 1) := by decide +kernel
theorem d_P_isEarlier_36 : decode b_P_isEarlier 36 = .ok (.aload_n 0, 1) := by decide +kernel
theorem d_P_isEarlier_37 : decode b_P_isEarlier 37 = .ok (.getfield 15, 3) := by decide +kernel
theorem d_P_isEarlier_40 : decode b_P_isEarlier 40 = .ok (.iload_n 2, 1) := by decide +kernel
theorem d_P_isEarlier_41 : decode b_P_isEarlier 41 = .ok (.iaload, 1) := by decide +kernel
theorem d_P_isEarlier_42 : decode b_P_isEarlier 42 = .ok (.if_icmp .ge 7, 3) := by decide +kernel
theorem d_P_isEarlier_45 : decode b_P_isEarlier 45 = .ok (.iconst 1, 1) := by decide +kernel
theorem d_P_isEarlier_46 : decode b_P_isEarlier 46 = .ok (.goto 4, 3) := by decide +kernel
theorem d_P_isEarlier_49 : decode b_P_isEarlier 49 = .ok (.iconst 0, 1) := by decide +kernel
theorem d_P_isEarlier_50 : decode b_P_isEarlier 50 = .ok (.ireturn, 1) := by decide +kernel
theorem d_P_squaredDistance_0 : decode b_P_squaredDistance 0 = .ok (.aload_n 0, 1) := by decide +kernel
theorem d_P_squaredDistance_1 : decode b_P_squaredDistance 1 = .ok (.getfield 9, 3) := by decide +kernel
theorem d_P_squaredDistance_4 : decode b_P_squaredDistance 4 = .ok (.iload_n 1, 1) := by decide +kernel
theorem d_P_squaredDistance_5 : decode b_P_squaredDistance 5 = .ok (.iaload, 1) := by decide +kernel
theorem d_P_squaredDistance_6 : decode b_P_squaredDistance 6 = .ok (.iload_n 2, 1) := by decide +kernel
theorem d_P_squaredDistance_7 : decode b_P_squaredDistance 7 = .ok (.isub, 1) := by decide +kernel
theorem d_P_squaredDistance_8 : decode b_P_squaredDistance 8 = .ok (.i2l, 1) := by decide +kernel
theorem d_P_squaredDistance_9 : decode b_P_squaredDistance 9 = .ok (.lstore 4, 2) := by decide +kernel
theorem d_P_squaredDistance_11 : decode b_P_squaredDistance 11 = .ok (.aload_n 0, 1) := by decide +kernel
theorem d_P_squaredDistance_12 : decode b_P_squaredDistance 12 = .ok (.getfield 15, 3) := by decide +kernel
theorem d_P_squaredDistance_15 : decode b_P_squaredDistance 15 = .ok (.iload_n 1, 1) := by decide +kernel
theorem d_P_squaredDistance_16 : decode b_P_squaredDistance 16 = .ok (.iaload, 1) := by decide +kernel
theorem d_P_squaredDistance_17 : decode b_P_squaredDistance 17 = .ok (.iload_n 3, 1) := by decide +kernel
theorem d_P_squaredDistance_18 : decode b_P_squaredDistance 18 = .ok (.isub, 1) := by decide +kernel
theorem d_P_squaredDistance_19 : decode b_P_squaredDistance 19 = .ok (.i2l, 1) := by decide +kernel
theorem d_P_squaredDistance_20 : decode b_P_squaredDistance 20 = .ok (.lstore 6, 2) := by decide +kernel
theorem d_P_squaredDistance_22 : decode b_P_squaredDistance 22 = .ok (.lload 4, 2) := by decide +kernel
theorem d_P_squaredDistance_24 : decode b_P_squaredDistance 24 = .ok (.lload 4, 2) := by decide +kernel
theorem d_P_squaredDistance_26 : decode b_P_squaredDistance 26 = .ok (.lmul, 1) := by decide +kernel
theorem d_P_squaredDistance_27 : decode b_P_squaredDistance 27 = .ok (.lload 6, 2) := by decide +kernel
theorem d_P_squaredDistance_29 : decode b_P_squaredDistance 29 = .ok (.lload 6, 2) := by decide +kernel
theorem d_P_squaredDistance_31 : decode b_P_squaredDistance 31 = .ok (.lmul, 1) := by decide +kernel
theorem d_P_squaredDistance_32 : decode b_P_squaredDistance 32 = .ok (.ladd, 1) := by decide +kernel
theorem d_P_squaredDistance_33 : decode b_P_squaredDistance 33 = .ok (.lreturn, 1) := by decide +kernel
theorem d_P_crossTo_0 : decode b_P_crossTo 0 = .ok (.aload_n 0, 1) := by decide +kernel
theorem d_P_crossTo_1 : decode b_P_crossTo 1 = .ok (.getfield 9, 3) := by decide +kernel
theorem d_P_crossTo_4 : decode b_P_crossTo 4 = .ok (.iload_n 2, 1) := by decide +kernel
theorem d_P_crossTo_5 : decode b_P_crossTo 5 = .ok (.iaload, 1) := by decide +kernel
theorem d_P_crossTo_6 : decode b_P_crossTo 6 = .ok (.aload_n 0, 1) := by decide +kernel
theorem d_P_crossTo_7 : decode b_P_crossTo 7 = .ok (.getfield 9, 3) := by decide +kernel
theorem d_P_crossTo_10 : decode b_P_crossTo 10 = .ok (.iload_n 1, 1) := by decide +kernel
theorem d_P_crossTo_11 : decode b_P_crossTo 11 = .ok (.iaload, 1) := by decide +kernel
theorem d_P_crossTo_12 : decode b_P_crossTo 12 = .ok (.isub, 1) := by decide +kernel
theorem d_P_crossTo_13 : decode b_P_crossTo 13 = .ok (.i2l, 1) := by decide +kernel
theorem d_P_crossTo_14 : decode b_P_crossTo 14 = .ok (.lstore 5, 2) := by decide +kernel
theorem d_P_crossTo_16 : decode b_P_crossTo 16 = .ok (.aload_n 0, 1) := by decide +kernel
theorem d_P_crossTo_17 : decode b_P_crossTo 17 = .ok (.getfield 15, 3) := by decide +kernel
theorem d_P_crossTo_20 : decode b_P_crossTo 20 = .ok (.iload_n 2, 1) := by decide +kernel
theorem d_P_crossTo_21 : decode b_P_crossTo 21 = .ok (.iaload, 1) := by decide +kernel
theorem d_P_crossTo_22 : decode b_P_crossTo 22 = .ok (.aload_n 0, 1) := by decide +kernel
theorem d_P_crossTo_23 : decode b_P_crossTo 23 = .ok (.getfield 15, 3) := by decide +kernel
theorem d_P_crossTo_26 : decode b_P_crossTo 26 = .ok (.iload_n 1, 1) := by decide +kernel
theorem d_P_crossTo_27 : decode b_P_crossTo 27 = .ok (.iaload, 1) := by decide +kernel
theorem d_P_crossTo_28 : decode b_P_crossTo 28 = .ok (.isub, 1) := by decide +kernel
theorem d_P_crossTo_29 : decode b_P_crossTo 29 = .ok (.i2l, 1) := by decide +kernel
theorem d_P_crossTo_30 : decode b_P_crossTo 30 = .ok (.lstore 7, 2) := by decide +kernel
theorem d_P_crossTo_32 : decode b_P_crossTo 32 = .ok (.iload_n 3, 1) := by decide +kernel
theorem d_P_crossTo_33 : decode b_P_crossTo 33 = .ok (.aload_n 0, 1) := by decide +kernel
theorem d_P_crossTo_34 : decode b_P_crossTo 34 = .ok (.getfield 9, 3) := by decide +kernel
theorem d_P_crossTo_37 : decode b_P_crossTo 37 = .ok (.iload_n 1, 1) := by decide +kernel
theorem d_P_crossTo_38 : decode b_P_crossTo 38 = .ok (.iaload, 1) := by decide +kernel
theorem d_P_crossTo_39 : decode b_P_crossTo 39 = .ok (.isub, 1) := by decide +kernel
theorem d_P_crossTo_40 : decode b_P_crossTo 40 = .ok (.i2l, 1) := by decide +kernel
theorem d_P_crossTo_41 : decode b_P_crossTo 41 = .ok (.lstore 9, 2) := by decide +kernel
theorem d_P_crossTo_43 : decode b_P_crossTo 43 = .ok (.iload 4, 2) := by decide +kernel
theorem d_P_crossTo_45 : decode b_P_crossTo 45 = .ok (.aload_n 0, 1) := by decide +kernel
theorem d_P_crossTo_46 : decode b_P_crossTo 46 = .ok (.getfield 15, 3) := by decide +kernel
theorem d_P_crossTo_49 : decode b_P_crossTo 49 = .ok (.iload_n 1, 1) := by decide +kernel
theorem d_P_crossTo_50 : decode b_P_crossTo 50 = .ok (.iaload, 1) := by decide +kernel
theorem d_P_crossTo_51 : decode b_P_crossTo 51 = .ok (.isub, 1) := by decide +kernel
theorem d_P_crossTo_52 : decode b_P_crossTo 52 = .ok (.i2l, 1) := by decide +kernel
theorem d_P_crossTo_53 : decode b_P_crossTo 53 = .ok (.lstore 11, 2) := by decide +kernel
theorem d_P_crossTo_55 : decode b_P_crossTo 55 = .ok (.lload 5, 2) := by decide +kernel
theorem d_P_crossTo_57 : decode b_P_crossTo 57 = .ok (.lload 11, 2) := by decide +kernel
theorem d_P_crossTo_59 : decode b_P_crossTo 59 = .ok (.lmul, 1) := by decide +kernel
theorem d_P_crossTo_60 : decode b_P_crossTo 60 = .ok (.lload 7, 2) := by decide +kernel
theorem d_P_crossTo_62 : decode b_P_crossTo 62 = .ok (.lload 9, 2) := by decide +kernel
theorem d_P_crossTo_64 : decode b_P_crossTo 64 = .ok (.lmul, 1) := by decide +kernel
theorem d_P_crossTo_65 : decode b_P_crossTo 65 = .ok (.lsub, 1) := by decide +kernel
theorem d_P_crossTo_66 : decode b_P_crossTo 66 = .ok (.lreturn, 1) := by decide +kernel
theorem d_P_doubleArea_0 : decode b_P_doubleArea 0 = .ok (.aload_n 0, 1) := by decide +kernel
theorem d_P_doubleArea_1 : decode b_P_doubleArea 1 = .ok (.iload_n 1, 1) := by decide +kernel
theorem d_P_doubleArea_2 : decode b_P_doubleArea 2 = .ok (.iload_n 2, 1) := by decide +kernel
theorem d_P_doubleArea_3 : decode b_P_doubleArea 3 = .ok (.aload_n 0, 1) := by decide +kernel
theorem d_P_doubleArea_4 : decode b_P_doubleArea 4 = .ok (.getfield 9, 3) := by decide +kernel
theorem d_P_doubleArea_7 : decode b_P_doubleArea 7 = .ok (.iload_n 3, 1) := by decide +kernel
theorem d_P_doubleArea_8 : decode b_P_doubleArea 8 = .ok (.iaload, 1) := by decide +kernel
theorem d_P_doubleArea_9 : decode b_P_doubleArea 9 = .ok (.aload_n 0, 1) := by decide +kernel
theorem d_P_doubleArea_10 : decode b_P_doubleArea 10 = .ok (.getfield 15, 3) := by decide +kernel
theorem d_P_doubleArea_13 : decode b_P_doubleArea 13 = .ok (.iload_n 3, 1) := by decide +kernel
theorem d_P_doubleArea_14 : decode b_P_doubleArea 14 = .ok (.iaload, 1) := by decide +kernel
theorem d_P_doubleArea_15 : decode b_P_doubleArea 15 = .ok (.invokevirtual 33, 3) := by decide +kernel
theorem d_P_doubleArea_18 : decode b_P_doubleArea 18 = .ok (.lreturn, 1) := by decide +kernel
theorem d_P_side_0 : decode b_P_side 0 = .ok (.aload_n 0, 1) := by decide +kernel
theorem d_P_side_1 : decode b_P_side 1 = .ok (.iload_n 1, 1) := by decide +kernel
theorem d_P_side_2 : decode b_P_side 2 = .ok (.iload_n 2, 1) := by decide +kernel
theorem d_P_side_3 : decode b_P_side 3 = .ok (.aload_n 0, 1) := by decide +kernel
theorem d_P_side_4 : decode b_P_side 4 = .ok (.getfield 9, 3) := by decide +kernel
theorem d_P_side_7 : decode b_P_side 7 = .ok (.iload_n 3, 1) := by decide +kernel
theorem d_P_side_8 : decode b_P_side 8 = .ok (.iaload, 1) := by decide +kernel
theorem d_P_side_9 : decode b_P_side 9 = .ok (.aload_n 0, 1) := by decide +kernel
theorem d_P_side_10 : decode b_P_side 10 = .ok (.getfield 15, 3) := by decide +kernel
theorem d_P_side_13 : decode b_P_side 13 = .ok (.iload_n 3, 1) := by decide +kernel
theorem d_P_side_14 : decode b_P_side 14 = .ok (.iaload, 1) := by decide +kernel
theorem d_P_side_15 : decode b_P_side 15 = .ok (.invokevirtual 33, 3) := by decide +kernel
theorem d_P_side_18 : decode b_P_side 18 = .ok (.invokestatic 37, 3) := by decide +kernel
theorem d_P_side_21 : decode b_P_side 21 = .ok (.ireturn, 1) := by decide +kernel
theorem d_P_circleSide_0 : decode b_P_circleSide 0 = .ok (.aload_n 0, 1) := by decide +kernel
theorem d_P_circleSide_1 : decode b_P_circleSide 1 = .ok (.getfield 9, 3) := by decide +kernel
theorem d_P_circleSide_4 : decode b_P_circleSide 4 = .ok (.iload_n 1, 1) := by decide +kernel
theorem d_P_circleSide_5 : decode b_P_circleSide 5 = .ok (.iaload, 1) := by decide +kernel
theorem d_P_circleSide_6 : decode b_P_circleSide 6 = .ok (.aload_n 0, 1) := by decide +kernel
theorem d_P_circleSide_7 : decode b_P_circleSide 7 = .ok (.getfield 9, 3) := by decide +kernel
theorem d_P_circleSide_10 : decode b_P_circleSide 10 = .ok (.iload 4, 2) := by decide +kernel
theorem d_P_circleSide_12 : decode b_P_circleSide 12 = .ok (.iaload, 1) := by decide +kernel
theorem d_P_circleSide_13 : decode b_P_circleSide 13 = .ok (.isub, 1) := by decide +kernel
theorem d_P_circleSide_14 : decode b_P_circleSide 14 = .ok (.i2l, 1) := by decide +kernel
theorem d_P_circleSide_15 : decode b_P_circleSide 15 = .ok (.lstore 5, 2) := by decide +kernel
theorem d_P_circleSide_17 : decode b_P_circleSide 17 = .ok (.aload_n 0, 1) := by decide +kernel
theorem d_P_circleSide_18 : decode b_P_circleSide 18 = .ok (.getfield 15, 3) := by decide +kernel
theorem d_P_circleSide_21 : decode b_P_circleSide 21 = .ok (.iload_n 1, 1) := by decide +kernel
theorem d_P_circleSide_22 : decode b_P_circleSide 22 = .ok (.iaload, 1) := by decide +kernel
theorem d_P_circleSide_23 : decode b_P_circleSide 23 = .ok (.aload_n 0, 1) := by decide +kernel
theorem d_P_circleSide_24 : decode b_P_circleSide 24 = .ok (.getfield 15, 3) := by decide +kernel
theorem d_P_circleSide_27 : decode b_P_circleSide 27 = .ok (.iload 4, 2) := by decide +kernel
theorem d_P_circleSide_29 : decode b_P_circleSide 29 = .ok (.iaload, 1) := by decide +kernel
theorem d_P_circleSide_30 : decode b_P_circleSide 30 = .ok (.isub, 1) := by decide +kernel
theorem d_P_circleSide_31 : decode b_P_circleSide 31 = .ok (.i2l, 1) := by decide +kernel
theorem d_P_circleSide_32 : decode b_P_circleSide 32 = .ok (.lstore 7, 2) := by decide +kernel
theorem d_P_circleSide_34 : decode b_P_circleSide 34 = .ok (.aload_n 0, 1) := by decide +kernel
theorem d_P_circleSide_35 : decode b_P_circleSide 35 = .ok (.getfield 9, 3) := by decide +kernel
theorem d_P_circleSide_38 : decode b_P_circleSide 38 = .ok (.iload_n 2, 1) := by decide +kernel
theorem d_P_circleSide_39 : decode b_P_circleSide 39 = .ok (.iaload, 1) := by decide +kernel
theorem d_P_circleSide_40 : decode b_P_circleSide 40 = .ok (.aload_n 0, 1) := by decide +kernel
theorem d_P_circleSide_41 : decode b_P_circleSide 41 = .ok (.getfield 9, 3) := by decide +kernel
theorem d_P_circleSide_44 : decode b_P_circleSide 44 = .ok (.iload 4, 2) := by decide +kernel
theorem d_P_circleSide_46 : decode b_P_circleSide 46 = .ok (.iaload, 1) := by decide +kernel
theorem d_P_circleSide_47 : decode b_P_circleSide 47 = .ok (.isub, 1) := by decide +kernel
theorem d_P_circleSide_48 : decode b_P_circleSide 48 = .ok (.i2l, 1) := by decide +kernel
theorem d_P_circleSide_49 : decode b_P_circleSide 49 = .ok (.lstore 9, 2) := by decide +kernel
theorem d_P_circleSide_51 : decode b_P_circleSide 51 = .ok (.aload_n 0, 1) := by decide +kernel
theorem d_P_circleSide_52 : decode b_P_circleSide 52 = .ok (.getfield 15, 3) := by decide +kernel
theorem d_P_circleSide_55 : decode b_P_circleSide 55 = .ok (.iload_n 2, 1) := by decide +kernel
theorem d_P_circleSide_56 : decode b_P_circleSide 56 = .ok (.iaload, 1) := by decide +kernel
theorem d_P_circleSide_57 : decode b_P_circleSide 57 = .ok (.aload_n 0, 1) := by decide +kernel
theorem d_P_circleSide_58 : decode b_P_circleSide 58 = .ok (.getfield 15, 3) := by decide +kernel
theorem d_P_circleSide_61 : decode b_P_circleSide 61 = .ok (.iload 4, 2) := by decide +kernel
theorem d_P_circleSide_63 : decode b_P_circleSide 63 = .ok (.iaload, 1) := by decide +kernel
theorem d_P_circleSide_64 : decode b_P_circleSide 64 = .ok (.isub, 1) := by decide +kernel
theorem d_P_circleSide_65 : decode b_P_circleSide 65 = .ok (.i2l, 1) := by decide +kernel
theorem d_P_circleSide_66 : decode b_P_circleSide 66 = .ok (.lstore 11, 2) := by decide +kernel
theorem d_P_circleSide_68 : decode b_P_circleSide 68 = .ok (.aload_n 0, 1) := by decide +kernel
theorem d_P_circleSide_69 : decode b_P_circleSide 69 = .ok (.getfield 9, 3) := by decide +kernel
theorem d_P_circleSide_72 : decode b_P_circleSide 72 = .ok (.iload_n 3, 1) := by decide +kernel
theorem d_P_circleSide_73 : decode b_P_circleSide 73 = .ok (.iaload, 1) := by decide +kernel
theorem d_P_circleSide_74 : decode b_P_circleSide 74 = .ok (.aload_n 0, 1) := by decide +kernel
theorem d_P_circleSide_75 : decode b_P_circleSide 75 = .ok (.getfield 9, 3) := by decide +kernel
theorem d_P_circleSide_78 : decode b_P_circleSide 78 = .ok (.iload 4, 2) := by decide +kernel
theorem d_P_circleSide_80 : decode b_P_circleSide 80 = .ok (.iaload, 1) := by decide +kernel
theorem d_P_circleSide_81 : decode b_P_circleSide 81 = .ok (.isub, 1) := by decide +kernel
theorem d_P_circleSide_82 : decode b_P_circleSide 82 = .ok (.i2l, 1) := by decide +kernel
theorem d_P_circleSide_83 : decode b_P_circleSide 83 = .ok (.lstore 13, 2) := by decide +kernel
theorem d_P_circleSide_85 : decode b_P_circleSide 85 = .ok (.aload_n 0, 1) := by decide +kernel
theorem d_P_circleSide_86 : decode b_P_circleSide 86 = .ok (.getfield 15, 3) := by decide +kernel
theorem d_P_circleSide_89 : decode b_P_circleSide 89 = .ok (.iload_n 3, 1) := by decide +kernel
theorem d_P_circleSide_90 : decode b_P_circleSide 90 = .ok (.iaload, 1) := by decide +kernel
theorem d_P_circleSide_91 : decode b_P_circleSide 91 = .ok (.aload_n 0, 1) := by decide +kernel
theorem d_P_circleSide_92 : decode b_P_circleSide 92 = .ok (.getfield 15, 3) := by decide +kernel
theorem d_P_circleSide_95 : decode b_P_circleSide 95 = .ok (.iload 4, 2) := by decide +kernel
theorem d_P_circleSide_97 : decode b_P_circleSide 97 = .ok (.iaload, 1) := by decide +kernel
theorem d_P_circleSide_98 : decode b_P_circleSide 98 = .ok (.isub, 1) := by decide +kernel
theorem d_P_circleSide_99 : decode b_P_circleSide 99 = .ok (.i2l, 1) := by decide +kernel
theorem d_P_circleSide_100 : decode b_P_circleSide 100 = .ok (.lstore 15, 2) := by decide +kernel
theorem d_P_circleSide_102 : decode b_P_circleSide 102 = .ok (.lload 5, 2) := by decide +kernel
theorem d_P_circleSide_104 : decode b_P_circleSide 104 = .ok (.lload 5, 2) := by decide +kernel
theorem d_P_circleSide_106 : decode b_P_circleSide 106 = .ok (.lmul, 1) := by decide +kernel
theorem d_P_circleSide_107 : decode b_P_circleSide 107 = .ok (.lload 7, 2) := by decide +kernel
theorem d_P_circleSide_109 : decode b_P_circleSide 109 = .ok (.lload 7, 2) := by decide +kernel
theorem d_P_circleSide_111 : decode b_P_circleSide 111 = .ok (.lmul, 1) := by decide +kernel
theorem d_P_circleSide_112 : decode b_P_circleSide 112 = .ok (.ladd, 1) := by decide +kernel
theorem d_P_circleSide_113 : decode b_P_circleSide 113 = .ok (.lload 9, 2) := by decide +kernel
theorem d_P_circleSide_115 : decode b_P_circleSide 115 = .ok (.lload 15, 2) := by decide +kernel
theorem d_P_circleSide_117 : decode b_P_circleSide 117 = .ok (.lmul, 1) := by decide +kernel
theorem d_P_circleSide_118 : decode b_P_circleSide 118 = .ok (.lload 11, 2) := by decide +kernel
theorem d_P_circleSide_120 : decode b_P_circleSide 120 = .ok (.lload 13, 2) := by decide +kernel
theorem d_P_circleSide_122 : decode b_P_circleSide 122 = .ok (.lmul, 1) := by decide +kernel
theorem d_P_circleSide_123 : decode b_P_circleSide 123 = .ok (.lsub, 1) := by decide +kernel
theorem d_P_circleSide_124 : decode b_P_circleSide 124 = .ok (.lload 9, 2) := by decide +kernel
theorem d_P_circleSide_126 : decode b_P_circleSide 126 = .ok (.lload 9, 2) := by decide +kernel
theorem d_P_circleSide_128 : decode b_P_circleSide 128 = .ok (.lmul, 1) := by decide +kernel
theorem d_P_circleSide_129 : decode b_P_circleSide 129 = .ok (.lload 11, 2) := by decide +kernel
theorem d_P_circleSide_131 : decode b_P_circleSide 131 = .ok (.lload 11, 2) := by decide +kernel
theorem d_P_circleSide_133 : decode b_P_circleSide 133 = .ok (.lmul, 1) := by decide +kernel
theorem d_P_circleSide_134 : decode b_P_circleSide 134 = .ok (.ladd, 1) := by decide +kernel
theorem d_P_circleSide_135 : decode b_P_circleSide 135 = .ok (.lload 13, 2) := by decide +kernel
theorem d_P_circleSide_137 : decode b_P_circleSide 137 = .ok (.lload 7, 2) := by decide +kernel
theorem d_P_circleSide_139 : decode b_P_circleSide 139 = .ok (.lmul, 1) := by decide +kernel
theorem d_P_circleSide_140 : decode b_P_circleSide 140 = .ok (.lload 15, 2) := by decide +kernel
theorem d_P_circleSide_142 : decode b_P_circleSide 142 = .ok (.lload 5, 2) := by decide +kernel
theorem d_P_circleSide_144 : decode b_P_circleSide 144 = .ok (.lmul, 1) := by decide +kernel
theorem d_P_circleSide_145 : decode b_P_circleSide 145 = .ok (.lsub, 1) := by decide +kernel
theorem d_P_circleSide_146 : decode b_P_circleSide 146 = .ok (.lload 13, 2) := by decide +kernel
theorem d_P_circleSide_148 : decode b_P_circleSide 148 = .ok (.lload 13, 2) := by decide +kernel
theorem d_P_circleSide_150 : decode b_P_circleSide 150 = .ok (.lmul, 1) := by decide +kernel
theorem d_P_circleSide_151 : decode b_P_circleSide 151 = .ok (.lload 15, 2) := by decide +kernel
theorem d_P_circleSide_153 : decode b_P_circleSide 153 = .ok (.lload 15, 2) := by decide +kernel
theorem d_P_circleSide_155 : decode b_P_circleSide 155 = .ok (.lmul, 1) := by decide +kernel
theorem d_P_circleSide_156 : decode b_P_circleSide 156 = .ok (.ladd, 1) := by decide +kernel
theorem d_P_circleSide_157 : decode b_P_circleSide 157 = .ok (.lload 5, 2) := by decide +kernel
theorem d_P_circleSide_159 : decode b_P_circleSide 159 = .ok (.lload 11, 2) := by decide +kernel
theorem d_P_circleSide_161 : decode b_P_circleSide 161 = .ok (.lmul, 1) := by decide +kernel
theorem d_P_circleSide_162 : decode b_P_circleSide 162 = .ok (.lload 7, 2) := by decide +kernel
theorem d_P_circleSide_164 : decode b_P_circleSide 164 = .ok (.lload 9, 2) := by decide +kernel
theorem d_P_circleSide_166 : decode b_P_circleSide 166 = .ok (.lmul, 1) := by decide +kernel
theorem d_P_circleSide_167 : decode b_P_circleSide 167 = .ok (.lsub, 1) := by decide +kernel
theorem d_P_circleSide_168 : decode b_P_circleSide 168 = .ok (.invokestatic 41, 3) := by decide +kernel
theorem d_P_circleSide_171 : decode b_P_circleSide 171 = .ok (.ireturn, 1) := by decide +kernel
theorem d_P_signOfProducts_0 : decode b_P_signOfProducts 0 = .ok (.lload_n 0, 1) := by decide +kernel
theorem d_P_signOfProducts_1 : decode b_P_signOfProducts 1 = .ok (.ldc2_w 45, 3) := by decide +kernel
theorem d_P_signOfProducts_4 : decode b_P_signOfProducts 4 = .ok (.land, 1) := by decide +kernel
theorem d_P_signOfProducts_5 : decode b_P_signOfProducts 5 = .ok (.lload_n 2, 1) := by decide +kernel
theorem d_P_signOfProducts_6 : decode b_P_signOfProducts 6 = .ok (.lmul, 1) := by decide +kernel
theorem d_P_signOfProducts_7 : decode b_P_signOfProducts 7 = .ok (.lload 4, 2) := by decide +kernel
theorem d_P_signOfProducts_9 : decode b_P_signOfProducts 9 = .ok (.ldc2_w 45, 3) := by decide +kernel
theorem d_P_signOfProducts_12 : decode b_P_signOfProducts 12 = .ok (.land, 1) := by decide +kernel
theorem d_P_signOfProducts_13 : decode b_P_signOfProducts 13 = .ok (.lload 6, 2) := by decide +kernel
theorem d_P_signOfProducts_15 : decode b_P_signOfProducts 15 = .ok (.lmul, 1) := by decide +kernel
theorem d_P_signOfProducts_16 : decode b_P_signOfProducts 16 = .ok (.ladd, 1) := by decide +kernel
theorem d_P_signOfProducts_17 : decode b_P_signOfProducts 17 = .ok (.lload 8, 2) := by decide +kernel
theorem d_P_signOfProducts_19 : decode b_P_signOfProducts 19 = .ok (.ldc2_w 45, 3) := by decide +kernel
theorem d_P_signOfProducts_22 : decode b_P_signOfProducts 22 = .ok (.land, 1) := by decide +kernel
theorem d_P_signOfProducts_23 : decode b_P_signOfProducts 23 = .ok (.lload 10, 2) := by decide +kernel
theorem d_P_signOfProducts_25 : decode b_P_signOfProducts 25 = .ok (.lmul, 1) := by decide +kernel
theorem d_P_signOfProducts_26 : decode b_P_signOfProducts 26 = .ok (.ladd, 1) := by decide +kernel
theorem d_P_signOfProducts_27 : decode b_P_signOfProducts 27 = .ok (.lstore 12, 2) := by decide +kernel
theorem d_P_signOfProducts_29 : decode b_P_signOfProducts 29 = .ok (.lload_n 0, 1) := by decide +kernel
theorem d_P_signOfProducts_30 : decode b_P_signOfProducts 30 = .ok (.bipush 15, 2) := by decide +kernel
theorem d_P_signOfProducts_32 : decode b_P_signOfProducts 32 = .ok (.lshr, 1) := by decide +kernel
theorem d_P_signOfProducts_33 : decode b_P_signOfProducts 33 = .ok (.lstore_n 0, 1) := by decide +kernel
theorem d_P_signOfProducts_34 : decode b_P_signOfProducts 34 = .ok (.lload 4, 2) := by decide +kernel
theorem d_P_signOfProducts_36 : decode b_P_signOfProducts 36 = .ok (.bipush 15, 2) := by decide +kernel
theorem d_P_signOfProducts_38 : decode b_P_signOfProducts 38 = .ok (.lshr, 1) := by decide +kernel
theorem d_P_signOfProducts_39 : decode b_P_signOfProducts 39 = .ok (.lstore 4, 2) := by decide +kernel
theorem d_P_signOfProducts_41 : decode b_P_signOfProducts 41 = .ok (.lload 8, 2) := by decide +kernel
theorem d_P_signOfProducts_43 : decode b_P_signOfProducts 43 = .ok (.bipush 15, 2) := by decide +kernel
theorem d_P_signOfProducts_45 : decode b_P_signOfProducts 45 = .ok (.lshr, 1) := by decide +kernel
theorem d_P_signOfProducts_46 : decode b_P_signOfProducts 46 = .ok (.lstore 8, 2) := by decide +kernel
theorem d_P_signOfProducts_48 : decode b_P_signOfProducts 48 = .ok (.lload_n 0, 1) := by decide +kernel
theorem d_P_signOfProducts_49 : decode b_P_signOfProducts 49 = .ok (.ldc2_w 45, 3) := by decide +kernel
theorem d_P_signOfProducts_52 : decode b_P_signOfProducts 52 = .ok (.land, 1) := by decide +kernel
theorem d_P_signOfProducts_53 : decode b_P_signOfProducts 53 = .ok (.lload_n 2, 1) := by decide +kernel
theorem d_P_signOfProducts_54 : decode b_P_signOfProducts 54 = .ok (.lmul, 1) := by decide +kernel
theorem d_P_signOfProducts_55 : decode b_P_signOfProducts 55 = .ok (.lload 4, 2) := by decide +kernel
theorem d_P_signOfProducts_57 : decode b_P_signOfProducts 57 = .ok (.ldc2_w 45, 3) := by decide +kernel
theorem d_P_signOfProducts_60 : decode b_P_signOfProducts 60 = .ok (.land, 1) := by decide +kernel
theorem d_P_signOfProducts_61 : decode b_P_signOfProducts 61 = .ok (.lload 6, 2) := by decide +kernel
theorem d_P_signOfProducts_63 : decode b_P_signOfProducts 63 = .ok (.lmul, 1) := by decide +kernel
theorem d_P_signOfProducts_64 : decode b_P_signOfProducts 64 = .ok (.ladd, 1) := by decide +kernel
theorem d_P_signOfProducts_65 : decode b_P_signOfProducts 65 = .ok (.lload 8, 2) := by decide +kernel
theorem d_P_signOfProducts_67 : decode b_P_signOfProducts 67 = .ok (.ldc2_w 45, 3) := by decide +kernel
theorem d_P_signOfProducts_70 : decode b_P_signOfProducts 70 = .ok (.land, 1) := by decide +kernel
theorem d_P_signOfProducts_71 : decode b_P_signOfProducts 71 = .ok (.lload 10, 2) := by decide +kernel
theorem d_P_signOfProducts_73 : decode b_P_signOfProducts 73 = .ok (.lmul, 1) := by decide +kernel
theorem d_P_signOfProducts_74 : decode b_P_signOfProducts 74 = .ok (.ladd, 1) := by decide +kernel
theorem d_P_signOfProducts_75 : decode b_P_signOfProducts 75 = .ok (.lload 12, 2) := by decide +kernel
theorem d_P_signOfProducts_77 : decode b_P_signOfProducts 77 = .ok (.bipush 15, 2) := by decide +kernel
theorem d_P_signOfProducts_79 : decode b_P_signOfProducts 79 = .ok (.lshr, 1) := by decide +kernel
theorem d_P_signOfProducts_80 : decode b_P_signOfProducts 80 = .ok (.ladd, 1) := by decide +kernel
theorem d_P_signOfProducts_81 : decode b_P_signOfProducts 81 = .ok (.lstore 14, 2) := by decide +kernel
theorem d_P_signOfProducts_83 : decode b_P_signOfProducts 83 = .ok (.lload_n 0, 1) := by decide +kernel
theorem d_P_signOfProducts_84 : decode b_P_signOfProducts 84 = .ok (.bipush 15, 2) := by decide +kernel
theorem d_P_signOfProducts_86 : decode b_P_signOfProducts 86 = .ok (.lshr, 1) := by decide +kernel
theorem d_P_signOfProducts_87 : decode b_P_signOfProducts 87 = .ok (.lstore_n 0, 1) := by decide +kernel
theorem d_P_signOfProducts_88 : decode b_P_signOfProducts 88 = .ok (.lload 4, 2) := by decide +kernel
theorem d_P_signOfProducts_90 : decode b_P_signOfProducts 90 = .ok (.bipush 15, 2) := by decide +kernel
theorem d_P_signOfProducts_92 : decode b_P_signOfProducts 92 = .ok (.lshr, 1) := by decide +kernel
theorem d_P_signOfProducts_93 : decode b_P_signOfProducts 93 = .ok (.lstore 4, 2) := by decide +kernel
theorem d_P_signOfProducts_95 : decode b_P_signOfProducts 95 = .ok (.lload 8, 2) := by decide +kernel
theorem d_P_signOfProducts_97 : decode b_P_signOfProducts 97 = .ok (.bipush 15, 2) := by decide +kernel
theorem d_P_signOfProducts_99 : decode b_P_signOfProducts 99 = .ok (.lshr, 1) := by decide +kernel
theorem d_P_signOfProducts_100 : decode b_P_signOfProducts 100 = .ok (.lstore 8, 2) := by decide +kernel
theorem d_P_signOfProducts_102 : decode b_P_signOfProducts 102 = .ok (.lload_n 0, 1) := by decide +kernel
theorem d_P_signOfProducts_103 : decode b_P_signOfProducts 103 = .ok (.lload_n 2, 1) := by decide +kernel
theorem d_P_signOfProducts_104 : decode b_P_signOfProducts 104 = .ok (.lmul, 1) := by decide +kernel
theorem d_P_signOfProducts_105 : decode b_P_signOfProducts 105 = .ok (.lload 4, 2) := by decide +kernel
theorem d_P_signOfProducts_107 : decode b_P_signOfProducts 107 = .ok (.lload 6, 2) := by decide +kernel
theorem d_P_signOfProducts_109 : decode b_P_signOfProducts 109 = .ok (.lmul, 1) := by decide +kernel
theorem d_P_signOfProducts_110 : decode b_P_signOfProducts 110 = .ok (.ladd, 1) := by decide +kernel
theorem d_P_signOfProducts_111 : decode b_P_signOfProducts 111 = .ok (.lload 8, 2) := by decide +kernel
theorem d_P_signOfProducts_113 : decode b_P_signOfProducts 113 = .ok (.lload 10, 2) := by decide +kernel
theorem d_P_signOfProducts_115 : decode b_P_signOfProducts 115 = .ok (.lmul, 1) := by decide +kernel
theorem d_P_signOfProducts_116 : decode b_P_signOfProducts 116 = .ok (.ladd, 1) := by decide +kernel
theorem d_P_signOfProducts_117 : decode b_P_signOfProducts 117 = .ok (.lload 14, 2) := by decide +kernel
theorem d_P_signOfProducts_119 : decode b_P_signOfProducts 119 = .ok (.bipush 15, 2) := by decide +kernel
theorem d_P_signOfProducts_121 : decode b_P_signOfProducts 121 = .ok (.lshr, 1) := by decide +kernel
theorem d_P_signOfProducts_122 : decode b_P_signOfProducts 122 = .ok (.ladd, 1) := by decide +kernel
theorem d_P_signOfProducts_123 : decode b_P_signOfProducts 123 = .ok (.lstore 16, 2) := by decide +kernel
theorem d_P_signOfProducts_125 : decode b_P_signOfProducts 125 = .ok (.lload 16, 2) := by decide +kernel
theorem d_P_signOfProducts_127 : decode b_P_signOfProducts 127 = .ok (.lconst 0, 1) := by decide +kernel
theorem d_P_signOfProducts_128 : decode b_P_signOfProducts 128 = .ok (.lcmp, 1) := by decide +kernel
theorem d_P_signOfProducts_129 : decode b_P_signOfProducts 129 = .ok (.ifCond .eq 9, 3) := by decide +kernel
theorem d_P_signOfProducts_132 : decode b_P_signOfProducts 132 = .ok (.lload 16, 2) := by decide +kernel
theorem d_P_signOfProducts_134 : decode b_P_signOfProducts 134 = .ok (.invokestatic 37, 3) := by decide +kernel
theorem d_P_signOfProducts_137 : decode b_P_signOfProducts 137 = .ok (.ireturn, 1) := by decide +kernel
theorem d_P_signOfProducts_138 : decode b_P_signOfProducts 138 = .ok (.lload 14, 2) := by decide +kernel
theorem d_P_signOfProducts_140 : decode b_P_signOfProducts 140 = .ok (.lload 12, 2) := by decide +kernel
theorem d_P_signOfProducts_142 : decode b_P_signOfProducts 142 = .ok (.lor, 1) := by decide +kernel
theorem d_P_signOfProducts_143 : decode b_P_signOfProducts 143 = .ok (.ldc2_w 45, 3) := by decide +kernel
theorem d_P_signOfProducts_146 : decode b_P_signOfProducts 146 = .ok (.land, 1) := by decide +kernel
theorem d_P_signOfProducts_147 : decode b_P_signOfProducts 147 = .ok (.invokestatic 37, 3) := by decide +kernel
theorem d_P_signOfProducts_150 : decode b_P_signOfProducts 150 = .ok (.ireturn, 1) := by decide +kernel
