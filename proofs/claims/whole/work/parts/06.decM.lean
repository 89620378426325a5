theorem d_M_init_0 : decode b_M_init 0 = .ok (.aload_n 0, 1) := by decide +kernel
theorem d_M_init_1 : decode b_M_init 1 = .ok (.invokespecial 3, 3) := by decide +kernel
theorem d_M_init_4 : decode b_M_init 4 = .ok (.aload_n 0, 1) := by decide +kernel
theorem d_M_init_5 : decode b_M_init 5 = .ok (.bipush 35, 2) := by decide +kernel
theorem d_M_init_7 : decode b_M_init 7 = .ok (.newarray .int, 2) := by decide +kernel
theorem d_M_init_9 : decode b_M_init 9 = .ok (.putfield 9, 3) := by decide +kernel
theorem d_M_init_12 : decode b_M_init 12 = .ok (.aload_n 0, 1) := by decide +kernel
theorem d_M_init_13 : decode b_M_init 13 = .ok (.bipush 35, 2) := by decide +kernel
theorem d_M_init_15 : decode b_M_init 15 = .ok (.newarray .int, 2) := by decide +kernel
theorem d_M_init_17 : decode b_M_init 17 = .ok (.putfield 15, 3) := by decide +kernel
theorem d_M_init_20 : decode b_M_init 20 = .ok (.aload_n 0, 1) := by decide +kernel
theorem d_M_init_21 : decode b_M_init 21 = .ok (.iconst 0, 1) := by decide +kernel
theorem d_M_init_22 : decode b_M_init 22 = .ok (.putfield 18, 3) := by decide +kernel
theorem d_M_init_25 : decode b_M_init 25 = .ok (.aload_n 0, 1) := by decide +kernel
theorem d_M_init_26 : decode b_M_init 26 = .ok (.bipush 20, 2) := by decide +kernel
theorem d_M_init_28 : decode b_M_init 28 = .ok (.newarray .int, 2) := by decide +kernel
theorem d_M_init_30 : decode b_M_init 30 = .ok (.putfield 22, 3) := by decide +kernel
theorem d_M_init_33 : decode b_M_init 33 = .ok (.aload_n 0, 1) := by decide +kernel
theorem d_M_init_34 : decode b_M_init 34 = .ok (.bipush 54, 2) := by decide +kernel
theorem d_M_init_36 : decode b_M_init 36 = .ok (.newarray .int, 2) := by decide +kernel
theorem d_M_init_38 : decode b_M_init 38 = .ok (.putfield 25, 3) := by decide +kernel
theorem d_M_init_41 : decode b_M_init 41 = .ok (.aload_n 0, 1) := by decide +kernel
theorem d_M_init_42 : decode b_M_init 42 = .ok (.iconst 0, 1) := by decide +kernel
theorem d_M_init_43 : decode b_M_init 43 = .ok (.putfield 28, 3) := by decide +kernel
theorem d_M_init_46 : decode b_M_init 46 = .ok (.aload_n 0, 1) := by decide +kernel
theorem d_M_init_47 : decode b_M_init 47 = .ok (.bipush 20, 2) := by decide +kernel
theorem d_M_init_49 : decode b_M_init 49 = .ok (.newarray .int, 2) := by decide +kernel
theorem d_M_init_51 : decode b_M_init 51 = .ok (.putfield 31, 3) := by decide +kernel
theorem d_M_init_54 : decode b_M_init 54 = .ok (.aload_n 0, 1) := by decide +kernel
theorem d_M_init_55 : decode b_M_init 55 = .ok (.iconst 0, 1) := by decide +kernel
theorem d_M_init_56 : decode b_M_init 56 = .ok (.putfield 34, 3) := by decide +kernel
theorem d_M_init_59 : decode b_M_init 59 = .ok (.return_, 1) := by decide +kernel
theorem d_M_size_0 : decode b_M_size 0 = .ok (.aload_n 0, 1) := by decide +kernel
theorem d_M_size_1 : decode b_M_size 1 = .ok (.getfield 18, 3) := by decide +kernel
theorem d_M_size_4 : decode b_M_size 4 = .ok (.ireturn, 1) := by decide +kernel
theorem d_M_has_0 : decode b_M_has 0 = .ok (.iload_n 1, 1) := by decide +kernel
theorem d_M_has_1 : decode b_M_has 1 = .ok (.ifCond .lt 15, 3) := by decide +kernel
theorem d_M_has_4 : decode b_M_has 4 = .ok (.iload_n 1, 1) := by decide +kernel
theorem d_M_has_5 : decode b_M_has 5 = .ok (.aload_n 0, 1) := by decide +kernel
theorem d_M_has_6 : decode b_M_has 6 = .ok (.getfield 18, 3) := by decide +kernel
theorem d_M_has_9 : decode b_M_has 9 = .ok (.if_icmp .ge 7, 3) := by decide +kernel
theorem d_M_has_12 : decode b_M_has 12 = .ok (.iconst 1, 1) := by decide +kernel
theorem d_M_has_13 : decode b_M_has 13 = .ok (.goto 4, 3) := by decide +kernel
theorem d_M_has_16 : decode b_M_has 16 = .ok (.iconst 0, 1) := by decide +kernel
theorem d_M_has_17 : decode b_M_has 17 = .ok (.ireturn, 1) := by decide +kernel
theorem d_M_corner_0 : decode b_M_corner 0 = .ok (.aload_n 0, 1) := by decide +kernel
theorem d_M_corner_1 : decode b_M_corner 1 = .ok (.getfield 9, 3) := by decide +kernel
theorem d_M_corner_4 : decode b_M_corner 4 = .ok (.iload_n 1, 1) := by decide +kernel
theorem d_M_corner_5 : decode b_M_corner 5 = .ok (.iaload, 1) := by decide +kernel
theorem d_M_corner_6 : decode b_M_corner 6 = .ok (.iconst 2, 1) := by decide +kernel
theorem d_M_corner_7 : decode b_M_corner 7 = .ok (.iload_n 2, 1) := by decide +kernel
theorem d_M_corner_8 : decode b_M_corner 8 = .ok (.isub, 1) := by decide +kernel
theorem d_M_corner_9 : decode b_M_corner 9 = .ok (.iconst 5, 1) := by decide +kernel
theorem d_M_corner_10 : decode b_M_corner 10 = .ok (.imul, 1) := by decide +kernel
theorem d_M_corner_11 : decode b_M_corner 11 = .ok (.ishr, 1) := by decide +kernel
theorem d_M_corner_12 : decode b_M_corner 12 = .ok (.bipush 31, 2) := by decide +kernel
theorem d_M_corner_14 : decode b_M_corner 14 = .ok (.iand, 1) := by decide +kernel
theorem d_M_corner_15 : decode b_M_corner 15 = .ok (.ireturn, 1) := by decide +kernel
theorem d_M_cornerSet_0 : decode b_M_cornerSet 0 = .ok (.iconst 1, 1) := by decide +kernel
theorem d_M_cornerSet_1 : decode b_M_cornerSet 1 = .ok (.aload_n 0, 1) := by decide +kernel
theorem d_M_cornerSet_2 : decode b_M_cornerSet 2 = .ok (.iload_n 1, 1) := by decide +kernel
theorem d_M_cornerSet_3 : decode b_M_cornerSet 3 = .ok (.iconst 0, 1) := by decide +kernel
theorem d_M_cornerSet_4 : decode b_M_cornerSet 4 = .ok (.invokevirtual 37, 3) := by decide +kernel
theorem d_M_cornerSet_7 : decode b_M_cornerSet 7 = .ok (.ishl, 1) := by decide +kernel
theorem d_M_cornerSet_8 : decode b_M_cornerSet 8 = .ok (.iconst 1, 1) := by decide +kernel
theorem d_M_cornerSet_9 : decode b_M_cornerSet 9 = .ok (.aload_n 0, 1) := by decide +kernel
theorem d_M_cornerSet_10 : decode b_M_cornerSet 10 = .ok (.iload_n 1, 1) := by decide +kernel
theorem d_M_cornerSet_11 : decode b_M_cornerSet 11 = .ok (.iconst 1, 1) := by decide +kernel
theorem d_M_cornerSet_12 : decode b_M_cornerSet 12 = .ok (.invokevirtual 37, 3) := by decide +kernel
theorem d_M_cornerSet_15 : decode b_M_cornerSet 15 = .ok (.ishl, 1) := by decide +kernel
theorem d_M_cornerSet_16 : decode b_M_cornerSet 16 = .ok (.ior, 1) := by decide +kernel
theorem d_M_cornerSet_17 : decode b_M_cornerSet 17 = .ok (.iconst 1, 1) := by decide +kernel
theorem d_M_cornerSet_18 : decode b_M_cornerSet 18 = .ok (.aload_n 0, 1) := by decide +kernel
theorem d_M_cornerSet_19 : decode b_M_cornerSet 19 = .ok (.iload_n 1, 1) := by decide +kernel
theorem d_M_cornerSet_20 : decode b_M_cornerSet 20 = .ok (.iconst 2, 1) := by decide +kernel
theorem d_M_cornerSet_21 : decode b_M_cornerSet 21 = .ok (.invokevirtual 37, 3) := by decide +kernel
theorem d_M_cornerSet_24 : decode b_M_cornerSet 24 = .ok (.ishl, 1) := by decide +kernel
theorem d_M_cornerSet_25 : decode b_M_cornerSet 25 = .ok (.ior, 1) := by decide +kernel
theorem d_M_cornerSet_26 : decode b_M_cornerSet 26 = .ok (.ireturn, 1) := by decide +kernel
theorem d_M_faceSize_0 : decode b_M_faceSize 0 = .ok (.aload_n 0, 1) := by decide +kernel
theorem d_M_faceSize_1 : decode b_M_faceSize 1 = .ok (.getfield 15, 3) := by decide +kernel
theorem d_M_faceSize_4 : decode b_M_faceSize 4 = .ok (.iload_n 1, 1) := by decide +kernel
theorem d_M_faceSize_5 : decode b_M_faceSize 5 = .ok (.iaload, 1) := by decide +kernel
theorem d_M_faceSize_6 : decode b_M_faceSize 6 = .ok (.ireturn, 1) := by decide +kernel
theorem d_M_linkedTo_0 : decode b_M_linkedTo 0 = .ok (.aload_n 0, 1) := by decide +kernel
theorem d_M_linkedTo_1 : decode b_M_linkedTo 1 = .ok (.getfield 22, 3) := by decide +kernel
theorem d_M_linkedTo_4 : decode b_M_linkedTo 4 = .ok (.iload_n 1, 1) := by decide +kernel
theorem d_M_linkedTo_5 : decode b_M_linkedTo 5 = .ok (.iaload, 1) := by decide +kernel
theorem d_M_linkedTo_6 : decode b_M_linkedTo 6 = .ok (.ireturn, 1) := by decide +kernel
theorem d_M_begin_0 : decode b_M_begin 0 = .ok (.aload_n 0, 1) := by decide +kernel
theorem d_M_begin_1 : decode b_M_begin 1 = .ok (.iconst 0, 1) := by decide +kernel
theorem d_M_begin_2 : decode b_M_begin 2 = .ok (.putfield 18, 3) := by decide +kernel
theorem d_M_begin_5 : decode b_M_begin 5 = .ok (.aload_n 0, 1) := by decide +kernel
theorem d_M_begin_6 : decode b_M_begin 6 = .ok (.iconst 0, 1) := by decide +kernel
theorem d_M_begin_7 : decode b_M_begin 7 = .ok (.putfield 28, 3) := by decide +kernel
theorem d_M_begin_10 : decode b_M_begin 10 = .ok (.aload_n 0, 1) := by decide +kernel
theorem d_M_begin_11 : decode b_M_begin 11 = .ok (.getfield 22, 3) := by decide +kernel
theorem d_M_begin_14 : decode b_M_begin 14 = .ok (.iconst 0, 1) := by decide +kernel
theorem d_M_begin_15 : decode b_M_begin 15 = .ok (.invokestatic 41, 3) := by decide +kernel
theorem d_M_begin_18 : decode b_M_begin 18 = .ok (.aload_n 1, 1) := by decide +kernel
theorem d_M_begin_19 : decode b_M_begin 19 = .ok (.invokevirtual 47, 3) := by decide +kernel
theorem d_M_begin_22 : decode b_M_begin 22 = .ok (.ifCond .eq 11, 3) := by decide +kernel
theorem d_M_begin_25 : decode b_M_begin 25 = .ok (.aload_n 0, 1) := by decide +kernel
theorem d_M_begin_26 : decode b_M_begin 26 = .ok (.aload_n 1, 1) := by decide +kernel
theorem d_M_begin_27 : decode b_M_begin 27 = .ok (.invokevirtual 53, 3) := by decide +kernel
theorem d_M_begin_30 : decode b_M_begin 30 = .ok (.goto 8, 3) := by decide +kernel
theorem d_M_begin_33 : decode b_M_begin 33 = .ok (.aload_n 0, 1) := by decide +kernel
theorem d_M_begin_34 : decode b_M_begin 34 = .ok (.aload_n 1, 1) := by decide +kernel
theorem d_M_begin_35 : decode b_M_begin 35 = .ok (.invokevirtual 57, 3) := by decide +kernel
theorem d_M_begin_38 : decode b_M_begin 38 = .ok (.return_, 1) := by decide +kernel
theorem d_M_linkLine_0 : decode b_M_linkLine 0 = .ok (.iconst 1, 1) := by decide +kernel
theorem d_M_linkLine_1 : decode b_M_linkLine 1 = .ok (.istore_n 2, 1) := by decide +kernel
theorem d_M_linkLine_2 : decode b_M_linkLine 2 = .ok (.iload_n 2, 1) := by decide +kernel
theorem d_M_linkLine_3 : decode b_M_linkLine 3 = .ok (.aload_n 1, 1) := by decide +kernel
theorem d_M_linkLine_4 : decode b_M_linkLine 4 = .ok (.invokevirtual 60, 3) := by decide +kernel
theorem d_M_linkLine_7 : decode b_M_linkLine 7 = .ok (.if_icmp .ge 41, 3) := by decide +kernel
theorem d_M_linkLine_10 : decode b_M_linkLine 10 = .ok (.aload_n 0, 1) := by decide +kernel
theorem d_M_linkLine_11 : decode b_M_linkLine 11 = .ok (.aload_n 1, 1) := by decide +kernel
theorem d_M_linkLine_12 : decode b_M_linkLine 12 = .ok (.iload_n 2, 1) := by decide +kernel
theorem d_M_linkLine_13 : decode b_M_linkLine 13 = .ok (.iconst 1, 1) := by decide +kernel
theorem d_M_linkLine_14 : decode b_M_linkLine 14 = .ok (.isub, 1) := by decide +kernel
theorem d_M_linkLine_15 : decode b_M_linkLine 15 = .ok (.invokevirtual 63, 3) := by decide +kernel
theorem d_M_linkLine_18 : decode b_M_linkLine 18 = .ok (.aload_n 1, 1) := by decide +kernel
theorem d_M_linkLine_19 : decode b_M_linkLine 19 = .ok (.iload_n 2, 1) := by decide +kernel
theorem d_M_linkLine_20 : decode b_M_linkLine 20 = .ok (.invokevirtual 63, 3) := by decide +kernel
theorem d_M_linkLine_23 : decode b_M_linkLine 23 = .ok (.invokevirtual 67, 3) := by decide +kernel
theorem d_M_linkLine_26 : decode b_M_linkLine 26 = .ok (.aload_n 0, 1) := by decide +kernel
theorem d_M_linkLine_27 : decode b_M_linkLine 27 = .ok (.aload_n 1, 1) := by decide +kernel
theorem d_M_linkLine_28 : decode b_M_linkLine 28 = .ok (.iload_n 2, 1) := by decide +kernel
theorem d_M_linkLine_29 : decode b_M_linkLine 29 = .ok (.invokevirtual 63, 3) := by decide +kernel
theorem d_M_linkLine_32 : decode b_M_linkLine 32 = .ok (.aload_n 1, 1) := by decide +kernel
theorem d_M_linkLine_33 : decode b_M_linkLine 33 = .ok (.iload_n 2, 1) := by decide +kernel
theorem d_M_linkLine_34 : decode b_M_linkLine 34 = .ok (.iconst 1, 1) := by decide +kernel
theorem d_M_linkLine_35 : decode b_M_linkLine 35 = .ok (.isub, 1) := by decide +kernel
theorem d_M_linkLine_36 : decode b_M_linkLine 36 = .ok (.invokevirtual 63, 3) := by decide +kernel
theorem d_M_linkLine_39 : decode b_M_linkLine 39 = .ok (.invokevirtual 67, 3) := by decide +kernel
theorem d_M_linkLine_42 : decode b_M_linkLine 42 = .ok (.iinc 2 1, 3) := by decide +kernel
theorem d_M_linkLine_45 : decode b_M_linkLine 45 = .ok (.goto (-43), 3) := by decide +kernel
theorem d_M_linkLine_48 : decode b_M_linkLine 48 = .ok (.return_, 1) := by decide +kernel
theorem d_M_awaitOutline_0 : decode b_M_awaitOutline 0 = .ok (.aload_n 1, 1) := by decide +kernel
theorem d_M_awaitOutline_1 : decode b_M_awaitOutline 1 = .ok (.aload_n 1, 1) := by decide +kernel
theorem d_M_awaitOutline_2 : decode b_M_awaitOutline 2 = .ok (.invokevirtual 60, 3) := by decide +kernel
theorem d_M_awaitOutline_5 : decode b_M_awaitOutline 5 = .ok (.iconst 1, 1) := by decide +kernel
theorem d_M_awaitOutline_6 : decode b_M_awaitOutline 6 = .ok (.isub, 1) := by decide +kernel
theorem d_M_awaitOutline_7 : decode b_M_awaitOutline 7 = .ok (.invokevirtual 63, 3) := by decide +kernel
theorem d_M_awaitOutline_10 : decode b_M_awaitOutline 10 = .ok (.istore_n 2, 1) := by decide +kernel
theorem d_M_awaitOutline_11 : decode b_M_awaitOutline 11 = .ok (.iconst 0, 1) := by decide +kernel
theorem d_M_awaitOutline_12 : decode b_M_awaitOutline 12 = .ok (.istore_n 3, 1) := by decide +kernel
theorem d_M_awaitOutline_13 : decode b_M_awaitOutline 13 = .ok (.iload_n 3, 1) := by decide +kernel
theorem d_M_awaitOutline_14 : decode b_M_awaitOutline 14 = .ok (.aload_n 1, 1) := by decide +kernel
theorem d_M_awaitOutline_15 : decode b_M_awaitOutline 15 = .ok (.invokevirtual 60, 3) := by decide +kernel
theorem d_M_awaitOutline_18 : decode b_M_awaitOutline 18 = .ok (.if_icmp .ge 33, 3) := by decide +kernel
theorem d_M_awaitOutline_21 : decode b_M_awaitOutline 21 = .ok (.aload_n 1, 1) := by decide +kernel
theorem d_M_awaitOutline_22 : decode b_M_awaitOutline 22 = .ok (.iload_n 3, 1) := by decide +kernel
theorem d_M_awaitOutline_23 : decode b_M_awaitOutline 23 = .ok (.invokevirtual 63, 3) := by decide +kernel
theorem d_M_awaitOutline_26 : decode b_M_awaitOutline 26 = .ok (.istore 4, 2) := by decide +kernel
theorem d_M_awaitOutline_28 : decode b_M_awaitOutline 28 = .ok (.aload_n 0, 1) := by decide +kernel
theorem d_M_awaitOutline_29 : decode b_M_awaitOutline 29 = .ok (.iload 4, 2) := by decide +kernel
theorem d_M_awaitOutline_31 : decode b_M_awaitOutline 31 = .ok (.iload_n 2, 1) := by decide +kernel
theorem d_M_awaitOutline_32 : decode b_M_awaitOutline 32 = .ok (.invokevirtual 67, 3) := by decide +kernel
theorem d_M_awaitOutline_35 : decode b_M_awaitOutline 35 = .ok (.aload_n 0, 1) := by decide +kernel
theorem d_M_awaitOutline_36 : decode b_M_awaitOutline 36 = .ok (.iload_n 2, 1) := by decide +kernel
theorem d_M_awaitOutline_37 : decode b_M_awaitOutline 37 = .ok (.iload 4, 2) := by decide +kernel
theorem d_M_awaitOutline_39 : decode b_M_awaitOutline 39 = .ok (.invokevirtual 71, 3) := by decide +kernel
theorem d_M_awaitOutline_42 : decode b_M_awaitOutline 42 = .ok (.iload 4, 2) := by decide +kernel
theorem d_M_awaitOutline_44 : decode b_M_awaitOutline 44 = .ok (.istore_n 2, 1) := by decide +kernel
theorem d_M_awaitOutline_45 : decode b_M_awaitOutline 45 = .ok (.iinc 3 1, 3) := by decide +kernel
theorem d_M_awaitOutline_48 : decode b_M_awaitOutline 48 = .ok (.goto (-35), 3) := by decide +kernel
theorem d_M_awaitOutline_51 : decode b_M_awaitOutline 51 = .ok (.return_, 1) := by decide +kernel
theorem d_M_spread_0 : decode b_M_spread 0 = .ok (.iconst 0, 1) := by decide +kernel
theorem d_M_spread_1 : decode b_M_spread 1 = .ok (.istore_n 2, 1) := by decide +kernel
theorem d_M_spread_2 : decode b_M_spread 2 = .ok (.iload_n 2, 1) := by decide +kernel
theorem d_M_spread_3 : decode b_M_spread 3 = .ok (.bipush 54, 2) := by decide +kernel
theorem d_M_spread_5 : decode b_M_spread 5 = .ok (.if_icmp .ge 95, 3) := by decide +kernel
theorem d_M_spread_8 : decode b_M_spread 8 = .ok (.aload_n 0, 1) := by decide +kernel
theorem d_M_spread_9 : decode b_M_spread 9 = .ok (.getfield 28, 3) := by decide +kernel
theorem d_M_spread_12 : decode b_M_spread 12 = .ok (.ifCond .le 88, 3) := by decide +kernel
theorem d_M_spread_15 : decode b_M_spread 15 = .ok (.aload_n 0, 1) := by decide +kernel
theorem d_M_spread_16 : decode b_M_spread 16 = .ok (.dup, 1) := by decide +kernel
theorem d_M_spread_17 : decode b_M_spread 17 = .ok (.getfield 28, 3) := by decide +kernel
theorem d_M_spread_20 : decode b_M_spread 20 = .ok (.iconst 1, 1) := by decide +kernel
theorem d_M_spread_21 : decode b_M_spread 21 = .ok (.isub, 1) := by decide +kernel
theorem d_M_spread_22 : decode b_M_spread 22 = .ok (.putfield 28, 3) := by decide +kernel
theorem d_M_spread_25 : decode b_M_spread 25 = .ok (.aload_n 0, 1) := by decide +kernel
theorem d_M_spread_26 : decode b_M_spread 26 = .ok (.getfield 25, 3) := by decide +kernel
theorem d_M_spread_29 : decode b_M_spread 29 = .ok (.aload_n 0, 1) := by decide +kernel
theorem d_M_spread_30 : decode b_M_spread 30 = .ok (.getfield 28, 3) := by decide +kernel
theorem d_M_spread_33 : decode b_M_spread 33 = .ok (.iaload, 1) := by decide +kernel
theorem d_M_spread_34 : decode b_M_spread 34 = .ok (.iconst 5, 1) := by decide +kernel
theorem d_M_spread_35 : decode b_M_spread 35 = .ok (.ishr, 1) := by decide +kernel
theorem d_M_spread_36 : decode b_M_spread 36 = .ok (.istore_n 3, 1) := by decide +kernel
theorem d_M_spread_37 : decode b_M_spread 37 = .ok (.aload_n 0, 1) := by decide +kernel
theorem d_M_spread_38 : decode b_M_spread 38 = .ok (.getfield 25, 3) := by decide +kernel
theorem d_M_spread_41 : decode b_M_spread 41 = .ok (.aload_n 0, 1) := by decide +kernel
theorem d_M_spread_42 : decode b_M_spread 42 = .ok (.getfield 28, 3) := by decide +kernel
theorem d_M_spread_45 : decode b_M_spread 45 = .ok (.iaload, 1) := by decide +kernel
theorem d_M_spread_46 : decode b_M_spread 46 = .ok (.bipush 31, 2) := by decide +kernel
theorem d_M_spread_48 : decode b_M_spread 48 = .ok (.iand, 1) := by decide +kernel
theorem d_M_spread_49 : decode b_M_spread 49 = .ok (.istore 4, 2) := by decide +kernel
theorem d_M_spread_51 : decode b_M_spread 51 = .ok (.aload_n 0, 1) := by decide +kernel
theorem d_M_spread_52 : decode b_M_spread 52 = .ok (.iload_n 3, 1) := by decide +kernel
theorem d_M_spread_53 : decode b_M_spread 53 = .ok (.iload 4, 2) := by decide +kernel
theorem d_M_spread_55 : decode b_M_spread 55 = .ok (.invokevirtual 74, 3) := by decide +kernel
theorem d_M_spread_58 : decode b_M_spread 58 = .ok (.ifCond .eq 7, 3) := by decide +kernel
theorem d_M_spread_61 : decode b_M_spread 61 = .ok (.iconst (-1), 1) := by decide +kernel
theorem d_M_spread_62 : decode b_M_spread 62 = .ok (.goto 10, 3) := by decide +kernel
theorem d_M_spread_65 : decode b_M_spread 65 = .ok (.aload_n 1, 1) := by decide +kernel
theorem d_M_spread_66 : decode b_M_spread 66 = .ok (.iload_n 3, 1) := by decide +kernel
theorem d_M_spread_67 : decode b_M_spread 67 = .ok (.iload 4, 2) := by decide +kernel
theorem d_M_spread_69 : decode b_M_spread 69 = .ok (.invokestatic 78, 3) := by decide +kernel
theorem d_M_spread_72 : decode b_M_spread 72 = .ok (.istore 5, 2) := by decide +kernel
theorem d_M_spread_74 : decode b_M_spread 74 = .ok (.iload 5, 2) := by decide +kernel
theorem d_M_spread_76 : decode b_M_spread 76 = .ok (.iconst (-1), 1) := by decide +kernel
theorem d_M_spread_77 : decode b_M_spread 77 = .ok (.if_icmp .eq 17, 3) := by decide +kernel
theorem d_M_spread_80 : decode b_M_spread 80 = .ok (.aload_n 0, 1) := by decide +kernel
theorem d_M_spread_81 : decode b_M_spread 81 = .ok (.aload_n 1, 1) := by decide +kernel
theorem d_M_spread_82 : decode b_M_spread 82 = .ok (.iload_n 3, 1) := by decide +kernel
theorem d_M_spread_83 : decode b_M_spread 83 = .ok (.iload 4, 2) := by decide +kernel
theorem d_M_spread_85 : decode b_M_spread 85 = .ok (.iload 5, 2) := by decide +kernel
theorem d_M_spread_87 : decode b_M_spread 87 = .ok (.invokevirtual 82, 3) := by decide +kernel
theorem d_M_spread_90 : decode b_M_spread 90 = .ok (.aload_n 0, 1) := by decide +kernel
theorem d_M_spread_91 : decode b_M_spread 91 = .ok (.invokevirtual 86, 3) := by decide +kernel
theorem d_M_spread_94 : decode b_M_spread 94 = .ok (.iinc 2 1, 3) := by decide +kernel
theorem d_M_spread_97 : decode b_M_spread 97 = .ok (.goto (-95), 3) := by decide +kernel
theorem d_M_spread_100 : decode b_M_spread 100 = .ok (.return_, 1) := by decide +kernel
theorem d_M_gatherRing_0 : decode b_M_gatherRing 0 = .ok (.aload_n 0, 1) := by decide +kernel
theorem d_M_gatherRing_1 : decode b_M_gatherRing 1 = .ok (.iconst 0, 1) := by decide +kernel
theorem d_M_gatherRing_2 : decode b_M_gatherRing 2 = .ok (.putfield 34, 3) := by decide +kernel
theorem d_M_gatherRing_5 : decode b_M_gatherRing 5 = .ok (.iconst 0, 1) := by decide +kernel
theorem d_M_gatherRing_6 : decode b_M_gatherRing 6 = .ok (.istore 5, 2) := by decide +kernel
theorem d_M_gatherRing_8 : decode b_M_gatherRing 8 = .ok (.iload 5, 2) := by decide +kernel
theorem d_M_gatherRing_10 : decode b_M_gatherRing 10 = .ok (.aload_n 1, 1) := by decide +kernel
theorem d_M_gatherRing_11 : decode b_M_gatherRing 11 = .ok (.invokevirtual 89, 3) := by decide +kernel
theorem d_M_gatherRing_14 : decode b_M_gatherRing 14 = .ok (.if_icmp .ge 37, 3) := by decide +kernel
theorem d_M_gatherRing_17 : decode b_M_gatherRing 17 = .ok (.aload_n 1, 1) := by decide +kernel
theorem d_M_gatherRing_18 : decode b_M_gatherRing 18 = .ok (.iload 5, 2) := by decide +kernel
theorem d_M_gatherRing_20 : decode b_M_gatherRing 20 = .ok (.invokevirtual 92, 3) := by decide +kernel
theorem d_M_gatherRing_23 : decode b_M_gatherRing 23 = .ok (.istore 6, 2) := by decide +kernel
theorem d_M_gatherRing_25 : decode b_M_gatherRing 25 = .ok (.aload_n 1, 1) := by decide +kernel
theorem d_M_gatherRing_26 : decode b_M_gatherRing 26 = .ok (.iload_n 2, 1) := by decide +kernel
theorem d_M_gatherRing_27 : decode b_M_gatherRing 27 = .ok (.iload_n 3, 1) := by decide +kernel
theorem d_M_gatherRing_28 : decode b_M_gatherRing 28 = .ok (.iload 4, 2) := by decide +kernel
theorem d_M_gatherRing_30 : decode b_M_gatherRing 30 = .ok (.iload 6, 2) := by decide +kernel
theorem d_M_gatherRing_32 : decode b_M_gatherRing 32 = .ok (.invokevirtual 95, 3) := by decide +kernel
theorem d_M_gatherRing_35 : decode b_M_gatherRing 35 = .ok (.ifCond .ne 10, 3) := by decide +kernel
theorem d_M_gatherRing_38 : decode b_M_gatherRing 38 = .ok (.aload_n 0, 1) := by decide +kernel
theorem d_M_gatherRing_39 : decode b_M_gatherRing 39 = .ok (.aload_n 1, 1) := by decide +kernel
theorem d_M_gatherRing_40 : decode b_M_gatherRing 40 = .ok (.iload 6, 2) := by decide +kernel
theorem d_M_gatherRing_42 : decode b_M_gatherRing 42 = .ok (.invokevirtual 99, 3) := by decide +kernel
theorem d_M_gatherRing_45 : decode b_M_gatherRing 45 = .ok (.iinc 5 1, 3) := by decide +kernel
theorem d_M_gatherRing_48 : decode b_M_gatherRing 48 = .ok (.goto (-40), 3) := by decide +kernel
theorem d_M_gatherRing_51 : decode b_M_gatherRing 51 = .ok (.return_, 1) := by decide +kernel
theorem d_M_apexOver_0 : decode b_M_apexOver 0 = .ok (.iconst (-1), 1) := by decide +kernel
theorem d_M_apexOver_1 : decode b_M_apexOver 1 = .ok (.istore_n 3, 1) := by decide +kernel
theorem d_M_apexOver_2 : decode b_M_apexOver 2 = .ok (.iconst 0, 1) := by decide +kernel
theorem d_M_apexOver_3 : decode b_M_apexOver 3 = .ok (.istore 4, 2) := by decide +kernel
theorem d_M_apexOver_5 : decode b_M_apexOver 5 = .ok (.iload 4, 2) := by decide +kernel
theorem d_M_apexOver_7 : decode b_M_apexOver 7 = .ok (.aload_n 0, 1) := by decide +kernel
theorem d_M_apexOver_8 : decode b_M_apexOver 8 = .ok (.invokevirtual 89, 3) := by decide +kernel
theorem d_M_apexOver_11 : decode b_M_apexOver 11 = .ok (.if_icmp .ge 48, 3) := by decide +kernel
theorem d_M_apexOver_14 : decode b_M_apexOver 14 = .ok (.aload_n 0, 1) := by decide +kernel
theorem d_M_apexOver_15 : decode b_M_apexOver 15 = .ok (.iload 4, 2) := by decide +kernel
theorem d_M_apexOver_17 : decode b_M_apexOver 17 = .ok (.invokevirtual 92, 3) := by decide +kernel
theorem d_M_apexOver_20 : decode b_M_apexOver 20 = .ok (.istore 5, 2) := by decide +kernel
theorem d_M_apexOver_22 : decode b_M_apexOver 22 = .ok (.aload_n 0, 1) := by decide +kernel
theorem d_M_apexOver_23 : decode b_M_apexOver 23 = .ok (.iload_n 1, 1) := by decide +kernel
theorem d_M_apexOver_24 : decode b_M_apexOver 24 = .ok (.iload_n 2, 1) := by decide +kernel
theorem d_M_apexOver_25 : decode b_M_apexOver 25 = .ok (.iload 5, 2) := by decide +kernel
theorem d_M_apexOver_27 : decode b_M_apexOver 27 = .ok (.invokevirtual 103, 3) := by decide +kernel
theorem d_M_apexOver_30 : decode b_M_apexOver 30 = .ok (.ifCond .le 23, 3) := by decide +kernel
theorem d_M_apexOver_33 : decode b_M_apexOver 33 = .ok (.iload_n 3, 1) := by decide +kernel
theorem d_M_apexOver_34 : decode b_M_apexOver 34 = .ok (.iconst (-1), 1) := by decide +kernel
theorem d_M_apexOver_35 : decode b_M_apexOver 35 = .ok (.if_icmp .eq 15, 3) := by decide +kernel
theorem d_M_apexOver_38 : decode b_M_apexOver 38 = .ok (.aload_n 0, 1) := by decide +kernel
theorem d_M_apexOver_39 : decode b_M_apexOver 39 = .ok (.iload_n 1, 1) := by decide +kernel
theorem d_M_apexOver_40 : decode b_M_apexOver 40 = .ok (.iload_n 2, 1) := by decide +kernel
theorem d_M_apexOver_41 : decode b_M_apexOver 41 = .ok (.iload_n 3, 1) := by decide +kernel
theorem d_M_apexOver_42 : decode b_M_apexOver 42 = .ok (.iload 5, 2) := by decide +kernel
theorem d_M_apexOver_44 : decode b_M_apexOver 44 = .ok (.invokevirtual 95, 3) := by decide +kernel
theorem d_M_apexOver_47 : decode b_M_apexOver 47 = .ok (.ifCond .le 6, 3) := by decide +kernel
theorem d_M_apexOver_50 : decode b_M_apexOver 50 = .ok (.iload 5, 2) := by decide +kernel
theorem d_M_apexOver_52 : decode b_M_apexOver 52 = .ok (.istore_n 3, 1) := by decide +kernel
theorem d_M_apexOver_53 : decode b_M_apexOver 53 = .ok (.iinc 4 1, 3) := by decide +kernel
theorem d_M_apexOver_56 : decode b_M_apexOver 56 = .ok (.goto (-51), 3) := by decide +kernel
theorem d_M_apexOver_59 : decode b_M_apexOver 59 = .ok (.iload_n 3, 1) := by decide +kernel
theorem d_M_apexOver_60 : decode b_M_apexOver 60 = .ok (.ireturn, 1) := by decide +kernel
theorem d_M_addToRing_0 : decode b_M_addToRing 0 = .ok (.aload_n 0, 1) := by decide +kernel
theorem d_M_addToRing_1 : decode b_M_addToRing 1 = .ok (.getfield 34, 3) := by decide +kernel
theorem d_M_addToRing_4 : decode b_M_addToRing 4 = .ok (.istore_n 3, 1) := by decide +kernel
theorem d_M_addToRing_5 : decode b_M_addToRing 5 = .ok (.iload_n 3, 1) := by decide +kernel
theorem d_M_addToRing_6 : decode b_M_addToRing 6 = .ok (.iconst 1, 1) := by decide +kernel
theorem d_M_addToRing_7 : decode b_M_addToRing 7 = .ok (.if_icmp .le 45, 3) := by decide +kernel
theorem d_M_addToRing_10 : decode b_M_addToRing 10 = .ok (.aload_n 1, 1) := by decide +kernel
theorem d_M_addToRing_11 : decode b_M_addToRing 11 = .ok (.aload_n 0, 1) := by decide +kernel
theorem d_M_addToRing_12 : decode b_M_addToRing 12 = .ok (.getfield 31, 3) := by decide +kernel
theorem d_M_addToRing_15 : decode b_M_addToRing 15 = .ok (.iconst 0, 1) := by decide +kernel
theorem d_M_addToRing_16 : decode b_M_addToRing 16 = .ok (.iaload, 1) := by decide +kernel
theorem d_M_addToRing_17 : decode b_M_addToRing 17 = .ok (.iload_n 2, 1) := by decide +kernel
theorem d_M_addToRing_18 : decode b_M_addToRing 18 = .ok (.aload_n 0, 1) := by decide +kernel
theorem d_M_addToRing_19 : decode b_M_addToRing 19 = .ok (.getfield 31, 3) := by decide +kernel
theorem d_M_addToRing_22 : decode b_M_addToRing 22 = .ok (.iload_n 3, 1) := by decide +kernel
theorem d_M_addToRing_23 : decode b_M_addToRing 23 = .ok (.iconst 1, 1) := by decide +kernel
theorem d_M_addToRing_24 : decode b_M_addToRing 24 = .ok (.isub, 1) := by decide +kernel
theorem d_M_addToRing_25 : decode b_M_addToRing 25 = .ok (.iaload, 1) := by decide +kernel
theorem d_M_addToRing_26 : decode b_M_addToRing 26 = .ok (.invokevirtual 103, 3) := by decide +kernel
theorem d_M_addToRing_29 : decode b_M_addToRing 29 = .ok (.ifCond .le 23, 3) := by decide +kernel
theorem d_M_addToRing_32 : decode b_M_addToRing 32 = .ok (.aload_n 0, 1) := by decide +kernel
theorem d_M_addToRing_33 : decode b_M_addToRing 33 = .ok (.getfield 31, 3) := by decide +kernel
theorem d_M_addToRing_36 : decode b_M_addToRing 36 = .ok (.iload_n 3, 1) := by decide +kernel
theorem d_M_addToRing_37 : decode b_M_addToRing 37 = .ok (.aload_n 0, 1) := by decide +kernel
theorem d_M_addToRing_38 : decode b_M_addToRing 38 = .ok (.getfield 31, 3) := by decide +kernel
theorem d_M_addToRing_41 : decode b_M_addToRing 41 = .ok (.iload_n 3, 1) := by decide +kernel
theorem d_M_addToRing_42 : decode b_M_addToRing 42 = .ok (.iconst 1, 1) := by decide +kernel
theorem d_M_addToRing_43 : decode b_M_addToRing 43 = .ok (.isub, 1) := by decide +kernel
theorem d_M_addToRing_44 : decode b_M_addToRing 44 = .ok (.iaload, 1) := by decide +kernel
theorem d_M_addToRing_45 : decode b_M_addToRing 45 = .ok (.iastore, 1) := by decide +kernel
theorem d_M_addToRing_46 : decode b_M_addToRing 46 = .ok (.iinc 3 (-1), 3) := by decide +kernel
theorem d_M_addToRing_49 : decode b_M_addToRing 49 = .ok (.goto (-44), 3) := by decide +kernel
theorem d_M_addToRing_52 : decode b_M_addToRing 52 = .ok (.aload_n 0, 1) := by decide +kernel
theorem d_M_addToRing_53 : decode b_M_addToRing 53 = .ok (.getfield 31, 3) := by decide +kernel
theorem d_M_addToRing_56 : decode b_M_addToRing 56 = .ok (.iload_n 3, 1) := by decide +kernel
theorem d_M_addToRing_57 : decode b_M_addToRing 57 = .ok (.iload_n 2, 1) := by decide +kernel
theorem d_M_addToRing_58 : decode b_M_addToRing 58 = .ok (.iastore, 1) := by decide +kernel
theorem d_M_addToRing_59 : decode b_M_addToRing 59 = .ok (.aload_n 0, 1) := by decide +kernel
theorem d_M_addToRing_60 : decode b_M_addToRing 60 = .ok (.dup, 1) := by decide +kernel
theorem d_M_addToRing_61 : decode b_M_addToRing 61 = .ok (.getfield 34, 3) := by decide +kernel
theorem d_M_addToRing_64 : decode b_M_addToRing 64 = .ok (.iconst 1, 1) := by decide +kernel
theorem d_M_addToRing_65 : decode b_M_addToRing 65 = .ok (.iadd, 1) := by decide +kernel
theorem d_M_addToRing_66 : decode b_M_addToRing 66 = .ok (.putfield 34, 3) := by decide +kernel
theorem d_M_addToRing_69 : decode b_M_addToRing 69 = .ok (.return_, 1) := by decide +kernel
theorem d_M_addFace_0 : decode b_M_addFace 0 = .ok (.iconst 2, 1) := by decide +kernel
theorem d_M_addFace_1 : decode b_M_addFace 1 = .ok (.istore_n 1, 1) := by decide +kernel
theorem d_M_addFace_2 : decode b_M_addFace 2 = .ok (.iload_n 1, 1) := by decide +kernel
theorem d_M_addFace_3 : decode b_M_addFace 3 = .ok (.aload_n 0, 1) := by decide +kernel
theorem d_M_addFace_4 : decode b_M_addFace 4 = .ok (.getfield 34, 3) := by decide +kernel
theorem d_M_addFace_7 : decode b_M_addFace 7 = .ok (.if_icmp .ge 33, 3) := by decide +kernel
theorem d_M_addFace_10 : decode b_M_addFace 10 = .ok (.aload_n 0, 1) := by decide +kernel
theorem d_M_addFace_11 : decode b_M_addFace 11 = .ok (.aload_n 0, 1) := by decide +kernel
theorem d_M_addFace_12 : decode b_M_addFace 12 = .ok (.getfield 31, 3) := by decide +kernel
theorem d_M_addFace_15 : decode b_M_addFace 15 = .ok (.iconst 0, 1) := by decide +kernel
theorem d_M_addFace_16 : decode b_M_addFace 16 = .ok (.iaload, 1) := by decide +kernel
theorem d_M_addFace_17 : decode b_M_addFace 17 = .ok (.aload_n 0, 1) := by decide +kernel
theorem d_M_addFace_18 : decode b_M_addFace 18 = .ok (.getfield 31, 3) := by decide +kernel
theorem d_M_addFace_21 : decode b_M_addFace 21 = .ok (.iload_n 1, 1) := by decide +kernel
theorem d_M_addFace_22 : decode b_M_addFace 22 = .ok (.iconst 1, 1) := by decide +kernel
theorem d_M_addFace_23 : decode b_M_addFace 23 = .ok (.isub, 1) := by decide +kernel
theorem d_M_addFace_24 : decode b_M_addFace 24 = .ok (.iaload, 1) := by decide +kernel
theorem d_M_addFace_25 : decode b_M_addFace 25 = .ok (.aload_n 0, 1) := by decide +kernel
theorem d_M_addFace_26 : decode b_M_addFace 26 = .ok (.getfield 31, 3) := by decide +kernel
theorem d_M_addFace_29 : decode b_M_addFace 29 = .ok (.iload_n 1, 1) := by decide +kernel
theorem d_M_addFace_30 : decode b_M_addFace 30 = .ok (.iaload, 1) := by decide +kernel
theorem d_M_addFace_31 : decode b_M_addFace 31 = .ok (.invokevirtual 107, 3) := by decide +kernel
theorem d_M_addFace_34 : decode b_M_addFace 34 = .ok (.iinc 1 1, 3) := by decide +kernel
theorem d_M_addFace_37 : decode b_M_addFace 37 = .ok (.goto (-35), 3) := by decide +kernel
theorem d_M_addFace_40 : decode b_M_addFace 40 = .ok (.iconst 0, 1) := by decide +kernel
theorem d_M_addFace_41 : decode b_M_addFace 41 = .ok (.istore_n 1, 1) := by decide +kernel
theorem d_M_addFace_42 : decode b_M_addFace 42 = .ok (.iload_n 1, 1) := by decide +kernel
theorem d_M_addFace_43 : decode b_M_addFace 43 = .ok (.aload_n 0, 1) := by decide +kernel
theorem d_M_addFace_44 : decode b_M_addFace 44 = .ok (.getfield 34, 3) := by decide +kernel
theorem d_M_addFace_47 : decode b_M_addFace 47 = .ok (.if_icmp .ge 60, 3) := by decide +kernel
theorem d_M_addFace_50 : decode b_M_addFace 50 = .ok (.aload_n 0, 1) := by decide +kernel
theorem d_M_addFace_51 : decode b_M_addFace 51 = .ok (.getfield 31, 3) := by decide +kernel
theorem d_M_addFace_54 : decode b_M_addFace 54 = .ok (.iload_n 1, 1) := by decide +kernel
theorem d_M_addFace_55 : decode b_M_addFace 55 = .ok (.iaload, 1) := by decide +kernel
theorem d_M_addFace_56 : decode b_M_addFace 56 = .ok (.istore_n 2, 1) := by decide +kernel
theorem d_M_addFace_57 : decode b_M_addFace 57 = .ok (.aload_n 0, 1) := by decide +kernel
theorem d_M_addFace_58 : decode b_M_addFace 58 = .ok (.getfield 31, 3) := by decide +kernel
theorem d_M_addFace_61 : decode b_M_addFace 61 = .ok (.iload_n 1, 1) := by decide +kernel
theorem d_M_addFace_62 : decode b_M_addFace 62 = .ok (.iconst 1, 1) := by decide +kernel
theorem d_M_addFace_63 : decode b_M_addFace 63 = .ok (.iadd, 1) := by decide +kernel
theorem d_M_addFace_64 : decode b_M_addFace 64 = .ok (.aload_n 0, 1) := by decide +kernel
theorem d_M_addFace_65 : decode b_M_addFace 65 = .ok (.getfield 34, 3) := by decide +kernel
theorem d_M_addFace_68 : decode b_M_addFace 68 = .ok (.if_icmp .ge 9, 3) := by decide +kernel
theorem d_M_addFace_71 : decode b_M_addFace 71 = .ok (.iload_n 1, 1) := by decide +kernel
theorem d_M_addFace_72 : decode b_M_addFace 72 = .ok (.iconst 1, 1) := by decide +kernel
theorem d_M_addFace_73 : decode b_M_addFace 73 = .ok (.iadd, 1) := by decide +kernel
theorem d_M_addFace_74 : decode b_M_addFace 74 = .ok (.goto 4, 3) := by decide +kernel
theorem d_M_addFace_77 : decode b_M_addFace 77 = .ok (.iconst 0, 1) := by decide +kernel
theorem d_M_addFace_78 : decode b_M_addFace 78 = .ok (.iaload, 1) := by decide +kernel
theorem d_M_addFace_79 : decode b_M_addFace 79 = .ok (.istore_n 3, 1) := by decide +kernel
theorem d_M_addFace_80 : decode b_M_addFace 80 = .ok (.aload_n 0, 1) := by decide +kernel
theorem d_M_addFace_81 : decode b_M_addFace 81 = .ok (.iload_n 2, 1) := by decide +kernel
theorem d_M_addFace_82 : decode b_M_addFace 82 = .ok (.iload_n 3, 1) := by decide +kernel
theorem d_M_addFace_83 : decode b_M_addFace 83 = .ok (.invokevirtual 67, 3) := by decide +kernel
theorem d_M_addFace_86 : decode b_M_addFace 86 = .ok (.aload_n 0, 1) := by decide +kernel
theorem d_M_addFace_87 : decode b_M_addFace 87 = .ok (.iload_n 3, 1) := by decide +kernel
theorem d_M_addFace_88 : decode b_M_addFace 88 = .ok (.iload_n 2, 1) := by decide +kernel
theorem d_M_addFace_89 : decode b_M_addFace 89 = .ok (.invokevirtual 74, 3) := by decide +kernel
theorem d_M_addFace_92 : decode b_M_addFace 92 = .ok (.ifCond .ne 9, 3) := by decide +kernel
theorem d_M_addFace_95 : decode b_M_addFace 95 = .ok (.aload_n 0, 1) := by decide +kernel
theorem d_M_addFace_96 : decode b_M_addFace 96 = .ok (.iload_n 3, 1) := by decide +kernel
theorem d_M_addFace_97 : decode b_M_addFace 97 = .ok (.iload_n 2, 1) := by decide +kernel
theorem d_M_addFace_98 : decode b_M_addFace 98 = .ok (.invokevirtual 71, 3) := by decide +kernel
theorem d_M_addFace_101 : decode b_M_addFace 101 = .ok (.iinc 1 1, 3) := by decide +kernel
theorem d_M_addFace_104 : decode b_M_addFace 104 = .ok (.goto (-62), 3) := by decide +kernel
theorem d_M_addFace_107 : decode b_M_addFace 107 = .ok (.return_, 1) := by decide +kernel
theorem d_M_addTriangle_0 : decode b_M_addTriangle 0 = .ok (.aload_n 0, 1) := by decide +kernel
theorem d_M_addTriangle_1 : decode b_M_addTriangle 1 = .ok (.getfield 18, 3) := by decide +kernel
theorem d_M_addTriangle_4 : decode b_M_addTriangle 4 = .ok (.bipush 35, 2) := by decide +kernel
theorem d_M_addTriangle_6 : decode b_M_addTriangle 6 = .ok (.if_icmp .lt 4, 3) := by decide +kernel
theorem d_M_addTriangle_9 : decode b_M_addTriangle 9 = .ok (.return_, 1) := by decide +kernel
theorem d_M_addTriangle_10 : decode b_M_addTriangle 10 = .ok (.iload_n 1, 1) := by decide +kernel
theorem d_M_addTriangle_11 : decode b_M_addTriangle 11 = .ok (.iconst 5, 1) := by decide +kernel
theorem d_M_addTriangle_12 : decode b_M_addTriangle 12 = .ok (.ishl, 1) := by decide +kernel
theorem d_M_addTriangle_13 : decode b_M_addTriangle 13 = .ok (.iload_n 2, 1) := by decide +kernel
theorem d_M_addTriangle_14 : decode b_M_addTriangle 14 = .ok (.ior, 1) := by decide +kernel
theorem d_M_addTriangle_15 : decode b_M_addTriangle 15 = .ok (.iconst 5, 1) := by decide +kernel
theorem d_M_addTriangle_16 : decode b_M_addTriangle 16 = .ok (.ishl, 1) := by decide +kernel
theorem d_M_addTriangle_17 : decode b_M_addTriangle 17 = .ok (.iload_n 3, 1) := by decide +kernel
theorem d_M_addTriangle_18 : decode b_M_addTriangle 18 = .ok (.ior, 1) := by decide +kernel
theorem d_M_addTriangle_19 : decode b_M_addTriangle 19 = .ok (.istore 4, 2) := by decide +kernel
theorem d_M_addTriangle_21 : decode b_M_addTriangle 21 = .ok (.aload_n 0, 1) := by decide +kernel
theorem d_M_addTriangle_22 : decode b_M_addTriangle 22 = .ok (.getfield 18, 3) := by decide +kernel
theorem d_M_addTriangle_25 : decode b_M_addTriangle 25 = .ok (.istore 5, 2) := by decide +kernel
theorem d_M_addTriangle_27 : decode b_M_addTriangle 27 = .ok (.iload 5, 2) := by decide +kernel
theorem d_M_addTriangle_29 : decode b_M_addTriangle 29 = .ok (.ifCond .le 55, 3) := by decide +kernel
theorem d_M_addTriangle_32 : decode b_M_addTriangle 32 = .ok (.aload_n 0, 1) := by decide +kernel
theorem d_M_addTriangle_33 : decode b_M_addTriangle 33 = .ok (.getfield 9, 3) := by decide +kernel
theorem d_M_addTriangle_36 : decode b_M_addTriangle 36 = .ok (.iload 5, 2) := by decide +kernel
theorem d_M_addTriangle_38 : decode b_M_addTriangle 38 = .ok (.iconst 1, 1) := by decide +kernel
theorem d_M_addTriangle_39 : decode b_M_addTriangle 39 = .ok (.isub, 1) := by decide +kernel
theorem d_M_addTriangle_40 : decode b_M_addTriangle 40 = .ok (.iaload, 1) := by decide +kernel
theorem d_M_addTriangle_41 : decode b_M_addTriangle 41 = .ok (.iload 4, 2) := by decide +kernel
theorem d_M_addTriangle_43 : decode b_M_addTriangle 43 = .ok (.if_icmp .le 41, 3) := by decide +kernel
theorem d_M_addTriangle_46 : decode b_M_addTriangle 46 = .ok (.aload_n 0, 1) := by decide +kernel
theorem d_M_addTriangle_47 : decode b_M_addTriangle 47 = .ok (.getfield 9, 3) := by decide +kernel
theorem d_M_addTriangle_50 : decode b_M_addTriangle 50 = .ok (.iload 5, 2) := by decide +kernel
theorem d_M_addTriangle_52 : decode b_M_addTriangle 52 = .ok (.aload_n 0, 1) := by decide +kernel
theorem d_M_addTriangle_53 : decode b_M_addTriangle 53 = .ok (.getfield 9, 3) := by decide +kernel
theorem d_M_addTriangle_56 : decode b_M_addTriangle 56 = .ok (.iload 5, 2) := by decide +kernel
theorem d_M_addTriangle_58 : decode b_M_addTriangle 58 = .ok (.iconst 1, 1) := by decide +kernel
theorem d_M_addTriangle_59 : decode b_M_addTriangle 59 = .ok (.isub, 1) := by decide +kernel
theorem d_M_addTriangle_60 : decode b_M_addTriangle 60 = .ok (.iaload, 1) := by decide +kernel
theorem d_M_addTriangle_61 : decode b_M_addTriangle 61 = .ok (.iastore, 1) := by decide +kernel
theorem d_M_addTriangle_62 : decode b_M_addTriangle 62 = .ok (.aload_n 0, 1) := by decide +kernel
theorem d_M_addTriangle_63 : decode b_M_addTriangle 63 = .ok (.getfield 15, 3) := by decide +kernel
theorem d_M_addTriangle_66 : decode b_M_addTriangle 66 = .ok (.iload 5, 2) := by decide +kernel
theorem d_M_addTriangle_68 : decode b_M_addTriangle 68 = .ok (.aload_n 0, 1) := by decide +kernel
theorem d_M_addTriangle_69 : decode b_M_addTriangle 69 = .ok (.getfield 15, 3) := by decide +kernel
theorem d_M_addTriangle_72 : decode b_M_addTriangle 72 = .ok (.iload 5, 2) := by decide +kernel
theorem d_M_addTriangle_74 : decode b_M_addTriangle 74 = .ok (.iconst 1, 1) := by decide +kernel
theorem d_M_addTriangle_75 : decode b_M_addTriangle 75 = .ok (.isub, 1) := by decide +kernel
theorem d_M_addTriangle_76 : decode b_M_addTriangle 76 = .ok (.iaload, 1) := by decide +kernel
theorem d_M_addTriangle_77 : decode b_M_addTriangle 77 = .ok (.iastore, 1) := by decide +kernel
theorem d_M_addTriangle_78 : decode b_M_addTriangle 78 = .ok (.iinc 5 (-1), 3) := by decide +kernel
theorem d_M_addTriangle_81 : decode b_M_addTriangle 81 = .ok (.goto (-54), 3) := by decide +kernel
theorem d_M_addTriangle_84 : decode b_M_addTriangle 84 = .ok (.aload_n 0, 1) := by decide +kernel
theorem d_M_addTriangle_85 : decode b_M_addTriangle 85 = .ok (.getfield 9, 3) := by decide +kernel
theorem d_M_addTriangle_88 : decode b_M_addTriangle 88 = .ok (.iload 5, 2) := by decide +kernel
theorem d_M_addTriangle_90 : decode b_M_addTriangle 90 = .ok (.iload 4, 2) := by decide +kernel
theorem d_M_addTriangle_92 : decode b_M_addTriangle 92 = .ok (.iastore, 1) := by decide +kernel
theorem d_M_addTriangle_93 : decode b_M_addTriangle 93 = .ok (.aload_n 0, 1) := by decide +kernel
theorem d_M_addTriangle_94 : decode b_M_addTriangle 94 = .ok (.getfield 15, 3) := by decide +kernel
theorem d_M_addTriangle_97 : decode b_M_addTriangle 97 = .ok (.iload 5, 2) := by decide +kernel
theorem d_M_addTriangle_99 : decode b_M_addTriangle 99 = .ok (.aload_n 0, 1) := by decide +kernel
theorem d_M_addTriangle_100 : decode b_M_addTriangle 100 = .ok (.getfield 34, 3) := by decide +kernel
theorem d_M_addTriangle_103 : decode b_M_addTriangle 103 = .ok (.iastore, 1) := by decide +kernel
theorem d_M_addTriangle_104 : decode b_M_addTriangle 104 = .ok (.aload_n 0, 1) := by decide +kernel
theorem d_M_addTriangle_105 : decode b_M_addTriangle 105 = .ok (.dup, 1) := by decide +kernel
theorem d_M_addTriangle_106 : decode b_M_addTriangle 106 = .ok (.getfield 18, 3) := by decide +kernel
theorem d_M_addTriangle_109 : decode b_M_addTriangle 109 = .ok (.iconst 1, 1) := by decide +kernel
theorem d_M_addTriangle_110 : decode b_M_addTriangle 110 = .ok (.iadd, 1) := by decide +kernel
theorem d_M_addTriangle_111 : decode b_M_addTriangle 111 = .ok (.putfield 18, 3) := by decide +kernel
theorem d_M_addTriangle_114 : decode b_M_addTriangle 114 = .ok (.return_, 1) := by decide +kernel
theorem d_M_link_0 : decode b_M_link 0 = .ok (.aload_n 0, 1) := by decide +kernel
theorem d_M_link_1 : decode b_M_link 1 = .ok (.getfield 22, 3) := by decide +kernel
theorem d_M_link_4 : decode b_M_link 4 = .ok (.iload_n 1, 1) := by decide +kernel
theorem d_M_link_5 : decode b_M_link 5 = .ok (.dup2, 1) := by decide +kernel
theorem d_M_link_6 : decode b_M_link 6 = .ok (.iaload, 1) := by decide +kernel
theorem d_M_link_7 : decode b_M_link 7 = .ok (.iconst 1, 1) := by decide +kernel
theorem d_M_link_8 : decode b_M_link 8 = .ok (.iload_n 2, 1) := by decide +kernel
theorem d_M_link_9 : decode b_M_link 9 = .ok (.ishl, 1) := by decide +kernel
theorem d_M_link_10 : decode b_M_link 10 = .ok (.ior, 1) := by decide +kernel
theorem d_M_link_11 : decode b_M_link 11 = .ok (.iastore, 1) := by decide +kernel
theorem d_M_link_12 : decode b_M_link 12 = .ok (.return_, 1) := by decide +kernel
theorem d_M_isLinked_0 : decode b_M_isLinked 0 = .ok (.aload_n 0, 1) := by decide +kernel
theorem d_M_isLinked_1 : decode b_M_isLinked 1 = .ok (.getfield 22, 3) := by decide +kernel
theorem d_M_isLinked_4 : decode b_M_isLinked 4 = .ok (.iload_n 1, 1) := by decide +kernel
theorem d_M_isLinked_5 : decode b_M_isLinked 5 = .ok (.iaload, 1) := by decide +kernel
theorem d_M_isLinked_6 : decode b_M_isLinked 6 = .ok (.iload_n 2, 1) := by decide +kernel
theorem d_M_isLinked_7 : decode b_M_isLinked 7 = .ok (.ishr, 1) := by decide +kernel
theorem d_M_isLinked_8 : decode b_M_isLinked 8 = .ok (.iconst 1, 1) := by decide +kernel
theorem d_M_isLinked_9 : decode b_M_isLinked 9 = .ok (.iand, 1) := by decide +kernel
theorem d_M_isLinked_10 : decode b_M_isLinked 10 = .ok (.ifCond .eq 7, 3) := by decide +kernel
theorem d_M_isLinked_13 : decode b_M_isLinked 13 = .ok (.iconst 1, 1) := by decide +kernel
theorem d_M_isLinked_14 : decode b_M_isLinked 14 = .ok (.goto 4, 3) := by decide +kernel
theorem d_M_isLinked_17 : decode b_M_isLinked 17 = .ok (.iconst 0, 1) := by decide +kernel
theorem d_M_isLinked_18 : decode b_M_isLinked 18 = .ok (.ireturn, 1) := by decide +kernel
theorem d_M_await_0 : decode b_M_await 0 = .ok (.aload_n 0, 1) := by decide +kernel
theorem d_M_await_1 : decode b_M_await 1 = .ok (.getfield 28, 3) := by decide +kernel
theorem d_M_await_4 : decode b_M_await 4 = .ok (.bipush 54, 2) := by decide +kernel
theorem d_M_await_6 : decode b_M_await 6 = .ok (.if_icmp .ge 27, 3) := by decide +kernel
theorem d_M_await_9 : decode b_M_await 9 = .ok (.aload_n 0, 1) := by decide +kernel
theorem d_M_await_10 : decode b_M_await 10 = .ok (.getfield 25, 3) := by decide +kernel
theorem d_M_await_13 : decode b_M_await 13 = .ok (.aload_n 0, 1) := by decide +kernel
theorem d_M_await_14 : decode b_M_await 14 = .ok (.getfield 28, 3) := by decide +kernel
theorem d_M_await_17 : decode b_M_await 17 = .ok (.iload_n 1, 1) := by decide +kernel
theorem d_M_await_18 : decode b_M_await 18 = .ok (.iconst 5, 1) := by decide +kernel
theorem d_M_await_19 : decode b_M_await 19 = .ok (.ishl, 1) := by decide +kernel
theorem d_M_await_20 : decode b_M_await 20 = .ok (.iload_n 2, 1) := by decide +kernel
theorem d_M_await_21 : decode b_M_await 21 = .ok (.ior, 1) := by decide +kernel
theorem d_M_await_22 : decode b_M_await 22 = .ok (.iastore, 1) := by decide +kernel
theorem d_M_await_23 : decode b_M_await 23 = .ok (.aload_n 0, 1) := by decide +kernel
theorem d_M_await_24 : decode b_M_await 24 = .ok (.dup, 1) := by decide +kernel
theorem d_M_await_25 : decode b_M_await 25 = .ok (.getfield 28, 3) := by decide +kernel
theorem d_M_await_28 : decode b_M_await 28 = .ok (.iconst 1, 1) := by decide +kernel
theorem d_M_await_29 : decode b_M_await 29 = .ok (.iadd, 1) := by decide +kernel
theorem d_M_await_30 : decode b_M_await 30 = .ok (.putfield 28, 3) := by decide +kernel
theorem d_M_await_33 : decode b_M_await 33 = .ok (.return_, 1) := by decide +kernel
