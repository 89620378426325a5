theorem d_F_init_0 : decode b_F_init 0 = .ok (.aload_n 0, 1) := by decide +kernel
theorem d_F_init_1 : decode b_F_init 1 = .ok (.invokespecial 3, 3) := by decide +kernel
theorem d_F_init_4 : decode b_F_init 4 = .ok (.aload_n 0, 1) := by decide +kernel
theorem d_F_init_5 : decode b_F_init 5 = .ok (.new 9, 3) := by decide +kernel
theorem d_F_init_8 : decode b_F_init 8 = .ok (.dup, 1) := by decide +kernel
theorem d_F_init_9 : decode b_F_init 9 = .ok (.invokespecial 11, 3) := by decide +kernel
theorem d_F_init_12 : decode b_F_init 12 = .ok (.putfield 12, 3) := by decide +kernel
theorem d_F_init_15 : decode b_F_init 15 = .ok (.aload_n 0, 1) := by decide +kernel
theorem d_F_init_16 : decode b_F_init 16 = .ok (.new 16, 3) := by decide +kernel
theorem d_F_init_19 : decode b_F_init 19 = .ok (.dup, 1) := by decide +kernel
theorem d_F_init_20 : decode b_F_init 20 = .ok (.invokespecial 18, 3) := by decide +kernel
theorem d_F_init_23 : decode b_F_init 23 = .ok (.putfield 19, 3) := by decide +kernel
theorem d_F_init_26 : decode b_F_init 26 = .ok (.aload_n 0, 1) := by decide +kernel
theorem d_F_init_27 : decode b_F_init 27 = .ok (.new 23, 3) := by decide +kernel
theorem d_F_init_30 : decode b_F_init 30 = .ok (.dup, 1) := by decide +kernel
theorem d_F_init_31 : decode b_F_init 31 = .ok (.invokespecial 25, 3) := by decide +kernel
theorem d_F_init_34 : decode b_F_init 34 = .ok (.putfield 26, 3) := by decide +kernel
theorem d_F_init_37 : decode b_F_init 37 = .ok (.aload_n 0, 1) := by decide +kernel
theorem d_F_init_38 : decode b_F_init 38 = .ok (.iconst 0, 1) := by decide +kernel
theorem d_F_init_39 : decode b_F_init 39 = .ok (.putfield 30, 3) := by decide +kernel
theorem d_F_init_42 : decode b_F_init 42 = .ok (.return_, 1) := by decide +kernel
theorem d_F_insert_0 : decode b_F_insert 0 = .ok (.iload_n 1, 1) := by decide +kernel
theorem d_F_insert_1 : decode b_F_insert 1 = .ok (.iload_n 2, 1) := by decide +kernel
theorem d_F_insert_2 : decode b_F_insert 2 = .ok (.invokestatic 34, 3) := by decide +kernel
theorem d_F_insert_5 : decode b_F_insert 5 = .ok (.ifCond .ne 6, 3) := by decide +kernel
theorem d_F_insert_8 : decode b_F_insert 8 = .ok (.bipush (-2), 2) := by decide +kernel
theorem d_F_insert_10 : decode b_F_insert 10 = .ok (.ireturn, 1) := by decide +kernel
theorem d_F_insert_11 : decode b_F_insert 11 = .ok (.aload_n 0, 1) := by decide +kernel
theorem d_F_insert_12 : decode b_F_insert 12 = .ok (.getfield 12, 3) := by decide +kernel
theorem d_F_insert_15 : decode b_F_insert 15 = .ok (.iload_n 1, 1) := by decide +kernel
theorem d_F_insert_16 : decode b_F_insert 16 = .ok (.iload_n 2, 1) := by decide +kernel
theorem d_F_insert_17 : decode b_F_insert 17 = .ok (.invokevirtual 38, 3) := by decide +kernel
theorem d_F_insert_20 : decode b_F_insert 20 = .ok (.iconst (-1), 1) := by decide +kernel
theorem d_F_insert_21 : decode b_F_insert 21 = .ok (.if_icmp .eq 6, 3) := by decide +kernel
theorem d_F_insert_24 : decode b_F_insert 24 = .ok (.bipush (-3), 2) := by decide +kernel
theorem d_F_insert_26 : decode b_F_insert 26 = .ok (.ireturn, 1) := by decide +kernel
theorem d_F_insert_27 : decode b_F_insert 27 = .ok (.aload_n 0, 1) := by decide +kernel
theorem d_F_insert_28 : decode b_F_insert 28 = .ok (.getfield 12, 3) := by decide +kernel
theorem d_F_insert_31 : decode b_F_insert 31 = .ok (.invokevirtual 42, 3) := by decide +kernel
theorem d_F_insert_34 : decode b_F_insert 34 = .ok (.istore_n 3, 1) := by decide +kernel
theorem d_F_insert_35 : decode b_F_insert 35 = .ok (.iload_n 3, 1) := by decide +kernel
theorem d_F_insert_36 : decode b_F_insert 36 = .ok (.iconst (-1), 1) := by decide +kernel
theorem d_F_insert_37 : decode b_F_insert 37 = .ok (.if_icmp .ne 6, 3) := by decide +kernel
theorem d_F_insert_40 : decode b_F_insert 40 = .ok (.bipush (-4), 2) := by decide +kernel
theorem d_F_insert_42 : decode b_F_insert 42 = .ok (.ireturn, 1) := by decide +kernel
theorem d_F_insert_43 : decode b_F_insert 43 = .ok (.aload_n 0, 1) := by decide +kernel
theorem d_F_insert_44 : decode b_F_insert 44 = .ok (.getfield 12, 3) := by decide +kernel
theorem d_F_insert_47 : decode b_F_insert 47 = .ok (.iload_n 3, 1) := by decide +kernel
theorem d_F_insert_48 : decode b_F_insert 48 = .ok (.iload_n 1, 1) := by decide +kernel
theorem d_F_insert_49 : decode b_F_insert 49 = .ok (.iload_n 2, 1) := by decide +kernel
theorem d_F_insert_50 : decode b_F_insert 50 = .ok (.invokevirtual 46, 3) := by decide +kernel
theorem d_F_insert_53 : decode b_F_insert 53 = .ok (.aload_n 0, 1) := by decide +kernel
theorem d_F_insert_54 : decode b_F_insert 54 = .ok (.iconst 1, 1) := by decide +kernel
theorem d_F_insert_55 : decode b_F_insert 55 = .ok (.putfield 30, 3) := by decide +kernel
theorem d_F_insert_58 : decode b_F_insert 58 = .ok (.iload_n 3, 1) := by decide +kernel
theorem d_F_insert_59 : decode b_F_insert 59 = .ok (.ireturn, 1) := by decide +kernel
theorem d_F_remove_0 : decode b_F_remove 0 = .ok (.aload_n 0, 1) := by decide +kernel
theorem d_F_remove_1 : decode b_F_remove 1 = .ok (.getfield 12, 3) := by decide +kernel
theorem d_F_remove_4 : decode b_F_remove 4 = .ok (.iload_n 1, 1) := by decide +kernel
theorem d_F_remove_5 : decode b_F_remove 5 = .ok (.invokevirtual 50, 3) := by decide +kernel
theorem d_F_remove_8 : decode b_F_remove 8 = .ok (.ifCond .ne 5, 3) := by decide +kernel
theorem d_F_remove_11 : decode b_F_remove 11 = .ok (.iconst 0, 1) := by decide +kernel
theorem d_F_remove_12 : decode b_F_remove 12 = .ok (.ireturn, 1) := by decide +kernel
theorem d_F_remove_13 : decode b_F_remove 13 = .ok (.aload_n 0, 1) := by decide +kernel
theorem d_F_remove_14 : decode b_F_remove 14 = .ok (.getfield 12, 3) := by decide +kernel
theorem d_F_remove_17 : decode b_F_remove 17 = .ok (.iload_n 1, 1) := by decide +kernel
theorem d_F_remove_18 : decode b_F_remove 18 = .ok (.invokevirtual 54, 3) := by decide +kernel
theorem d_F_remove_21 : decode b_F_remove 21 = .ok (.aload_n 0, 1) := by decide +kernel
theorem d_F_remove_22 : decode b_F_remove 22 = .ok (.iconst 1, 1) := by decide +kernel
theorem d_F_remove_23 : decode b_F_remove 23 = .ok (.putfield 30, 3) := by decide +kernel
theorem d_F_remove_26 : decode b_F_remove 26 = .ok (.iconst 1, 1) := by decide +kernel
theorem d_F_remove_27 : decode b_F_remove 27 = .ok (.ireturn, 1) := by decide +kernel
theorem d_F_move_0 : decode b_F_move 0 = .ok (.aload_n 0, 1) := by decide +kernel
theorem d_F_move_1 : decode b_F_move 1 = .ok (.getfield 12, 3) := by decide +kernel
theorem d_F_move_4 : decode b_F_move 4 = .ok (.iload_n 1, 1) := by decide +kernel
theorem d_F_move_5 : decode b_F_move 5 = .ok (.invokevirtual 50, 3) := by decide +kernel
theorem d_F_move_8 : decode b_F_move 8 = .ok (.ifCond .ne 5, 3) := by decide +kernel
theorem d_F_move_11 : decode b_F_move 11 = .ok (.iconst (-1), 1) := by decide +kernel
theorem d_F_move_12 : decode b_F_move 12 = .ok (.ireturn, 1) := by decide +kernel
theorem d_F_move_13 : decode b_F_move 13 = .ok (.iload_n 2, 1) := by decide +kernel
theorem d_F_move_14 : decode b_F_move 14 = .ok (.iload_n 3, 1) := by decide +kernel
theorem d_F_move_15 : decode b_F_move 15 = .ok (.invokestatic 34, 3) := by decide +kernel
theorem d_F_move_18 : decode b_F_move 18 = .ok (.ifCond .ne 6, 3) := by decide +kernel
theorem d_F_move_21 : decode b_F_move 21 = .ok (.bipush (-2), 2) := by decide +kernel
theorem d_F_move_23 : decode b_F_move 23 = .ok (.ireturn, 1) := by decide +kernel
theorem d_F_move_24 : decode b_F_move 24 = .ok (.aload_n 0, 1) := by decide +kernel
theorem d_F_move_25 : decode b_F_move 25 = .ok (.getfield 12, 3) := by decide +kernel
theorem d_F_move_28 : decode b_F_move 28 = .ok (.iload_n 2, 1) := by decide +kernel
theorem d_F_move_29 : decode b_F_move 29 = .ok (.iload_n 3, 1) := by decide +kernel
theorem d_F_move_30 : decode b_F_move 30 = .ok (.invokevirtual 38, 3) := by decide +kernel
theorem d_F_move_33 : decode b_F_move 33 = .ok (.istore 4, 2) := by decide +kernel
theorem d_F_move_35 : decode b_F_move 35 = .ok (.iload 4, 2) := by decide +kernel
theorem d_F_move_37 : decode b_F_move 37 = .ok (.iload_n 1, 1) := by decide +kernel
theorem d_F_move_38 : decode b_F_move 38 = .ok (.if_icmp .ne 5, 3) := by decide +kernel
theorem d_F_move_41 : decode b_F_move 41 = .ok (.iload_n 1, 1) := by decide +kernel
theorem d_F_move_42 : decode b_F_move 42 = .ok (.ireturn, 1) := by decide +kernel
theorem d_F_move_43 : decode b_F_move 43 = .ok (.iload 4, 2) := by decide +kernel
theorem d_F_move_45 : decode b_F_move 45 = .ok (.iconst (-1), 1) := by decide +kernel
theorem d_F_move_46 : decode b_F_move 46 = .ok (.if_icmp .eq 6, 3) := by decide +kernel
theorem d_F_move_49 : decode b_F_move 49 = .ok (.bipush (-3), 2) := by decide +kernel
theorem d_F_move_51 : decode b_F_move 51 = .ok (.ireturn, 1) := by decide +kernel
theorem d_F_move_52 : decode b_F_move 52 = .ok (.aload_n 0, 1) := by decide +kernel
theorem d_F_move_53 : decode b_F_move 53 = .ok (.getfield 12, 3) := by decide +kernel
theorem d_F_move_56 : decode b_F_move 56 = .ok (.iload_n 1, 1) := by decide +kernel
theorem d_F_move_57 : decode b_F_move 57 = .ok (.invokevirtual 54, 3) := by decide +kernel
theorem d_F_move_60 : decode b_F_move 60 = .ok (.aload_n 0, 1) := by decide +kernel
theorem d_F_move_61 : decode b_F_move 61 = .ok (.getfield 12, 3) := by decide +kernel
theorem d_F_move_64 : decode b_F_move 64 = .ok (.iload_n 1, 1) := by decide +kernel
theorem d_F_move_65 : decode b_F_move 65 = .ok (.iload_n 2, 1) := by decide +kernel
theorem d_F_move_66 : decode b_F_move 66 = .ok (.iload_n 3, 1) := by decide +kernel
theorem d_F_move_67 : decode b_F_move 67 = .ok (.invokevirtual 46, 3) := by decide +kernel
theorem d_F_move_70 : decode b_F_move 70 = .ok (.aload_n 0, 1) := by decide +kernel
theorem d_F_move_71 : decode b_F_move 71 = .ok (.iconst 1, 1) := by decide +kernel
theorem d_F_move_72 : decode b_F_move 72 = .ok (.putfield 30, 3) := by decide +kernel
theorem d_F_move_75 : decode b_F_move 75 = .ok (.iload_n 1, 1) := by decide +kernel
theorem d_F_move_76 : decode b_F_move 76 = .ok (.ireturn, 1) := by decide +kernel
theorem d_F_sites_0 : decode b_F_sites 0 = .ok (.aload_n 0, 1) := by decide +kernel
theorem d_F_sites_1 : decode b_F_sites 1 = .ok (.getfield 12, 3) := by decide +kernel
theorem d_F_sites_4 : decode b_F_sites 4 = .ok (.invokevirtual 58, 3) := by decide +kernel
theorem d_F_sites_7 : decode b_F_sites 7 = .ok (.ireturn, 1) := by decide +kernel
theorem d_F_coordinate_0 : decode b_F_coordinate 0 = .ok (.aload_n 0, 1) := by decide +kernel
theorem d_F_coordinate_1 : decode b_F_coordinate 1 = .ok (.getfield 12, 3) := by decide +kernel
theorem d_F_coordinate_4 : decode b_F_coordinate 4 = .ok (.iload_n 1, 1) := by decide +kernel
theorem d_F_coordinate_5 : decode b_F_coordinate 5 = .ok (.invokevirtual 50, 3) := by decide +kernel
theorem d_F_coordinate_8 : decode b_F_coordinate 8 = .ok (.ifCond .eq 12, 3) := by decide +kernel
theorem d_F_coordinate_11 : decode b_F_coordinate 11 = .ok (.iload_n 2, 1) := by decide +kernel
theorem d_F_coordinate_12 : decode b_F_coordinate 12 = .ok (.ifCond .lt 8, 3) := by decide +kernel
theorem d_F_coordinate_15 : decode b_F_coordinate 15 = .ok (.iload_n 2, 1) := by decide +kernel
theorem d_F_coordinate_16 : decode b_F_coordinate 16 = .ok (.iconst 1, 1) := by decide +kernel
theorem d_F_coordinate_17 : decode b_F_coordinate 17 = .ok (.if_icmp .le 6, 3) := by decide +kernel
theorem d_F_coordinate_20 : decode b_F_coordinate 20 = .ok (.ldc 61, 2) := by decide +kernel
theorem d_F_coordinate_22 : decode b_F_coordinate 22 = .ok (.ireturn, 1) := by decide +kernel
theorem d_F_coordinate_23 : decode b_F_coordinate 23 = .ok (.iload_n 2, 1) := by decide +kernel
theorem d_F_coordinate_24 : decode b_F_coordinate 24 = .ok (.ifCond .ne 14, 3) := by decide +kernel
theorem d_F_coordinate_27 : decode b_F_coordinate 27 = .ok (.aload_n 0, 1) := by decide +kernel
theorem d_F_coordinate_28 : decode b_F_coordinate 28 = .ok (.getfield 12, 3) := by decide +kernel
theorem d_F_coordinate_31 : decode b_F_coordinate 31 = .ok (.iload_n 1, 1) := by decide +kernel
theorem d_F_coordinate_32 : decode b_F_coordinate 32 = .ok (.invokevirtual 62, 3) := by decide +kernel
theorem d_F_coordinate_35 : decode b_F_coordinate 35 = .ok (.goto 11, 3) := by decide +kernel
theorem d_F_coordinate_38 : decode b_F_coordinate 38 = .ok (.aload_n 0, 1) := by decide +kernel
theorem d_F_coordinate_39 : decode b_F_coordinate 39 = .ok (.getfield 12, 3) := by decide +kernel
theorem d_F_coordinate_42 : decode b_F_coordinate 42 = .ok (.iload_n 1, 1) := by decide +kernel
theorem d_F_coordinate_43 : decode b_F_coordinate 43 = .ok (.invokevirtual 66, 3) := by decide +kernel
theorem d_F_coordinate_46 : decode b_F_coordinate 46 = .ok (.ireturn, 1) := by decide +kernel
theorem d_F_triangles_0 : decode b_F_triangles 0 = .ok (.aload_n 0, 1) := by decide +kernel
theorem d_F_triangles_1 : decode b_F_triangles 1 = .ok (.invokevirtual 69, 3) := by decide +kernel
theorem d_F_triangles_4 : decode b_F_triangles 4 = .ok (.aload_n 0, 1) := by decide +kernel
theorem d_F_triangles_5 : decode b_F_triangles 5 = .ok (.getfield 26, 3) := by decide +kernel
theorem d_F_triangles_8 : decode b_F_triangles 8 = .ok (.invokevirtual 72, 3) := by decide +kernel
theorem d_F_triangles_11 : decode b_F_triangles 11 = .ok (.ireturn, 1) := by decide +kernel
theorem d_F_triangle_0 : decode b_F_triangle 0 = .ok (.aload_n 0, 1) := by decide +kernel
theorem d_F_triangle_1 : decode b_F_triangle 1 = .ok (.invokevirtual 69, 3) := by decide +kernel
theorem d_F_triangle_4 : decode b_F_triangle 4 = .ok (.aload_n 0, 1) := by decide +kernel
theorem d_F_triangle_5 : decode b_F_triangle 5 = .ok (.getfield 26, 3) := by decide +kernel
theorem d_F_triangle_8 : decode b_F_triangle 8 = .ok (.iload_n 1, 1) := by decide +kernel
theorem d_F_triangle_9 : decode b_F_triangle 9 = .ok (.invokevirtual 73, 3) := by decide +kernel
theorem d_F_triangle_12 : decode b_F_triangle 12 = .ok (.ifCond .ne 5, 3) := by decide +kernel
theorem d_F_triangle_15 : decode b_F_triangle 15 = .ok (.iconst (-1), 1) := by decide +kernel
theorem d_F_triangle_16 : decode b_F_triangle 16 = .ok (.ireturn, 1) := by decide +kernel
theorem d_F_triangle_17 : decode b_F_triangle 17 = .ok (.aload_n 0, 1) := by decide +kernel
theorem d_F_triangle_18 : decode b_F_triangle 18 = .ok (.getfield 26, 3) := by decide +kernel
theorem d_F_triangle_21 : decode b_F_triangle 21 = .ok (.iload_n 1, 1) := by decide +kernel
theorem d_F_triangle_22 : decode b_F_triangle 22 = .ok (.iconst 0, 1) := by decide +kernel
theorem d_F_triangle_23 : decode b_F_triangle 23 = .ok (.invokevirtual 74, 3) := by decide +kernel
theorem d_F_triangle_26 : decode b_F_triangle 26 = .ok (.bipush 32, 2) := by decide +kernel
theorem d_F_triangle_28 : decode b_F_triangle 28 = .ok (.aload_n 0, 1) := by decide +kernel
theorem d_F_triangle_29 : decode b_F_triangle 29 = .ok (.getfield 26, 3) := by decide +kernel
theorem d_F_triangle_32 : decode b_F_triangle 32 = .ok (.iload_n 1, 1) := by decide +kernel
theorem d_F_triangle_33 : decode b_F_triangle 33 = .ok (.iconst 1, 1) := by decide +kernel
theorem d_F_triangle_34 : decode b_F_triangle 34 = .ok (.invokevirtual 74, 3) := by decide +kernel
theorem d_F_triangle_37 : decode b_F_triangle 37 = .ok (.imul, 1) := by decide +kernel
theorem d_F_triangle_38 : decode b_F_triangle 38 = .ok (.iadd, 1) := by decide +kernel
theorem d_F_triangle_39 : decode b_F_triangle 39 = .ok (.sipush 1024, 3) := by decide +kernel
theorem d_F_triangle_42 : decode b_F_triangle 42 = .ok (.aload_n 0, 1) := by decide +kernel
theorem d_F_triangle_43 : decode b_F_triangle 43 = .ok (.getfield 26, 3) := by decide +kernel
theorem d_F_triangle_46 : decode b_F_triangle 46 = .ok (.iload_n 1, 1) := by decide +kernel
theorem d_F_triangle_47 : decode b_F_triangle 47 = .ok (.iconst 2, 1) := by decide +kernel
theorem d_F_triangle_48 : decode b_F_triangle 48 = .ok (.invokevirtual 74, 3) := by decide +kernel
theorem d_F_triangle_51 : decode b_F_triangle 51 = .ok (.imul, 1) := by decide +kernel
theorem d_F_triangle_52 : decode b_F_triangle 52 = .ok (.iadd, 1) := by decide +kernel
theorem d_F_triangle_53 : decode b_F_triangle 53 = .ok (.ireturn, 1) := by decide +kernel
theorem d_F_number_0 : decode b_F_number 0 = .ok (.aload_n 0, 1) := by decide +kernel
theorem d_F_number_1 : decode b_F_number 1 = .ok (.getfield 12, 3) := by decide +kernel
theorem d_F_number_4 : decode b_F_number 4 = .ok (.iload_n 1, 1) := by decide +kernel
theorem d_F_number_5 : decode b_F_number 5 = .ok (.invokevirtual 50, 3) := by decide +kernel
theorem d_F_number_8 : decode b_F_number 8 = .ok (.ifCond .eq 25, 3) := by decide +kernel
theorem d_F_number_11 : decode b_F_number 11 = .ok (.aload_n 0, 1) := by decide +kernel
theorem d_F_number_12 : decode b_F_number 12 = .ok (.getfield 12, 3) := by decide +kernel
theorem d_F_number_15 : decode b_F_number 15 = .ok (.iload_n 2, 1) := by decide +kernel
theorem d_F_number_16 : decode b_F_number 16 = .ok (.invokevirtual 50, 3) := by decide +kernel
theorem d_F_number_19 : decode b_F_number 19 = .ok (.ifCond .eq 14, 3) := by decide +kernel
theorem d_F_number_22 : decode b_F_number 22 = .ok (.aload_n 0, 1) := by decide +kernel
theorem d_F_number_23 : decode b_F_number 23 = .ok (.getfield 12, 3) := by decide +kernel
theorem d_F_number_26 : decode b_F_number 26 = .ok (.iload_n 3, 1) := by decide +kernel
theorem d_F_number_27 : decode b_F_number 27 = .ok (.invokevirtual 50, 3) := by decide +kernel
theorem d_F_number_30 : decode b_F_number 30 = .ok (.ifCond .ne 5, 3) := by decide +kernel
theorem d_F_number_33 : decode b_F_number 33 = .ok (.iconst (-1), 1) := by decide +kernel
theorem d_F_number_34 : decode b_F_number 34 = .ok (.ireturn, 1) := by decide +kernel
theorem d_F_number_35 : decode b_F_number 35 = .ok (.aload_n 0, 1) := by decide +kernel
theorem d_F_number_36 : decode b_F_number 36 = .ok (.invokevirtual 69, 3) := by decide +kernel
theorem d_F_number_39 : decode b_F_number 39 = .ok (.iconst 1, 1) := by decide +kernel
theorem d_F_number_40 : decode b_F_number 40 = .ok (.iload_n 1, 1) := by decide +kernel
theorem d_F_number_41 : decode b_F_number 41 = .ok (.ishl, 1) := by decide +kernel
theorem d_F_number_42 : decode b_F_number 42 = .ok (.iconst 1, 1) := by decide +kernel
theorem d_F_number_43 : decode b_F_number 43 = .ok (.iload_n 2, 1) := by decide +kernel
theorem d_F_number_44 : decode b_F_number 44 = .ok (.ishl, 1) := by decide +kernel
theorem d_F_number_45 : decode b_F_number 45 = .ok (.ior, 1) := by decide +kernel
theorem d_F_number_46 : decode b_F_number 46 = .ok (.iconst 1, 1) := by decide +kernel
theorem d_F_number_47 : decode b_F_number 47 = .ok (.iload_n 3, 1) := by decide +kernel
theorem d_F_number_48 : decode b_F_number 48 = .ok (.ishl, 1) := by decide +kernel
theorem d_F_number_49 : decode b_F_number 49 = .ok (.ior, 1) := by decide +kernel
theorem d_F_number_50 : decode b_F_number 50 = .ok (.istore 4, 2) := by decide +kernel
theorem d_F_number_52 : decode b_F_number 52 = .ok (.iconst 0, 1) := by decide +kernel
theorem d_F_number_53 : decode b_F_number 53 = .ok (.istore 5, 2) := by decide +kernel
theorem d_F_number_55 : decode b_F_number 55 = .ok (.iload 5, 2) := by decide +kernel
theorem d_F_number_57 : decode b_F_number 57 = .ok (.aload_n 0, 1) := by decide +kernel
theorem d_F_number_58 : decode b_F_number 58 = .ok (.getfield 26, 3) := by decide +kernel
theorem d_F_number_61 : decode b_F_number 61 = .ok (.invokevirtual 72, 3) := by decide +kernel
theorem d_F_number_64 : decode b_F_number 64 = .ok (.if_icmp .ge 26, 3) := by decide +kernel
theorem d_F_number_67 : decode b_F_number 67 = .ok (.aload_n 0, 1) := by decide +kernel
theorem d_F_number_68 : decode b_F_number 68 = .ok (.getfield 26, 3) := by decide +kernel
theorem d_F_number_71 : decode b_F_number 71 = .ok (.iload 5, 2) := by decide +kernel
theorem d_F_number_73 : decode b_F_number 73 = .ok (.invokevirtual 77, 3) := by decide +kernel
theorem d_F_number_76 : decode b_F_number 76 = .ok (.iload 4, 2) := by decide +kernel
theorem d_F_number_78 : decode b_F_number 78 = .ok (.if_icmp .ne 6, 3) := by decide +kernel
theorem d_F_number_81 : decode b_F_number 81 = .ok (.iload 5, 2) := by decide +kernel
theorem d_F_number_83 : decode b_F_number 83 = .ok (.ireturn, 1) := by decide +kernel
theorem d_F_number_84 : decode b_F_number 84 = .ok (.iinc 5 1, 3) := by decide +kernel
theorem d_F_number_87 : decode b_F_number 87 = .ok (.goto (-32), 3) := by decide +kernel
theorem d_F_number_90 : decode b_F_number 90 = .ok (.iconst (-1), 1) := by decide +kernel
theorem d_F_number_91 : decode b_F_number 91 = .ok (.ireturn, 1) := by decide +kernel
theorem d_F_across_0 : decode b_F_across 0 = .ok (.aload_n 0, 1) := by decide +kernel
theorem d_F_across_1 : decode b_F_across 1 = .ok (.invokevirtual 69, 3) := by decide +kernel
theorem d_F_across_4 : decode b_F_across 4 = .ok (.aload_n 0, 1) := by decide +kernel
theorem d_F_across_5 : decode b_F_across 5 = .ok (.getfield 26, 3) := by decide +kernel
theorem d_F_across_8 : decode b_F_across 8 = .ok (.iload_n 1, 1) := by decide +kernel
theorem d_F_across_9 : decode b_F_across 9 = .ok (.invokevirtual 73, 3) := by decide +kernel
theorem d_F_across_12 : decode b_F_across 12 = .ok (.ifCond .eq 12, 3) := by decide +kernel
theorem d_F_across_15 : decode b_F_across 15 = .ok (.iload_n 2, 1) := by decide +kernel
theorem d_F_across_16 : decode b_F_across 16 = .ok (.ifCond .lt 8, 3) := by decide +kernel
theorem d_F_across_19 : decode b_F_across 19 = .ok (.iload_n 2, 1) := by decide +kernel
theorem d_F_across_20 : decode b_F_across 20 = .ok (.iconst 2, 1) := by decide +kernel
theorem d_F_across_21 : decode b_F_across 21 = .ok (.if_icmp .le 5, 3) := by decide +kernel
theorem d_F_across_24 : decode b_F_across 24 = .ok (.iconst (-1), 1) := by decide +kernel
theorem d_F_across_25 : decode b_F_across 25 = .ok (.ireturn, 1) := by decide +kernel
theorem d_F_across_26 : decode b_F_across 26 = .ok (.aload_n 0, 1) := by decide +kernel
theorem d_F_across_27 : decode b_F_across 27 = .ok (.getfield 26, 3) := by decide +kernel
theorem d_F_across_30 : decode b_F_across 30 = .ok (.iload_n 1, 1) := by decide +kernel
theorem d_F_across_31 : decode b_F_across 31 = .ok (.invokevirtual 77, 3) := by decide +kernel
theorem d_F_across_34 : decode b_F_across 34 = .ok (.iconst 1, 1) := by decide +kernel
theorem d_F_across_35 : decode b_F_across 35 = .ok (.aload_n 0, 1) := by decide +kernel
theorem d_F_across_36 : decode b_F_across 36 = .ok (.getfield 26, 3) := by decide +kernel
theorem d_F_across_39 : decode b_F_across 39 = .ok (.iload_n 1, 1) := by decide +kernel
theorem d_F_across_40 : decode b_F_across 40 = .ok (.iload_n 2, 1) := by decide +kernel
theorem d_F_across_41 : decode b_F_across 41 = .ok (.invokevirtual 74, 3) := by decide +kernel
theorem d_F_across_44 : decode b_F_across 44 = .ok (.ishl, 1) := by decide +kernel
theorem d_F_across_45 : decode b_F_across 45 = .ok (.iconst (-1), 1) := by decide +kernel
theorem d_F_across_46 : decode b_F_across 46 = .ok (.ixor, 1) := by decide +kernel
theorem d_F_across_47 : decode b_F_across 47 = .ok (.iand, 1) := by decide +kernel
theorem d_F_across_48 : decode b_F_across 48 = .ok (.istore_n 3, 1) := by decide +kernel
theorem d_F_across_49 : decode b_F_across 49 = .ok (.iconst 0, 1) := by decide +kernel
theorem d_F_across_50 : decode b_F_across 50 = .ok (.istore 4, 2) := by decide +kernel
theorem d_F_across_52 : decode b_F_across 52 = .ok (.iload 4, 2) := by decide +kernel
theorem d_F_across_54 : decode b_F_across 54 = .ok (.aload_n 0, 1) := by decide +kernel
theorem d_F_across_55 : decode b_F_across 55 = .ok (.getfield 26, 3) := by decide +kernel
theorem d_F_across_58 : decode b_F_across 58 = .ok (.invokevirtual 72, 3) := by decide +kernel
theorem d_F_across_61 : decode b_F_across 61 = .ok (.if_icmp .ge 33, 3) := by decide +kernel
theorem d_F_across_64 : decode b_F_across 64 = .ok (.iload 4, 2) := by decide +kernel
theorem d_F_across_66 : decode b_F_across 66 = .ok (.iload_n 1, 1) := by decide +kernel
theorem d_F_across_67 : decode b_F_across 67 = .ok (.if_icmp .eq 21, 3) := by decide +kernel
theorem d_F_across_70 : decode b_F_across 70 = .ok (.aload_n 0, 1) := by decide +kernel
theorem d_F_across_71 : decode b_F_across 71 = .ok (.getfield 26, 3) := by decide +kernel
theorem d_F_across_74 : decode b_F_across 74 = .ok (.iload 4, 2) := by decide +kernel
theorem d_F_across_76 : decode b_F_across 76 = .ok (.invokevirtual 77, 3) := by decide +kernel
theorem d_F_across_79 : decode b_F_across 79 = .ok (.iload_n 3, 1) := by decide +kernel
theorem d_F_across_80 : decode b_F_across 80 = .ok (.iand, 1) := by decide +kernel
theorem d_F_across_81 : decode b_F_across 81 = .ok (.iload_n 3, 1) := by decide +kernel
theorem d_F_across_82 : decode b_F_across 82 = .ok (.if_icmp .ne 6, 3) := by decide +kernel
theorem d_F_across_85 : decode b_F_across 85 = .ok (.iload 4, 2) := by decide +kernel
theorem d_F_across_87 : decode b_F_across 87 = .ok (.ireturn, 1) := by decide +kernel
theorem d_F_across_88 : decode b_F_across 88 = .ok (.iinc 4 1, 3) := by decide +kernel
theorem d_F_across_91 : decode b_F_across 91 = .ok (.goto (-39), 3) := by decide +kernel
theorem d_F_across_94 : decode b_F_across 94 = .ok (.iconst (-1), 1) := by decide +kernel
theorem d_F_across_95 : decode b_F_across 95 = .ok (.ireturn, 1) := by decide +kernel
theorem d_F_corners_0 : decode b_F_corners 0 = .ok (.aload_n 0, 1) := by decide +kernel
theorem d_F_corners_1 : decode b_F_corners 1 = .ok (.invokevirtual 69, 3) := by decide +kernel
theorem d_F_corners_4 : decode b_F_corners 4 = .ok (.aload_n 0, 1) := by decide +kernel
theorem d_F_corners_5 : decode b_F_corners 5 = .ok (.getfield 26, 3) := by decide +kernel
theorem d_F_corners_8 : decode b_F_corners 8 = .ok (.iload_n 1, 1) := by decide +kernel
theorem d_F_corners_9 : decode b_F_corners 9 = .ok (.invokevirtual 73, 3) := by decide +kernel
theorem d_F_corners_12 : decode b_F_corners 12 = .ok (.ifCond .eq 14, 3) := by decide +kernel
theorem d_F_corners_15 : decode b_F_corners 15 = .ok (.aload_n 0, 1) := by decide +kernel
theorem d_F_corners_16 : decode b_F_corners 16 = .ok (.getfield 26, 3) := by decide +kernel
theorem d_F_corners_19 : decode b_F_corners 19 = .ok (.iload_n 1, 1) := by decide +kernel
theorem d_F_corners_20 : decode b_F_corners 20 = .ok (.invokevirtual 80, 3) := by decide +kernel
theorem d_F_corners_23 : decode b_F_corners 23 = .ok (.goto 4, 3) := by decide +kernel
theorem d_F_corners_26 : decode b_F_corners 26 = .ok (.iconst (-1), 1) := by decide +kernel
theorem d_F_corners_27 : decode b_F_corners 27 = .ok (.ireturn, 1) := by decide +kernel
theorem d_F_locate_0 : decode b_F_locate 0 = .ok (.iload_n 1, 1) := by decide +kernel
theorem d_F_locate_1 : decode b_F_locate 1 = .ok (.iload_n 2, 1) := by decide +kernel
theorem d_F_locate_2 : decode b_F_locate 2 = .ok (.invokestatic 34, 3) := by decide +kernel
theorem d_F_locate_5 : decode b_F_locate 5 = .ok (.ifCond .ne 5, 3) := by decide +kernel
theorem d_F_locate_8 : decode b_F_locate 8 = .ok (.iconst (-1), 1) := by decide +kernel
theorem d_F_locate_9 : decode b_F_locate 9 = .ok (.ireturn, 1) := by decide +kernel
theorem d_F_locate_10 : decode b_F_locate 10 = .ok (.aload_n 0, 1) := by decide +kernel
theorem d_F_locate_11 : decode b_F_locate 11 = .ok (.invokevirtual 69, 3) := by decide +kernel
theorem d_F_locate_14 : decode b_F_locate 14 = .ok (.iconst 0, 1) := by decide +kernel
theorem d_F_locate_15 : decode b_F_locate 15 = .ok (.istore_n 3, 1) := by decide +kernel
theorem d_F_locate_16 : decode b_F_locate 16 = .ok (.iload_n 3, 1) := by decide +kernel
theorem d_F_locate_17 : decode b_F_locate 17 = .ok (.aload_n 0, 1) := by decide +kernel
theorem d_F_locate_18 : decode b_F_locate 18 = .ok (.getfield 26, 3) := by decide +kernel
theorem d_F_locate_21 : decode b_F_locate 21 = .ok (.invokevirtual 72, 3) := by decide +kernel
theorem d_F_locate_24 : decode b_F_locate 24 = .ok (.if_icmp .ge 21, 3) := by decide +kernel
theorem d_F_locate_27 : decode b_F_locate 27 = .ok (.aload_n 0, 1) := by decide +kernel
theorem d_F_locate_28 : decode b_F_locate 28 = .ok (.iload_n 3, 1) := by decide +kernel
theorem d_F_locate_29 : decode b_F_locate 29 = .ok (.iload_n 1, 1) := by decide +kernel
theorem d_F_locate_30 : decode b_F_locate 30 = .ok (.iload_n 2, 1) := by decide +kernel
theorem d_F_locate_31 : decode b_F_locate 31 = .ok (.invokevirtual 83, 3) := by decide +kernel
theorem d_F_locate_34 : decode b_F_locate 34 = .ok (.ifCond .eq 5, 3) := by decide +kernel
theorem d_F_locate_37 : decode b_F_locate 37 = .ok (.iload_n 3, 1) := by decide +kernel
theorem d_F_locate_38 : decode b_F_locate 38 = .ok (.ireturn, 1) := by decide +kernel
theorem d_F_locate_39 : decode b_F_locate 39 = .ok (.iinc 3 1, 3) := by decide +kernel
theorem d_F_locate_42 : decode b_F_locate 42 = .ok (.goto (-26), 3) := by decide +kernel
theorem d_F_locate_45 : decode b_F_locate 45 = .ok (.iconst (-1), 1) := by decide +kernel
theorem d_F_locate_46 : decode b_F_locate 46 = .ok (.ireturn, 1) := by decide +kernel
theorem d_F_nearest_0 : decode b_F_nearest 0 = .ok (.iload_n 1, 1) := by decide +kernel
theorem d_F_nearest_1 : decode b_F_nearest 1 = .ok (.iload_n 2, 1) := by decide +kernel
theorem d_F_nearest_2 : decode b_F_nearest 2 = .ok (.invokestatic 34, 3) := by decide +kernel
theorem d_F_nearest_5 : decode b_F_nearest 5 = .ok (.ifCond .ne 5, 3) := by decide +kernel
theorem d_F_nearest_8 : decode b_F_nearest 8 = .ok (.iconst (-1), 1) := by decide +kernel
theorem d_F_nearest_9 : decode b_F_nearest 9 = .ok (.ireturn, 1) := by decide +kernel
theorem d_F_nearest_10 : decode b_F_nearest 10 = .ok (.iconst (-1), 1) := by decide +kernel
theorem d_F_nearest_11 : decode b_F_nearest 11 = .ok (.istore_n 3, 1) := by decide +kernel
theorem d_F_nearest_12 : decode b_F_nearest 12 = .ok (.lconst 0, 1) := by decide +kernel
theorem d_F_nearest_13 : decode b_F_nearest 13 = .ok (.lstore 4, 2) := by decide +kernel
theorem d_F_nearest_15 : decode b_F_nearest 15 = .ok (.iconst 0, 1) := by decide +kernel
theorem d_F_nearest_16 : decode b_F_nearest 16 = .ok (.istore 6, 2) := by decide +kernel
theorem d_F_nearest_18 : decode b_F_nearest 18 = .ok (.iload 6, 2) := by decide +kernel
theorem d_F_nearest_20 : decode b_F_nearest 20 = .ok (.bipush 20, 2) := by decide +kernel
theorem d_F_nearest_22 : decode b_F_nearest 22 = .ok (.if_icmp .ge 54, 3) := by decide +kernel
theorem d_F_nearest_25 : decode b_F_nearest 25 = .ok (.aload_n 0, 1) := by decide +kernel
theorem d_F_nearest_26 : decode b_F_nearest 26 = .ok (.getfield 12, 3) := by decide +kernel
theorem d_F_nearest_29 : decode b_F_nearest 29 = .ok (.iload 6, 2) := by decide +kernel
theorem d_F_nearest_31 : decode b_F_nearest 31 = .ok (.invokevirtual 50, 3) := by decide +kernel
theorem d_F_nearest_34 : decode b_F_nearest 34 = .ok (.ifCond .eq 36, 3) := by decide +kernel
theorem d_F_nearest_37 : decode b_F_nearest 37 = .ok (.aload_n 0, 1) := by decide +kernel
theorem d_F_nearest_38 : decode b_F_nearest 38 = .ok (.getfield 12, 3) := by decide +kernel
theorem d_F_nearest_41 : decode b_F_nearest 41 = .ok (.iload 6, 2) := by decide +kernel
theorem d_F_nearest_43 : decode b_F_nearest 43 = .ok (.iload_n 1, 1) := by decide +kernel
theorem d_F_nearest_44 : decode b_F_nearest 44 = .ok (.iload_n 2, 1) := by decide +kernel
theorem d_F_nearest_45 : decode b_F_nearest 45 = .ok (.invokevirtual 87, 3) := by decide +kernel
theorem d_F_nearest_48 : decode b_F_nearest 48 = .ok (.lstore 7, 2) := by decide +kernel
theorem d_F_nearest_50 : decode b_F_nearest 50 = .ok (.iload_n 3, 1) := by decide +kernel
theorem d_F_nearest_51 : decode b_F_nearest 51 = .ok (.iconst (-1), 1) := by decide +kernel
theorem d_F_nearest_52 : decode b_F_nearest 52 = .ok (.if_icmp .eq 11, 3) := by decide +kernel
theorem d_F_nearest_55 : decode b_F_nearest 55 = .ok (.lload 7, 2) := by decide +kernel
theorem d_F_nearest_57 : decode b_F_nearest 57 = .ok (.lload 4, 2) := by decide +kernel
theorem d_F_nearest_59 : decode b_F_nearest 59 = .ok (.lcmp, 1) := by decide +kernel
theorem d_F_nearest_60 : decode b_F_nearest 60 = .ok (.ifCond .ge 10, 3) := by decide +kernel
theorem d_F_nearest_63 : decode b_F_nearest 63 = .ok (.iload 6, 2) := by decide +kernel
theorem d_F_nearest_65 : decode b_F_nearest 65 = .ok (.istore_n 3, 1) := by decide +kernel
theorem d_F_nearest_66 : decode b_F_nearest 66 = .ok (.lload 7, 2) := by decide +kernel
theorem d_F_nearest_68 : decode b_F_nearest 68 = .ok (.lstore 4, 2) := by decide +kernel
theorem d_F_nearest_70 : decode b_F_nearest 70 = .ok (.iinc 6 1, 3) := by decide +kernel
theorem d_F_nearest_73 : decode b_F_nearest 73 = .ok (.goto (-55), 3) := by decide +kernel
theorem d_F_nearest_76 : decode b_F_nearest 76 = .ok (.iload_n 3, 1) := by decide +kernel
theorem d_F_nearest_77 : decode b_F_nearest 77 = .ok (.ireturn, 1) := by decide +kernel
theorem d_F_neighbours_0 : decode b_F_neighbours 0 = .ok (.aload_n 0, 1) := by decide +kernel
theorem d_F_neighbours_1 : decode b_F_neighbours 1 = .ok (.getfield 12, 3) := by decide +kernel
theorem d_F_neighbours_4 : decode b_F_neighbours 4 = .ok (.iload_n 1, 1) := by decide +kernel
theorem d_F_neighbours_5 : decode b_F_neighbours 5 = .ok (.invokevirtual 50, 3) := by decide +kernel
theorem d_F_neighbours_8 : decode b_F_neighbours 8 = .ok (.ifCond .ne 5, 3) := by decide +kernel
theorem d_F_neighbours_11 : decode b_F_neighbours 11 = .ok (.iconst (-1), 1) := by decide +kernel
theorem d_F_neighbours_12 : decode b_F_neighbours 12 = .ok (.ireturn, 1) := by decide +kernel
theorem d_F_neighbours_13 : decode b_F_neighbours 13 = .ok (.aload_n 0, 1) := by decide +kernel
theorem d_F_neighbours_14 : decode b_F_neighbours 14 = .ok (.invokevirtual 69, 3) := by decide +kernel
theorem d_F_neighbours_17 : decode b_F_neighbours 17 = .ok (.aload_n 0, 1) := by decide +kernel
theorem d_F_neighbours_18 : decode b_F_neighbours 18 = .ok (.getfield 26, 3) := by decide +kernel
theorem d_F_neighbours_21 : decode b_F_neighbours 21 = .ok (.iload_n 1, 1) := by decide +kernel
theorem d_F_neighbours_22 : decode b_F_neighbours 22 = .ok (.invokevirtual 91, 3) := by decide +kernel
theorem d_F_neighbours_25 : decode b_F_neighbours 25 = .ok (.ireturn, 1) := by decide +kernel
theorem d_F_boundary_0 : decode b_F_boundary 0 = .ok (.aload_n 0, 1) := by decide +kernel
theorem d_F_boundary_1 : decode b_F_boundary 1 = .ok (.invokevirtual 69, 3) := by decide +kernel
theorem d_F_boundary_4 : decode b_F_boundary 4 = .ok (.iload_n 1, 1) := by decide +kernel
theorem d_F_boundary_5 : decode b_F_boundary 5 = .ok (.ifCond .lt 25, 3) := by decide +kernel
theorem d_F_boundary_8 : decode b_F_boundary 8 = .ok (.iload_n 1, 1) := by decide +kernel
theorem d_F_boundary_9 : decode b_F_boundary 9 = .ok (.aload_n 0, 1) := by decide +kernel
theorem d_F_boundary_10 : decode b_F_boundary 10 = .ok (.getfield 19, 3) := by decide +kernel
theorem d_F_boundary_13 : decode b_F_boundary 13 = .ok (.invokevirtual 94, 3) := by decide +kernel
theorem d_F_boundary_16 : decode b_F_boundary 16 = .ok (.if_icmp .ge 14, 3) := by decide +kernel
theorem d_F_boundary_19 : decode b_F_boundary 19 = .ok (.aload_n 0, 1) := by decide +kernel
theorem d_F_boundary_20 : decode b_F_boundary 20 = .ok (.getfield 19, 3) := by decide +kernel
theorem d_F_boundary_23 : decode b_F_boundary 23 = .ok (.iload_n 1, 1) := by decide +kernel
theorem d_F_boundary_24 : decode b_F_boundary 24 = .ok (.invokevirtual 95, 3) := by decide +kernel
theorem d_F_boundary_27 : decode b_F_boundary 27 = .ok (.goto 4, 3) := by decide +kernel
theorem d_F_boundary_30 : decode b_F_boundary 30 = .ok (.iconst (-1), 1) := by decide +kernel
theorem d_F_boundary_31 : decode b_F_boundary 31 = .ok (.ireturn, 1) := by decide +kernel
theorem d_F_inside_0 : decode b_F_inside 0 = .ok (.aload_n 0, 1) := by decide +kernel
theorem d_F_inside_1 : decode b_F_inside 1 = .ok (.getfield 12, 3) := by decide +kernel
theorem d_F_inside_4 : decode b_F_inside 4 = .ok (.iload_n 1, 1) := by decide +kernel
theorem d_F_inside_5 : decode b_F_inside 5 = .ok (.invokevirtual 50, 3) := by decide +kernel
theorem d_F_inside_8 : decode b_F_inside 8 = .ok (.ifCond .eq 37, 3) := by decide +kernel
theorem d_F_inside_11 : decode b_F_inside 11 = .ok (.aload_n 0, 1) := by decide +kernel
theorem d_F_inside_12 : decode b_F_inside 12 = .ok (.getfield 12, 3) := by decide +kernel
theorem d_F_inside_15 : decode b_F_inside 15 = .ok (.iload_n 2, 1) := by decide +kernel
theorem d_F_inside_16 : decode b_F_inside 16 = .ok (.invokevirtual 50, 3) := by decide +kernel
theorem d_F_inside_19 : decode b_F_inside 19 = .ok (.ifCond .eq 26, 3) := by decide +kernel
theorem d_F_inside_22 : decode b_F_inside 22 = .ok (.aload_n 0, 1) := by decide +kernel
theorem d_F_inside_23 : decode b_F_inside 23 = .ok (.getfield 12, 3) := by decide +kernel
theorem d_F_inside_26 : decode b_F_inside 26 = .ok (.iload_n 3, 1) := by decide +kernel
theorem d_F_inside_27 : decode b_F_inside 27 = .ok (.invokevirtual 50, 3) := by decide +kernel
theorem d_F_inside_30 : decode b_F_inside 30 = .ok (.ifCond .eq 15, 3) := by decide +kernel
theorem d_F_inside_33 : decode b_F_inside 33 = .ok (.aload_n 0, 1) := by decide +kernel
theorem d_F_inside_34 : decode b_F_inside 34 = .ok (.getfield 12, 3) := by decide +kernel
theorem d_F_inside_37 : decode b_F_inside 37 = .ok (.iload 4, 2) := by decide +kernel
theorem d_F_inside_39 : decode b_F_inside 39 = .ok (.invokevirtual 50, 3) := by decide +kernel
theorem d_F_inside_42 : decode b_F_inside 42 = .ok (.ifCond .ne 5, 3) := by decide +kernel
theorem d_F_inside_45 : decode b_F_inside 45 = .ok (.iconst 2, 1) := by decide +kernel
theorem d_F_inside_46 : decode b_F_inside 46 = .ok (.ireturn, 1) := by decide +kernel
theorem d_F_inside_47 : decode b_F_inside 47 = .ok (.aload_n 0, 1) := by decide +kernel
theorem d_F_inside_48 : decode b_F_inside 48 = .ok (.getfield 12, 3) := by decide +kernel
theorem d_F_inside_51 : decode b_F_inside 51 = .ok (.iload_n 1, 1) := by decide +kernel
theorem d_F_inside_52 : decode b_F_inside 52 = .ok (.iload_n 2, 1) := by decide +kernel
theorem d_F_inside_53 : decode b_F_inside 53 = .ok (.iload_n 3, 1) := by decide +kernel
theorem d_F_inside_54 : decode b_F_inside 54 = .ok (.invokevirtual 98, 3) := by decide +kernel
theorem d_F_inside_57 : decode b_F_inside 57 = .ok (.istore 5, 2) := by decide +kernel
theorem d_F_inside_59 : decode b_F_inside 59 = .ok (.iload 5, 2) := by decide +kernel
theorem d_F_inside_61 : decode b_F_inside 61 = .ok (.ifCond .ne 5, 3) := by decide +kernel
theorem d_F_inside_64 : decode b_F_inside 64 = .ok (.iconst 2, 1) := by decide +kernel
theorem d_F_inside_65 : decode b_F_inside 65 = .ok (.ireturn, 1) := by decide +kernel
theorem d_F_inside_66 : decode b_F_inside 66 = .ok (.iload 5, 2) := by decide +kernel
theorem d_F_inside_68 : decode b_F_inside 68 = .ok (.aload_n 0, 1) := by decide +kernel
theorem d_F_inside_69 : decode b_F_inside 69 = .ok (.getfield 12, 3) := by decide +kernel
theorem d_F_inside_72 : decode b_F_inside 72 = .ok (.iload_n 1, 1) := by decide +kernel
theorem d_F_inside_73 : decode b_F_inside 73 = .ok (.iload_n 2, 1) := by decide +kernel
theorem d_F_inside_74 : decode b_F_inside 74 = .ok (.iload_n 3, 1) := by decide +kernel
theorem d_F_inside_75 : decode b_F_inside 75 = .ok (.iload 4, 2) := by decide +kernel
theorem d_F_inside_77 : decode b_F_inside 77 = .ok (.invokevirtual 102, 3) := by decide +kernel
theorem d_F_inside_80 : decode b_F_inside 80 = .ok (.imul, 1) := by decide +kernel
theorem d_F_inside_81 : decode b_F_inside 81 = .ok (.ireturn, 1) := by decide +kernel
theorem d_F_area_0 : decode b_F_area 0 = .ok (.aload_n 0, 1) := by decide +kernel
theorem d_F_area_1 : decode b_F_area 1 = .ok (.invokevirtual 69, 3) := by decide +kernel
theorem d_F_area_4 : decode b_F_area 4 = .ok (.lconst 0, 1) := by decide +kernel
theorem d_F_area_5 : decode b_F_area 5 = .ok (.lstore_n 1, 1) := by decide +kernel
theorem d_F_area_6 : decode b_F_area 6 = .ok (.iconst 2, 1) := by decide +kernel
theorem d_F_area_7 : decode b_F_area 7 = .ok (.istore_n 3, 1) := by decide +kernel
theorem d_F_area_8 : decode b_F_area 8 = .ok (.iload_n 3, 1) := by decide +kernel
theorem d_F_area_9 : decode b_F_area 9 = .ok (.aload_n 0, 1) := by decide +kernel
theorem d_F_area_10 : decode b_F_area 10 = .ok (.getfield 19, 3) := by decide +kernel
theorem d_F_area_13 : decode b_F_area 13 = .ok (.invokevirtual 94, 3) := by decide +kernel
theorem d_F_area_16 : decode b_F_area 16 = .ok (.if_icmp .ge 45, 3) := by decide +kernel
theorem d_F_area_19 : decode b_F_area 19 = .ok (.lload_n 1, 1) := by decide +kernel
theorem d_F_area_20 : decode b_F_area 20 = .ok (.aload_n 0, 1) := by decide +kernel
theorem d_F_area_21 : decode b_F_area 21 = .ok (.getfield 12, 3) := by decide +kernel
theorem d_F_area_24 : decode b_F_area 24 = .ok (.aload_n 0, 1) := by decide +kernel
theorem d_F_area_25 : decode b_F_area 25 = .ok (.getfield 19, 3) := by decide +kernel
theorem d_F_area_28 : decode b_F_area 28 = .ok (.iconst 0, 1) := by decide +kernel
theorem d_F_area_29 : decode b_F_area 29 = .ok (.invokevirtual 95, 3) := by decide +kernel
theorem d_F_area_32 : decode b_F_area 32 = .ok (.aload_n 0, 1) := by decide +kernel
theorem d_F_area_33 : decode b_F_area 33 = .ok (.getfield 19, 3) := by decide +kernel
theorem d_F_area_36 : decode b_F_area 36 = .ok (.iload_n 3, 1) := by decide +kernel
theorem d_F_area_37 : decode b_F_area 37 = .ok (.iconst 1, 1) := by decide +kernel
theorem d_F_area_38 : decode b_F_area 38 = .ok (.isub, 1) := by decide +kernel
theorem d_F_area_39 : decode b_F_area 39 = .ok (.invokevirtual 95, 3) := by decide +kernel
theorem d_F_area_42 : decode b_F_area 42 = .ok (.aload_n 0, 1) := by decide +kernel
theorem d_F_area_43 : decode b_F_area 43 = .ok (.getfield 19, 3) := by decide +kernel
theorem d_F_area_46 : decode b_F_area 46 = .ok (.iload_n 3, 1) := by decide +kernel
theorem d_F_area_47 : decode b_F_area 47 = .ok (.invokevirtual 95, 3) := by decide +kernel
theorem d_F_area_50 : decode b_F_area 50 = .ok (.invokevirtual 106, 3) := by decide +kernel
theorem d_F_area_53 : decode b_F_area 53 = .ok (.ladd, 1) := by decide +kernel
theorem d_F_area_54 : decode b_F_area 54 = .ok (.lstore_n 1, 1) := by decide +kernel
theorem d_F_area_55 : decode b_F_area 55 = .ok (.iinc 3 1, 3) := by decide +kernel
theorem d_F_area_58 : decode b_F_area 58 = .ok (.goto (-50), 3) := by decide +kernel
theorem d_F_area_61 : decode b_F_area 61 = .ok (.lload_n 1, 1) := by decide +kernel
theorem d_F_area_62 : decode b_F_area 62 = .ok (.lreturn, 1) := by decide +kernel
theorem d_F_refresh_0 : decode b_F_refresh 0 = .ok (.aload_n 0, 1) := by decide +kernel
theorem d_F_refresh_1 : decode b_F_refresh 1 = .ok (.getfield 30, 3) := by decide +kernel
theorem d_F_refresh_4 : decode b_F_refresh 4 = .ok (.ifCond .eq 41, 3) := by decide +kernel
theorem d_F_refresh_7 : decode b_F_refresh 7 = .ok (.aload_n 0, 1) := by decide +kernel
theorem d_F_refresh_8 : decode b_F_refresh 8 = .ok (.getfield 19, 3) := by decide +kernel
theorem d_F_refresh_11 : decode b_F_refresh 11 = .ok (.aload_n 0, 1) := by decide +kernel
theorem d_F_refresh_12 : decode b_F_refresh 12 = .ok (.getfield 12, 3) := by decide +kernel
theorem d_F_refresh_15 : decode b_F_refresh 15 = .ok (.invokevirtual 109, 3) := by decide +kernel
theorem d_F_refresh_18 : decode b_F_refresh 18 = .ok (.aload_n 0, 1) := by decide +kernel
theorem d_F_refresh_19 : decode b_F_refresh 19 = .ok (.getfield 26, 3) := by decide +kernel
theorem d_F_refresh_22 : decode b_F_refresh 22 = .ok (.aload_n 0, 1) := by decide +kernel
theorem d_F_refresh_23 : decode b_F_refresh 23 = .ok (.getfield 19, 3) := by decide +kernel
theorem d_F_refresh_26 : decode b_F_refresh 26 = .ok (.invokevirtual 113, 3) := by decide +kernel
theorem d_F_refresh_29 : decode b_F_refresh 29 = .ok (.aload_n 0, 1) := by decide +kernel
theorem d_F_refresh_30 : decode b_F_refresh 30 = .ok (.getfield 26, 3) := by decide +kernel
theorem d_F_refresh_33 : decode b_F_refresh 33 = .ok (.aload_n 0, 1) := by decide +kernel
theorem d_F_refresh_34 : decode b_F_refresh 34 = .ok (.getfield 12, 3) := by decide +kernel
theorem d_F_refresh_37 : decode b_F_refresh 37 = .ok (.invokevirtual 117, 3) := by decide +kernel
theorem d_F_refresh_40 : decode b_F_refresh 40 = .ok (.aload_n 0, 1) := by decide +kernel
theorem d_F_refresh_41 : decode b_F_refresh 41 = .ok (.iconst 0, 1) := by decide +kernel
theorem d_F_refresh_42 : decode b_F_refresh 42 = .ok (.putfield 30, 3) := by decide +kernel
theorem d_F_refresh_45 : decode b_F_refresh 45 = .ok (.return_, 1) := by decide +kernel
theorem d_F_covers_0 : decode b_F_covers 0 = .ok (.aload_n 0, 1) := by decide +kernel
theorem d_F_covers_1 : decode b_F_covers 1 = .ok (.getfield 26, 3) := by decide +kernel
theorem d_F_covers_4 : decode b_F_covers 4 = .ok (.iload_n 1, 1) := by decide +kernel
theorem d_F_covers_5 : decode b_F_covers 5 = .ok (.iconst 0, 1) := by decide +kernel
theorem d_F_covers_6 : decode b_F_covers 6 = .ok (.invokevirtual 74, 3) := by decide +kernel
theorem d_F_covers_9 : decode b_F_covers 9 = .ok (.istore 4, 2) := by decide +kernel
theorem d_F_covers_11 : decode b_F_covers 11 = .ok (.aload_n 0, 1) := by decide +kernel
theorem d_F_covers_12 : decode b_F_covers 12 = .ok (.getfield 26, 3) := by decide +kernel
theorem d_F_covers_15 : decode b_F_covers 15 = .ok (.iload_n 1, 1) := by decide +kernel
theorem d_F_covers_16 : decode b_F_covers 16 = .ok (.iconst 1, 1) := by decide +kernel
theorem d_F_covers_17 : decode b_F_covers 17 = .ok (.invokevirtual 74, 3) := by decide +kernel
theorem d_F_covers_20 : decode b_F_covers 20 = .ok (.istore 5, 2) := by decide +kernel
theorem d_F_covers_22 : decode b_F_covers 22 = .ok (.aload_n 0, 1) := by decide +kernel
theorem d_F_covers_23 : decode b_F_covers 23 = .ok (.getfield 26, 3) := by decide +kernel
theorem d_F_covers_26 : decode b_F_covers 26 = .ok (.iload_n 1, 1) := by decide +kernel
theorem d_F_covers_27 : decode b_F_covers 27 = .ok (.iconst 2, 1) := by decide +kernel
theorem d_F_covers_28 : decode b_F_covers 28 = .ok (.invokevirtual 74, 3) := by decide +kernel
theorem d_F_covers_31 : decode b_F_covers 31 = .ok (.istore 6, 2) := by decide +kernel
theorem d_F_covers_33 : decode b_F_covers 33 = .ok (.aload_n 0, 1) := by decide +kernel
theorem d_F_covers_34 : decode b_F_covers 34 = .ok (.getfield 12, 3) := by decide +kernel
theorem d_F_covers_37 : decode b_F_covers 37 = .ok (.iload 4, 2) := by decide +kernel
theorem d_F_covers_39 : decode b_F_covers 39 = .ok (.iload 5, 2) := by decide +kernel
theorem d_F_covers_41 : decode b_F_covers 41 = .ok (.iload_n 2, 1) := by decide +kernel
theorem d_F_covers_42 : decode b_F_covers 42 = .ok (.iload_n 3, 1) := by decide +kernel
theorem d_F_covers_43 : decode b_F_covers 43 = .ok (.invokevirtual 120, 3) := by decide +kernel
theorem d_F_covers_46 : decode b_F_covers 46 = .ok (.lconst 0, 1) := by decide +kernel
theorem d_F_covers_47 : decode b_F_covers 47 = .ok (.lcmp, 1) := by decide +kernel
theorem d_F_covers_48 : decode b_F_covers 48 = .ok (.ifCond .lt 43, 3) := by decide +kernel
theorem d_F_covers_51 : decode b_F_covers 51 = .ok (.aload_n 0, 1) := by decide +kernel
theorem d_F_covers_52 : decode b_F_covers 52 = .ok (.getfield 12, 3) := by decide +kernel
theorem d_F_covers_55 : decode b_F_covers 55 = .ok (.iload 5, 2) := by decide +kernel
theorem d_F_covers_57 : decode b_F_covers 57 = .ok (.iload 6, 2) := by decide +kernel
theorem d_F_covers_59 : decode b_F_covers 59 = .ok (.iload_n 2, 1) := by decide +kernel
theorem d_F_covers_60 : decode b_F_covers 60 = .ok (.iload_n 3, 1) := by decide +kernel
theorem d_F_covers_61 : decode b_F_covers 61 = .ok (.invokevirtual 120, 3) := by decide +kernel
theorem d_F_covers_64 : decode b_F_covers 64 = .ok (.lconst 0, 1) := by decide +kernel
theorem d_F_covers_65 : decode b_F_covers 65 = .ok (.lcmp, 1) := by decide +kernel
theorem d_F_covers_66 : decode b_F_covers 66 = .ok (.ifCond .lt 25, 3) := by decide +kernel
theorem d_F_covers_69 : decode b_F_covers 69 = .ok (.aload_n 0, 1) := by decide +kernel
theorem d_F_covers_70 : decode b_F_covers 70 = .ok (.getfield 12, 3) := by decide +kernel
theorem d_F_covers_73 : decode b_F_covers 73 = .ok (.iload 6, 2) := by decide +kernel
theorem d_F_covers_75 : decode b_F_covers 75 = .ok (.iload 4, 2) := by decide +kernel
theorem d_F_covers_77 : decode b_F_covers 77 = .ok (.iload_n 2, 1) := by decide +kernel
theorem d_F_covers_78 : decode b_F_covers 78 = .ok (.iload_n 3, 1) := by decide +kernel
theorem d_F_covers_79 : decode b_F_covers 79 = .ok (.invokevirtual 120, 3) := by decide +kernel
theorem d_F_covers_82 : decode b_F_covers 82 = .ok (.lconst 0, 1) := by decide +kernel
theorem d_F_covers_83 : decode b_F_covers 83 = .ok (.lcmp, 1) := by decide +kernel
theorem d_F_covers_84 : decode b_F_covers 84 = .ok (.ifCond .lt 7, 3) := by decide +kernel
theorem d_F_covers_87 : decode b_F_covers 87 = .ok (.iconst 1, 1) := by decide +kernel
theorem d_F_covers_88 : decode b_F_covers 88 = .ok (.goto 4, 3) := by decide +kernel
theorem d_F_covers_91 : decode b_F_covers 91 = .ok (.iconst 0, 1) := by decide +kernel
theorem d_F_covers_92 : decode b_F_covers 92 = .ok (.ireturn, 1) := by decide +kernel
theorem d_F_inReach_0 : decode b_F_inReach 0 = .ok (.iload_n 0, 1) := by decide +kernel
theorem d_F_inReach_1 : decode b_F_inReach 1 = .ok (.ldc 124, 2) := by decide +kernel
theorem d_F_inReach_3 : decode b_F_inReach 3 = .ok (.if_icmp .lt 25, 3) := by decide +kernel
theorem d_F_inReach_6 : decode b_F_inReach 6 = .ok (.iload_n 0, 1) := by decide +kernel
theorem d_F_inReach_7 : decode b_F_inReach 7 = .ok (.ldc 125, 2) := by decide +kernel
theorem d_F_inReach_9 : decode b_F_inReach 9 = .ok (.if_icmp .gt 19, 3) := by decide +kernel
theorem d_F_inReach_12 : decode b_F_inReach 12 = .ok (.iload_n 1, 1) := by decide +kernel
theorem d_F_inReach_13 : decode b_F_inReach 13 = .ok (.ldc 124, 2) := by decide +kernel
theorem d_F_inReach_15 : decode b_F_inReach 15 = .ok (.if_icmp .lt 13, 3) := by decide +kernel
theorem d_F_inReach_18 : decode b_F_inReach 18 = .ok (.iload_n 1, 1) := by decide +kernel
theorem d_F_inReach_19 : decode b_F_inReach 19 = .ok (.ldc 125, 2) := by decide +kernel
theorem d_F_inReach_21 : decode b_F_inReach 21 = .ok (.if_icmp .gt 7, 3) := by decide +kernel
theorem d_F_inReach_24 : decode b_F_inReach 24 = .ok (.iconst 1, 1) := by decide +kernel
theorem d_F_inReach_25 : decode b_F_inReach 25 = .ok (.goto 4, 3) := by decide +kernel
theorem d_F_inReach_28 : decode b_F_inReach 28 = .ok (.iconst 0, 1) := by decide +kernel
theorem d_F_inReach_29 : decode b_F_inReach 29 = .ok (.ireturn, 1) := by decide +kernel
theorem d_F_sign_0 : decode b_F_sign 0 = .ok (.lload_n 0, 1) := by decide +kernel
theorem d_F_sign_1 : decode b_F_sign 1 = .ok (.lconst 0, 1) := by decide +kernel
theorem d_F_sign_2 : decode b_F_sign 2 = .ok (.lcmp, 1) := by decide +kernel
theorem d_F_sign_3 : decode b_F_sign 3 = .ok (.ifCond .le 7, 3) := by decide +kernel
theorem d_F_sign_6 : decode b_F_sign 6 = .ok (.iconst 1, 1) := by decide +kernel
theorem d_F_sign_7 : decode b_F_sign 7 = .ok (.goto 14, 3) := by decide +kernel
theorem d_F_sign_10 : decode b_F_sign 10 = .ok (.lload_n 0, 1) := by decide +kernel
theorem d_F_sign_11 : decode b_F_sign 11 = .ok (.lconst 0, 1) := by decide +kernel
theorem d_F_sign_12 : decode b_F_sign 12 = .ok (.lcmp, 1) := by decide +kernel
theorem d_F_sign_13 : decode b_F_sign 13 = .ok (.ifCond .ge 7, 3) := by decide +kernel
theorem d_F_sign_16 : decode b_F_sign 16 = .ok (.iconst (-1), 1) := by decide +kernel
theorem d_F_sign_17 : decode b_F_sign 17 = .ok (.goto 4, 3) := by decide +kernel
theorem d_F_sign_20 : decode b_F_sign 20 = .ok (.iconst 0, 1) := by decide +kernel
theorem d_F_sign_21 : decode b_F_sign 21 = .ok (.ireturn, 1) := by decide +kernel
