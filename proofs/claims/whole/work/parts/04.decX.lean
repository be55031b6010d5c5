theorem dJx00060_init_a7421_0 : decode cJx00060_init_a7421 0 = .ok (.aload_n 0, 1) := by decide +kernel
theorem dJx00060_init_a7421_1 : decode cJx00060_init_a7421 1 = .ok (.aload_n 1, 1) := by decide +kernel
theorem dJx00060_init_a7421_2 : decode cJx00060_init_a7421 2 = .ok (.invokespecial 7, 3) := by decide +kernel
theorem dJx00060_init_a7421_5 : decode cJx00060_init_a7421 5 = .ok (.return_, 1) := by decide +kernel
theorem dJ9_abs_0f7a4_0 : decode cJ9_abs_0f7a4 0 = .ok (.iload_n 0, 1) := by decide +kernel
theorem dJ9_abs_0f7a4_1 : decode cJ9_abs_0f7a4 1 = .ok (.ifCond .ge 8, 3) := by decide +kernel
theorem dJ9_abs_0f7a4_4 : decode cJ9_abs_0f7a4 4 = .ok (.iload_n 0, 1) := by decide +kernel
theorem dJ9_abs_0f7a4_5 : decode cJ9_abs_0f7a4 5 = .ok (.ineg, 1) := by decide +kernel
theorem dJ9_abs_0f7a4_6 : decode cJ9_abs_0f7a4 6 = .ok (.goto 4, 3) := by decide +kernel
theorem dJ9_abs_0f7a4_9 : decode cJ9_abs_0f7a4 9 = .ok (.iload_n 0, 1) := by decide +kernel
theorem dJ9_abs_0f7a4_10 : decode cJ9_abs_0f7a4 10 = .ok (.ireturn, 1) := by decide +kernel
theorem dJ9_max_7cf53_0 : decode cJ9_max_7cf53 0 = .ok (.iload_n 0, 1) := by decide +kernel
theorem dJ9_max_7cf53_1 : decode cJ9_max_7cf53 1 = .ok (.iload_n 1, 1) := by decide +kernel
theorem dJ9_max_7cf53_2 : decode cJ9_max_7cf53 2 = .ok (.if_icmp .lt 7, 3) := by decide +kernel
theorem dJ9_max_7cf53_5 : decode cJ9_max_7cf53 5 = .ok (.iload_n 0, 1) := by decide +kernel
theorem dJ9_max_7cf53_6 : decode cJ9_max_7cf53 6 = .ok (.goto 4, 3) := by decide +kernel
theorem dJ9_max_7cf53_9 : decode cJ9_max_7cf53 9 = .ok (.iload_n 1, 1) := by decide +kernel
theorem dJ9_max_7cf53_10 : decode cJ9_max_7cf53 10 = .ok (.ireturn, 1) := by decide +kernel
theorem dJ9_min_7cf53_0 : decode cJ9_min_7cf53 0 = .ok (.iload_n 0, 1) := by decide +kernel
theorem dJ9_min_7cf53_1 : decode cJ9_min_7cf53 1 = .ok (.iload_n 1, 1) := by decide +kernel
theorem dJ9_min_7cf53_2 : decode cJ9_min_7cf53 2 = .ok (.if_icmp .gt 7, 3) := by decide +kernel
theorem dJ9_min_7cf53_5 : decode cJ9_min_7cf53 5 = .ok (.iload_n 0, 1) := by decide +kernel
theorem dJ9_min_7cf53_6 : decode cJ9_min_7cf53 6 = .ok (.goto 4, 3) := by decide +kernel
theorem dJ9_min_7cf53_9 : decode cJ9_min_7cf53 9 = .ok (.iload_n 1, 1) := by decide +kernel
theorem dJ9_min_7cf53_10 : decode cJ9_min_7cf53 10 = .ok (.ireturn, 1) := by decide +kernel
theorem dJxa1e45_init_da8c8_0 : decode cJxa1e45_init_da8c8 0 = .ok (.aload_n 0, 1) := by decide +kernel
theorem dJxa1e45_init_da8c8_1 : decode cJxa1e45_init_da8c8 1 = .ok (.invokespecial 1, 3) := by decide +kernel
theorem dJxa1e45_init_da8c8_4 : decode cJxa1e45_init_da8c8 4 = .ok (.return_, 1) := by decide +kernel
theorem dJxc12de_init_da8c8_0 : decode cJxc12de_init_da8c8 0 = .ok (.aload_n 0, 1) := by decide +kernel
theorem dJxc12de_init_da8c8_1 : decode cJxc12de_init_da8c8 1 = .ok (.invokespecial 1, 3) := by decide +kernel
theorem dJxc12de_init_da8c8_4 : decode cJxc12de_init_da8c8 4 = .ok (.aload_n 0, 1) := by decide +kernel
theorem dJxc12de_init_da8c8_5 : decode cJxc12de_init_da8c8 5 = .ok (.iconst 0, 1) := by decide +kernel
theorem dJxc12de_init_da8c8_6 : decode cJxc12de_init_da8c8 6 = .ok (.putfield 7, 3) := by decide +kernel
theorem dJxc12de_init_da8c8_9 : decode cJxc12de_init_da8c8 9 = .ok (.return_, 1) := by decide +kernel
theorem dJx4a65c_init_da8c8_0 : decode cJx4a65c_init_da8c8 0 = .ok (.aload_n 0, 1) := by decide +kernel
theorem dJx4a65c_init_da8c8_1 : decode cJx4a65c_init_da8c8 1 = .ok (.invokespecial 1, 3) := by decide +kernel
theorem dJx4a65c_init_da8c8_4 : decode cJx4a65c_init_da8c8 4 = .ok (.aload_n 0, 1) := by decide +kernel
theorem dJx4a65c_init_da8c8_5 : decode cJx4a65c_init_da8c8 5 = .ok (.getstatic 39, 3) := by decide +kernel
theorem dJx4a65c_init_da8c8_8 : decode cJx4a65c_init_da8c8 8 = .ok (.putfield 9, 3) := by decide +kernel
theorem dJx4a65c_init_da8c8_11 : decode cJx4a65c_init_da8c8 11 = .ok (.return_, 1) := by decide +kernel
theorem dJx4a65c_grow_92f84_0 : decode cJx4a65c_grow_92f84 0 = .ok (.aload_n 0, 1) := by decide +kernel
theorem dJx4a65c_grow_92f84_1 : decode cJx4a65c_grow_92f84 1 = .ok (.getfield 9, 3) := by decide +kernel
theorem dJx4a65c_grow_92f84_4 : decode cJx4a65c_grow_92f84 4 = .ok (.arraylength, 1) := by decide +kernel
theorem dJx4a65c_grow_92f84_5 : decode cJx4a65c_grow_92f84 5 = .ok (.istore_n 2, 1) := by decide +kernel
theorem dJx4a65c_grow_92f84_6 : decode cJx4a65c_grow_92f84 6 = .ok (.iload_n 2, 1) := by decide +kernel
theorem dJx4a65c_grow_92f84_7 : decode cJx4a65c_grow_92f84 7 = .ok (.ifCond .gt 13, 3) := by decide +kernel
theorem dJx4a65c_grow_92f84_10 : decode cJx4a65c_grow_92f84 10 = .ok (.aload_n 0, 1) := by decide +kernel
theorem dJx4a65c_grow_92f84_11 : decode cJx4a65c_grow_92f84 11 = .ok (.getfield 9, 3) := by decide +kernel
theorem dJx4a65c_grow_92f84_14 : decode cJx4a65c_grow_92f84 14 = .ok (.getstatic 39, 3) := by decide +kernel
theorem dJx4a65c_grow_92f84_17 : decode cJx4a65c_grow_92f84 17 = .ok (.if_acmp .eq 28, 3) := by decide +kernel
theorem dJx4a65c_grow_92f84_20 : decode cJx4a65c_grow_92f84 20 = .ok (.iload_n 2, 1) := by decide +kernel
theorem dJx4a65c_grow_92f84_21 : decode cJx4a65c_grow_92f84 21 = .ok (.iload_n 1, 1) := by decide +kernel
theorem dJx4a65c_grow_92f84_22 : decode cJx4a65c_grow_92f84 22 = .ok (.iload_n 2, 1) := by decide +kernel
theorem dJx4a65c_grow_92f84_23 : decode cJx4a65c_grow_92f84 23 = .ok (.isub, 1) := by decide +kernel
theorem dJx4a65c_grow_92f84_24 : decode cJx4a65c_grow_92f84 24 = .ok (.iload_n 2, 1) := by decide +kernel
theorem dJx4a65c_grow_92f84_25 : decode cJx4a65c_grow_92f84 25 = .ok (.iconst 1, 1) := by decide +kernel
theorem dJx4a65c_grow_92f84_26 : decode cJx4a65c_grow_92f84 26 = .ok (.ishr, 1) := by decide +kernel
theorem dJx4a65c_grow_92f84_27 : decode cJx4a65c_grow_92f84 27 = .ok (.invokestatic 73, 3) := by decide +kernel
theorem dJx4a65c_grow_92f84_30 : decode cJx4a65c_grow_92f84 30 = .ok (.istore_n 3, 1) := by decide +kernel
theorem dJx4a65c_grow_92f84_31 : decode cJx4a65c_grow_92f84 31 = .ok (.aload_n 0, 1) := by decide +kernel
theorem dJx4a65c_grow_92f84_32 : decode cJx4a65c_grow_92f84 32 = .ok (.aload_n 0, 1) := by decide +kernel
theorem dJx4a65c_grow_92f84_33 : decode cJx4a65c_grow_92f84 33 = .ok (.getfield 9, 3) := by decide +kernel
theorem dJx4a65c_grow_92f84_36 : decode cJx4a65c_grow_92f84 36 = .ok (.iload_n 3, 1) := by decide +kernel
theorem dJx4a65c_grow_92f84_37 : decode cJx4a65c_grow_92f84 37 = .ok (.invokestatic 66, 3) := by decide +kernel
theorem dJx4a65c_grow_92f84_40 : decode cJx4a65c_grow_92f84 40 = .ok (.dup_x1, 1) := by decide +kernel
theorem dJx4a65c_grow_92f84_41 : decode cJx4a65c_grow_92f84 41 = .ok (.putfield 9, 3) := by decide +kernel
theorem dJx4a65c_grow_92f84_44 : decode cJx4a65c_grow_92f84 44 = .ok (.areturn, 1) := by decide +kernel
theorem dJx4a65c_grow_92f84_45 : decode cJx4a65c_grow_92f84 45 = .ok (.aload_n 0, 1) := by decide +kernel
theorem dJx4a65c_grow_92f84_46 : decode cJx4a65c_grow_92f84 46 = .ok (.bipush 10, 2) := by decide +kernel
theorem dJx4a65c_grow_92f84_48 : decode cJx4a65c_grow_92f84 48 = .ok (.iload_n 1, 1) := by decide +kernel
theorem dJx4a65c_grow_92f84_49 : decode cJx4a65c_grow_92f84 49 = .ok (.invokestatic 79, 3) := by decide +kernel
theorem dJx4a65c_grow_92f84_52 : decode cJx4a65c_grow_92f84 52 = .ok (.anewarray 7, 3) := by decide +kernel
theorem dJx4a65c_grow_92f84_55 : decode cJx4a65c_grow_92f84 55 = .ok (.dup_x1, 1) := by decide +kernel
theorem dJx4a65c_grow_92f84_56 : decode cJx4a65c_grow_92f84 56 = .ok (.putfield 9, 3) := by decide +kernel
theorem dJx4a65c_grow_92f84_59 : decode cJx4a65c_grow_92f84 59 = .ok (.areturn, 1) := by decide +kernel
theorem dJx4a65c_grow_d5877_0 : decode cJx4a65c_grow_d5877 0 = .ok (.aload_n 0, 1) := by decide +kernel
theorem dJx4a65c_grow_d5877_1 : decode cJx4a65c_grow_d5877 1 = .ok (.aload_n 0, 1) := by decide +kernel
theorem dJx4a65c_grow_d5877_2 : decode cJx4a65c_grow_d5877 2 = .ok (.getfield 48, 3) := by decide +kernel
theorem dJx4a65c_grow_d5877_5 : decode cJx4a65c_grow_d5877 5 = .ok (.iconst 1, 1) := by decide +kernel
theorem dJx4a65c_grow_d5877_6 : decode cJx4a65c_grow_d5877 6 = .ok (.iadd, 1) := by decide +kernel
theorem dJx4a65c_grow_d5877_7 : decode cJx4a65c_grow_d5877 7 = .ok (.invokevirtual 69, 3) := by decide +kernel
theorem dJx4a65c_grow_d5877_10 : decode cJx4a65c_grow_d5877 10 = .ok (.areturn, 1) := by decide +kernel
theorem dJx4a65c_size_8abf5_0 : decode cJx4a65c_size_8abf5 0 = .ok (.aload_n 0, 1) := by decide +kernel
theorem dJx4a65c_size_8abf5_1 : decode cJx4a65c_size_8abf5 1 = .ok (.getfield 48, 3) := by decide +kernel
theorem dJx4a65c_size_8abf5_4 : decode cJx4a65c_size_8abf5 4 = .ok (.ireturn, 1) := by decide +kernel
theorem dJx4a65c_isEmpty_aae02_0 : decode cJx4a65c_isEmpty_aae02 0 = .ok (.aload_n 0, 1) := by decide +kernel
theorem dJx4a65c_isEmpty_aae02_1 : decode cJx4a65c_isEmpty_aae02 1 = .ok (.getfield 48, 3) := by decide +kernel
theorem dJx4a65c_isEmpty_aae02_4 : decode cJx4a65c_isEmpty_aae02 4 = .ok (.ifCond .ne 7, 3) := by decide +kernel
theorem dJx4a65c_isEmpty_aae02_7 : decode cJx4a65c_isEmpty_aae02 7 = .ok (.iconst 1, 1) := by decide +kernel
theorem dJx4a65c_isEmpty_aae02_8 : decode cJx4a65c_isEmpty_aae02 8 = .ok (.goto 4, 3) := by decide +kernel
theorem dJx4a65c_isEmpty_aae02_11 : decode cJx4a65c_isEmpty_aae02 11 = .ok (.iconst 0, 1) := by decide +kernel
theorem dJx4a65c_isEmpty_aae02_12 : decode cJx4a65c_isEmpty_aae02 12 = .ok (.ireturn, 1) := by decide +kernel
theorem dJx4a65c_elementData_915e3_0 : decode cJx4a65c_elementData_915e3 0 = .ok (.aload_n 0, 1) := by decide +kernel
theorem dJx4a65c_elementData_915e3_1 : decode cJx4a65c_elementData_915e3 1 = .ok (.getfield 9, 3) := by decide +kernel
theorem dJx4a65c_elementData_915e3_4 : decode cJx4a65c_elementData_915e3 4 = .ok (.iload_n 1, 1) := by decide +kernel
theorem dJx4a65c_elementData_915e3_5 : decode cJx4a65c_elementData_915e3 5 = .ok (.aaload, 1) := by decide +kernel
theorem dJx4a65c_elementData_915e3_6 : decode cJx4a65c_elementData_915e3 6 = .ok (.areturn, 1) := by decide +kernel
theorem dJx4a65c_get_915e3_0 : decode cJx4a65c_get_915e3 0 = .ok (.iload_n 1, 1) := by decide +kernel
theorem dJx4a65c_get_915e3_1 : decode cJx4a65c_get_915e3 1 = .ok (.aload_n 0, 1) := by decide +kernel
theorem dJx4a65c_get_915e3_2 : decode cJx4a65c_get_915e3 2 = .ok (.getfield 48, 3) := by decide +kernel
theorem dJx4a65c_get_915e3_5 : decode cJx4a65c_get_915e3 5 = .ok (.invokestatic 118, 3) := by decide +kernel
theorem dJx4a65c_get_915e3_8 : decode cJx4a65c_get_915e3 8 = .ok (.pop, 1) := by decide +kernel
theorem dJx4a65c_get_915e3_9 : decode cJx4a65c_get_915e3 9 = .ok (.aload_n 0, 1) := by decide +kernel
theorem dJx4a65c_get_915e3_10 : decode cJx4a65c_get_915e3 10 = .ok (.iload_n 1, 1) := by decide +kernel
theorem dJx4a65c_get_915e3_11 : decode cJx4a65c_get_915e3 11 = .ok (.invokevirtual 123, 3) := by decide +kernel
theorem dJx4a65c_get_915e3_14 : decode cJx4a65c_get_915e3 14 = .ok (.areturn, 1) := by decide +kernel
theorem dJx4a65c_add_72be8_0 : decode cJx4a65c_add_72be8 0 = .ok (.iload_n 3, 1) := by decide +kernel
theorem dJx4a65c_add_72be8_1 : decode cJx4a65c_add_72be8 1 = .ok (.aload_n 2, 1) := by decide +kernel
theorem dJx4a65c_add_72be8_2 : decode cJx4a65c_add_72be8 2 = .ok (.arraylength, 1) := by decide +kernel
theorem dJx4a65c_add_72be8_3 : decode cJx4a65c_add_72be8 3 = .ok (.if_icmp .ne 8, 3) := by decide +kernel
theorem dJx4a65c_add_72be8_6 : decode cJx4a65c_add_72be8 6 = .ok (.aload_n 0, 1) := by decide +kernel
theorem dJx4a65c_add_72be8_7 : decode cJx4a65c_add_72be8 7 = .ok (.invokevirtual 129, 3) := by decide +kernel
theorem dJx4a65c_add_72be8_10 : decode cJx4a65c_add_72be8 10 = .ok (.astore_n 2, 1) := by decide +kernel
theorem dJx4a65c_add_72be8_11 : decode cJx4a65c_add_72be8 11 = .ok (.aload_n 2, 1) := by decide +kernel
theorem dJx4a65c_add_72be8_12 : decode cJx4a65c_add_72be8 12 = .ok (.iload_n 3, 1) := by decide +kernel
theorem dJx4a65c_add_72be8_13 : decode cJx4a65c_add_72be8 13 = .ok (.aload_n 1, 1) := by decide +kernel
theorem dJx4a65c_add_72be8_14 : decode cJx4a65c_add_72be8 14 = .ok (.aastore, 1) := by decide +kernel
theorem dJx4a65c_add_72be8_15 : decode cJx4a65c_add_72be8 15 = .ok (.aload_n 0, 1) := by decide +kernel
theorem dJx4a65c_add_72be8_16 : decode cJx4a65c_add_72be8 16 = .ok (.iload_n 3, 1) := by decide +kernel
theorem dJx4a65c_add_72be8_17 : decode cJx4a65c_add_72be8 17 = .ok (.iconst 1, 1) := by decide +kernel
theorem dJx4a65c_add_72be8_18 : decode cJx4a65c_add_72be8 18 = .ok (.iadd, 1) := by decide +kernel
theorem dJx4a65c_add_72be8_19 : decode cJx4a65c_add_72be8 19 = .ok (.putfield 48, 3) := by decide +kernel
theorem dJx4a65c_add_72be8_22 : decode cJx4a65c_add_72be8 22 = .ok (.return_, 1) := by decide +kernel
theorem dJx4a65c_add_9ea2d_0 : decode cJx4a65c_add_9ea2d 0 = .ok (.aload_n 0, 1) := by decide +kernel
theorem dJx4a65c_add_9ea2d_1 : decode cJx4a65c_add_9ea2d 1 = .ok (.dup, 1) := by decide +kernel
theorem dJx4a65c_add_9ea2d_2 : decode cJx4a65c_add_9ea2d 2 = .ok (.getfield 63, 3) := by decide +kernel
theorem dJx4a65c_add_9ea2d_5 : decode cJx4a65c_add_9ea2d 5 = .ok (.iconst 1, 1) := by decide +kernel
theorem dJx4a65c_add_9ea2d_6 : decode cJx4a65c_add_9ea2d 6 = .ok (.iadd, 1) := by decide +kernel
theorem dJx4a65c_add_9ea2d_7 : decode cJx4a65c_add_9ea2d 7 = .ok (.putfield 63, 3) := by decide +kernel
theorem dJx4a65c_add_9ea2d_10 : decode cJx4a65c_add_9ea2d 10 = .ok (.aload_n 0, 1) := by decide +kernel
theorem dJx4a65c_add_9ea2d_11 : decode cJx4a65c_add_9ea2d 11 = .ok (.aload_n 1, 1) := by decide +kernel
theorem dJx4a65c_add_9ea2d_12 : decode cJx4a65c_add_9ea2d 12 = .ok (.aload_n 0, 1) := by decide +kernel
theorem dJx4a65c_add_9ea2d_13 : decode cJx4a65c_add_9ea2d 13 = .ok (.getfield 9, 3) := by decide +kernel
theorem dJx4a65c_add_9ea2d_16 : decode cJx4a65c_add_9ea2d 16 = .ok (.aload_n 0, 1) := by decide +kernel
theorem dJx4a65c_add_9ea2d_17 : decode cJx4a65c_add_9ea2d 17 = .ok (.getfield 48, 3) := by decide +kernel
theorem dJx4a65c_add_9ea2d_20 : decode cJx4a65c_add_9ea2d 20 = .ok (.invokevirtual 131, 3) := by decide +kernel
theorem dJx4a65c_add_9ea2d_23 : decode cJx4a65c_add_9ea2d 23 = .ok (.iconst 1, 1) := by decide +kernel
theorem dJx4a65c_add_9ea2d_24 : decode cJx4a65c_add_9ea2d 24 = .ok (.ireturn, 1) := by decide +kernel
theorem dJx4a65c_remove_915e3_0 : decode cJx4a65c_remove_915e3 0 = .ok (.iload_n 1, 1) := by decide +kernel
theorem dJx4a65c_remove_915e3_1 : decode cJx4a65c_remove_915e3 1 = .ok (.aload_n 0, 1) := by decide +kernel
theorem dJx4a65c_remove_915e3_2 : decode cJx4a65c_remove_915e3 2 = .ok (.getfield 48, 3) := by decide +kernel
theorem dJx4a65c_remove_915e3_5 : decode cJx4a65c_remove_915e3 5 = .ok (.invokestatic 118, 3) := by decide +kernel
theorem dJx4a65c_remove_915e3_8 : decode cJx4a65c_remove_915e3 8 = .ok (.pop, 1) := by decide +kernel
theorem dJx4a65c_remove_915e3_9 : decode cJx4a65c_remove_915e3 9 = .ok (.aload_n 0, 1) := by decide +kernel
theorem dJx4a65c_remove_915e3_10 : decode cJx4a65c_remove_915e3 10 = .ok (.getfield 9, 3) := by decide +kernel
theorem dJx4a65c_remove_915e3_13 : decode cJx4a65c_remove_915e3 13 = .ok (.astore_n 2, 1) := by decide +kernel
theorem dJx4a65c_remove_915e3_14 : decode cJx4a65c_remove_915e3 14 = .ok (.aload_n 2, 1) := by decide +kernel
theorem dJx4a65c_remove_915e3_15 : decode cJx4a65c_remove_915e3 15 = .ok (.iload_n 1, 1) := by decide +kernel
theorem dJx4a65c_remove_915e3_16 : decode cJx4a65c_remove_915e3 16 = .ok (.aaload, 1) := by decide +kernel
theorem dJx4a65c_remove_915e3_17 : decode cJx4a65c_remove_915e3 17 = .ok (.astore_n 3, 1) := by decide +kernel
theorem dJx4a65c_remove_915e3_18 : decode cJx4a65c_remove_915e3 18 = .ok (.aload_n 0, 1) := by decide +kernel
theorem dJx4a65c_remove_915e3_19 : decode cJx4a65c_remove_915e3 19 = .ok (.aload_n 2, 1) := by decide +kernel
theorem dJx4a65c_remove_915e3_20 : decode cJx4a65c_remove_915e3 20 = .ok (.iload_n 1, 1) := by decide +kernel
theorem dJx4a65c_remove_915e3_21 : decode cJx4a65c_remove_915e3 21 = .ok (.invokevirtual 144, 3) := by decide +kernel
theorem dJx4a65c_remove_915e3_24 : decode cJx4a65c_remove_915e3 24 = .ok (.aload_n 3, 1) := by decide +kernel
theorem dJx4a65c_remove_915e3_25 : decode cJx4a65c_remove_915e3 25 = .ok (.areturn, 1) := by decide +kernel
theorem dJx4a65c_fastRemove_b59b0_0 : decode cJx4a65c_fastRemove_b59b0 0 = .ok (.aload_n 0, 1) := by decide +kernel
theorem dJx4a65c_fastRemove_b59b0_1 : decode cJx4a65c_fastRemove_b59b0 1 = .ok (.dup, 1) := by decide +kernel
theorem dJx4a65c_fastRemove_b59b0_2 : decode cJx4a65c_fastRemove_b59b0 2 = .ok (.getfield 63, 3) := by decide +kernel
theorem dJx4a65c_fastRemove_b59b0_5 : decode cJx4a65c_fastRemove_b59b0 5 = .ok (.iconst 1, 1) := by decide +kernel
theorem dJx4a65c_fastRemove_b59b0_6 : decode cJx4a65c_fastRemove_b59b0 6 = .ok (.iadd, 1) := by decide +kernel
theorem dJx4a65c_fastRemove_b59b0_7 : decode cJx4a65c_fastRemove_b59b0 7 = .ok (.putfield 63, 3) := by decide +kernel
theorem dJx4a65c_fastRemove_b59b0_10 : decode cJx4a65c_fastRemove_b59b0 10 = .ok (.aload_n 0, 1) := by decide +kernel
theorem dJx4a65c_fastRemove_b59b0_11 : decode cJx4a65c_fastRemove_b59b0 11 = .ok (.getfield 48, 3) := by decide +kernel
theorem dJx4a65c_fastRemove_b59b0_14 : decode cJx4a65c_fastRemove_b59b0 14 = .ok (.iconst 1, 1) := by decide +kernel
theorem dJx4a65c_fastRemove_b59b0_15 : decode cJx4a65c_fastRemove_b59b0 15 = .ok (.isub, 1) := by decide +kernel
theorem dJx4a65c_fastRemove_b59b0_16 : decode cJx4a65c_fastRemove_b59b0 16 = .ok (.dup, 1) := by decide +kernel
theorem dJx4a65c_fastRemove_b59b0_17 : decode cJx4a65c_fastRemove_b59b0 17 = .ok (.istore_n 3, 1) := by decide +kernel
theorem dJx4a65c_fastRemove_b59b0_18 : decode cJx4a65c_fastRemove_b59b0 18 = .ok (.iload_n 2, 1) := by decide +kernel
theorem dJx4a65c_fastRemove_b59b0_19 : decode cJx4a65c_fastRemove_b59b0 19 = .ok (.if_icmp .le 15, 3) := by decide +kernel
theorem dJx4a65c_fastRemove_b59b0_22 : decode cJx4a65c_fastRemove_b59b0 22 = .ok (.aload_n 1, 1) := by decide +kernel
theorem dJx4a65c_fastRemove_b59b0_23 : decode cJx4a65c_fastRemove_b59b0 23 = .ok (.iload_n 2, 1) := by decide +kernel
theorem dJx4a65c_fastRemove_b59b0_24 : decode cJx4a65c_fastRemove_b59b0 24 = .ok (.iconst 1, 1) := by decide +kernel
theorem dJx4a65c_fastRemove_b59b0_25 : decode cJx4a65c_fastRemove_b59b0 25 = .ok (.iadd, 1) := by decide +kernel
theorem dJx4a65c_fastRemove_b59b0_26 : decode cJx4a65c_fastRemove_b59b0 26 = .ok (.aload_n 1, 1) := by decide +kernel
theorem dJx4a65c_fastRemove_b59b0_27 : decode cJx4a65c_fastRemove_b59b0 27 = .ok (.iload_n 2, 1) := by decide +kernel
theorem dJx4a65c_fastRemove_b59b0_28 : decode cJx4a65c_fastRemove_b59b0 28 = .ok (.iload_n 3, 1) := by decide +kernel
theorem dJx4a65c_fastRemove_b59b0_29 : decode cJx4a65c_fastRemove_b59b0 29 = .ok (.iload_n 2, 1) := by decide +kernel
theorem dJx4a65c_fastRemove_b59b0_30 : decode cJx4a65c_fastRemove_b59b0 30 = .ok (.isub, 1) := by decide +kernel
theorem dJx4a65c_fastRemove_b59b0_31 : decode cJx4a65c_fastRemove_b59b0 31 = .ok (.invokestatic 112, 3) := by decide +kernel
theorem dJx4a65c_fastRemove_b59b0_34 : decode cJx4a65c_fastRemove_b59b0 34 = .ok (.aload_n 1, 1) := by decide +kernel
theorem dJx4a65c_fastRemove_b59b0_35 : decode cJx4a65c_fastRemove_b59b0 35 = .ok (.aload_n 0, 1) := by decide +kernel
theorem dJx4a65c_fastRemove_b59b0_36 : decode cJx4a65c_fastRemove_b59b0 36 = .ok (.iload_n 3, 1) := by decide +kernel
theorem dJx4a65c_fastRemove_b59b0_37 : decode cJx4a65c_fastRemove_b59b0 37 = .ok (.dup_x1, 1) := by decide +kernel
theorem dJx4a65c_fastRemove_b59b0_38 : decode cJx4a65c_fastRemove_b59b0 38 = .ok (.putfield 48, 3) := by decide +kernel
theorem dJx4a65c_fastRemove_b59b0_41 : decode cJx4a65c_fastRemove_b59b0 41 = .ok (.aconst_null, 1) := by decide +kernel
theorem dJx4a65c_fastRemove_b59b0_42 : decode cJx4a65c_fastRemove_b59b0 42 = .ok (.aastore, 1) := by decide +kernel
theorem dJx4a65c_fastRemove_b59b0_43 : decode cJx4a65c_fastRemove_b59b0 43 = .ok (.return_, 1) := by decide +kernel
theorem dJ7_copyOf_1904c_0 : decode cJ7_copyOf_1904c 0 = .ok (.aload_n 0, 1) := by decide +kernel
theorem dJ7_copyOf_1904c_1 : decode cJ7_copyOf_1904c 1 = .ok (.iload_n 1, 1) := by decide +kernel
theorem dJ7_copyOf_1904c_2 : decode cJ7_copyOf_1904c 2 = .ok (.aload_n 0, 1) := by decide +kernel
theorem dJ7_copyOf_1904c_3 : decode cJ7_copyOf_1904c 3 = .ok (.invokevirtual 86, 3) := by decide +kernel
theorem dJ7_copyOf_1904c_6 : decode cJ7_copyOf_1904c 6 = .ok (.invokestatic 300, 3) := by decide +kernel
theorem dJ7_copyOf_1904c_9 : decode cJ7_copyOf_1904c 9 = .ok (.areturn, 1) := by decide +kernel
theorem dJ7_copyOf_6403c_0 : decode cJ7_copyOf_6403c 0 = .ok (.aload_n 2, 1) := by decide +kernel
theorem dJ7_copyOf_6403c_1 : decode cJ7_copyOf_6403c 1 = .ok (.ldc 110, 2) := by decide +kernel
theorem dJ7_copyOf_6403c_3 : decode cJ7_copyOf_6403c 3 = .ok (.if_acmp .ne 10, 3) := by decide +kernel
theorem dJ7_copyOf_6403c_6 : decode cJ7_copyOf_6403c 6 = .ok (.iload_n 1, 1) := by decide +kernel
theorem dJ7_copyOf_6403c_7 : decode cJ7_copyOf_6403c 7 = .ok (.anewarray 2, 3) := by decide +kernel
theorem dJ7_copyOf_6403c_10 : decode cJ7_copyOf_6403c 10 = .ok (.goto 14, 3) := by decide +kernel
theorem dJ7_copyOf_6403c_13 : decode cJ7_copyOf_6403c 13 = .ok (.aload_n 2, 1) := by decide +kernel
theorem dJ7_copyOf_6403c_14 : decode cJ7_copyOf_6403c 14 = .ok (.invokevirtual 90, 3) := by decide +kernel
theorem dJ7_copyOf_6403c_17 : decode cJ7_copyOf_6403c 17 = .ok (.iload_n 1, 1) := by decide +kernel
theorem dJ7_copyOf_6403c_18 : decode cJ7_copyOf_6403c 18 = .ok (.invokestatic 95, 3) := by decide +kernel
theorem dJ7_copyOf_6403c_21 : decode cJ7_copyOf_6403c 21 = .ok (.checkcast 110, 3) := by decide +kernel
theorem dJ7_copyOf_6403c_24 : decode cJ7_copyOf_6403c 24 = .ok (.astore_n 3, 1) := by decide +kernel
theorem dJ7_copyOf_6403c_25 : decode cJ7_copyOf_6403c 25 = .ok (.aload_n 0, 1) := by decide +kernel
theorem dJ7_copyOf_6403c_26 : decode cJ7_copyOf_6403c 26 = .ok (.iconst 0, 1) := by decide +kernel
theorem dJ7_copyOf_6403c_27 : decode cJ7_copyOf_6403c 27 = .ok (.aload_n 3, 1) := by decide +kernel
theorem dJ7_copyOf_6403c_28 : decode cJ7_copyOf_6403c 28 = .ok (.iconst 0, 1) := by decide +kernel
theorem dJ7_copyOf_6403c_29 : decode cJ7_copyOf_6403c 29 = .ok (.aload_n 0, 1) := by decide +kernel
theorem dJ7_copyOf_6403c_30 : decode cJ7_copyOf_6403c 30 = .ok (.arraylength, 1) := by decide +kernel
theorem dJ7_copyOf_6403c_31 : decode cJ7_copyOf_6403c 31 = .ok (.iload_n 1, 1) := by decide +kernel
theorem dJ7_copyOf_6403c_32 : decode cJ7_copyOf_6403c 32 = .ok (.invokestatic 304, 3) := by decide +kernel
theorem dJ7_copyOf_6403c_35 : decode cJ7_copyOf_6403c 35 = .ok (.invokestatic 150, 3) := by decide +kernel
theorem dJ7_copyOf_6403c_38 : decode cJ7_copyOf_6403c 38 = .ok (.aload_n 3, 1) := by decide +kernel
theorem dJ7_copyOf_6403c_39 : decode cJ7_copyOf_6403c 39 = .ok (.areturn, 1) := by decide +kernel
theorem dJ15_checkIndex_7cf53_0 : decode cJ15_checkIndex_7cf53 0 = .ok (.iload_n 0, 1) := by decide +kernel
theorem dJ15_checkIndex_7cf53_1 : decode cJ15_checkIndex_7cf53 1 = .ok (.iload_n 1, 1) := by decide +kernel
theorem dJ15_checkIndex_7cf53_2 : decode cJ15_checkIndex_7cf53 2 = .ok (.aconst_null, 1) := by decide +kernel
theorem dJ15_checkIndex_7cf53_3 : decode cJ15_checkIndex_7cf53 3 = .ok (.invokestatic 105, 3) := by decide +kernel
theorem dJ15_checkIndex_7cf53_6 : decode cJ15_checkIndex_7cf53 6 = .ok (.ireturn, 1) := by decide +kernel
theorem dJ8_newLength_cabcc_0 : decode cJ8_newLength_cabcc 0 = .ok (.iload_n 0, 1) := by decide +kernel
theorem dJ8_newLength_cabcc_1 : decode cJ8_newLength_cabcc 1 = .ok (.iload_n 1, 1) := by decide +kernel
theorem dJ8_newLength_cabcc_2 : decode cJ8_newLength_cabcc 2 = .ok (.iload_n 2, 1) := by decide +kernel
theorem dJ8_newLength_cabcc_3 : decode cJ8_newLength_cabcc 3 = .ok (.invokestatic 194, 3) := by decide +kernel
theorem dJ8_newLength_cabcc_6 : decode cJ8_newLength_cabcc 6 = .ok (.iadd, 1) := by decide +kernel
theorem dJ8_newLength_cabcc_7 : decode cJ8_newLength_cabcc 7 = .ok (.istore_n 3, 1) := by decide +kernel
theorem dJ8_newLength_cabcc_8 : decode cJ8_newLength_cabcc 8 = .ok (.iconst 0, 1) := by decide +kernel
theorem dJ8_newLength_cabcc_9 : decode cJ8_newLength_cabcc 9 = .ok (.iload_n 3, 1) := by decide +kernel
theorem dJ8_newLength_cabcc_10 : decode cJ8_newLength_cabcc 10 = .ok (.if_icmp .ge 11, 3) := by decide +kernel
theorem dJ8_newLength_cabcc_13 : decode cJ8_newLength_cabcc 13 = .ok (.iload_n 3, 1) := by decide +kernel
theorem dJ8_newLength_cabcc_14 : decode cJ8_newLength_cabcc 14 = .ok (.ldc 200, 2) := by decide +kernel
theorem dJ8_newLength_cabcc_16 : decode cJ8_newLength_cabcc 16 = .ok (.if_icmp .gt 5, 3) := by decide +kernel
theorem dJ8_newLength_cabcc_19 : decode cJ8_newLength_cabcc 19 = .ok (.iload_n 3, 1) := by decide +kernel
theorem dJ8_newLength_cabcc_20 : decode cJ8_newLength_cabcc 20 = .ok (.ireturn, 1) := by decide +kernel
theorem dJ8_newLength_cabcc_21 : decode cJ8_newLength_cabcc 21 = .ok (.iload_n 0, 1) := by decide +kernel
theorem dJ8_newLength_cabcc_22 : decode cJ8_newLength_cabcc 22 = .ok (.iload_n 1, 1) := by decide +kernel
theorem dJ8_newLength_cabcc_23 : decode cJ8_newLength_cabcc 23 = .ok (.invokestatic 201, 3) := by decide +kernel
theorem dJ8_newLength_cabcc_26 : decode cJ8_newLength_cabcc 26 = .ok (.ireturn, 1) := by decide +kernel
theorem dJ8_hugeLength_7cf53_0 : decode cJ8_hugeLength_7cf53 0 = .ok (.iload_n 0, 1) := by decide +kernel
theorem dJ8_hugeLength_7cf53_1 : decode cJ8_hugeLength_7cf53 1 = .ok (.iload_n 1, 1) := by decide +kernel
theorem dJ8_hugeLength_7cf53_2 : decode cJ8_hugeLength_7cf53 2 = .ok (.iadd, 1) := by decide +kernel
theorem dJ8_hugeLength_7cf53_3 : decode cJ8_hugeLength_7cf53 3 = .ok (.istore_n 2, 1) := by decide +kernel
theorem dJ8_hugeLength_7cf53_4 : decode cJ8_hugeLength_7cf53 4 = .ok (.iload_n 2, 1) := by decide +kernel
theorem dJ8_hugeLength_7cf53_5 : decode cJ8_hugeLength_7cf53 5 = .ok (.ifCond .ge 44, 3) := by decide +kernel
theorem dJ8_hugeLength_7cf53_8 : decode cJ8_hugeLength_7cf53 8 = .ok (.new 204, 3) := by decide +kernel
theorem dJ8_hugeLength_7cf53_11 : decode cJ8_hugeLength_7cf53 11 = .ok (.dup, 1) := by decide +kernel
theorem dJ8_hugeLength_7cf53_12 : decode cJ8_hugeLength_7cf53 12 = .ok (.new 89, 3) := by decide +kernel
theorem dJ8_hugeLength_7cf53_15 : decode cJ8_hugeLength_7cf53 15 = .ok (.dup, 1) := by decide +kernel
theorem dJ8_hugeLength_7cf53_16 : decode cJ8_hugeLength_7cf53 16 = .ok (.invokespecial 91, 3) := by decide +kernel
theorem dJ8_hugeLength_7cf53_19 : decode cJ8_hugeLength_7cf53 19 = .ok (.ldc 206, 2) := by decide +kernel
theorem dJ8_hugeLength_7cf53_21 : decode cJ8_hugeLength_7cf53 21 = .ok (.invokevirtual 94, 3) := by decide +kernel
theorem dJ8_hugeLength_7cf53_24 : decode cJ8_hugeLength_7cf53 24 = .ok (.iload_n 0, 1) := by decide +kernel
theorem dJ8_hugeLength_7cf53_25 : decode cJ8_hugeLength_7cf53 25 = .ok (.invokevirtual 98, 3) := by decide +kernel
theorem dJ8_hugeLength_7cf53_28 : decode cJ8_hugeLength_7cf53 28 = .ok (.ldc 208, 2) := by decide +kernel
theorem dJ8_hugeLength_7cf53_30 : decode cJ8_hugeLength_7cf53 30 = .ok (.invokevirtual 94, 3) := by decide +kernel
theorem dJ8_hugeLength_7cf53_33 : decode cJ8_hugeLength_7cf53 33 = .ok (.iload_n 1, 1) := by decide +kernel
theorem dJ8_hugeLength_7cf53_34 : decode cJ8_hugeLength_7cf53 34 = .ok (.invokevirtual 98, 3) := by decide +kernel
theorem dJ8_hugeLength_7cf53_37 : decode cJ8_hugeLength_7cf53 37 = .ok (.ldc 210, 2) := by decide +kernel
theorem dJ8_hugeLength_7cf53_39 : decode cJ8_hugeLength_7cf53 39 = .ok (.invokevirtual 94, 3) := by decide +kernel
theorem dJ8_hugeLength_7cf53_42 : decode cJ8_hugeLength_7cf53 42 = .ok (.invokevirtual 101, 3) := by decide +kernel
theorem dJ8_hugeLength_7cf53_45 : decode cJ8_hugeLength_7cf53 45 = .ok (.invokespecial 212, 3) := by decide +kernel
theorem dJ8_hugeLength_7cf53_48 : decode cJ8_hugeLength_7cf53 48 = .ok (.athrow, 1) := by decide +kernel
theorem dJ8_hugeLength_7cf53_49 : decode cJ8_hugeLength_7cf53 49 = .ok (.iload_n 2, 1) := by decide +kernel
theorem dJ8_hugeLength_7cf53_50 : decode cJ8_hugeLength_7cf53 50 = .ok (.ldc 200, 2) := by decide +kernel
theorem dJ8_hugeLength_7cf53_52 : decode cJ8_hugeLength_7cf53 52 = .ok (.if_icmp .gt 6, 3) := by decide +kernel
theorem dJ8_hugeLength_7cf53_55 : decode cJ8_hugeLength_7cf53 55 = .ok (.ldc 200, 2) := by decide +kernel
theorem dJ8_hugeLength_7cf53_57 : decode cJ8_hugeLength_7cf53 57 = .ok (.ireturn, 1) := by decide +kernel
theorem dJ8_hugeLength_7cf53_58 : decode cJ8_hugeLength_7cf53 58 = .ok (.iload_n 2, 1) := by decide +kernel
theorem dJ8_hugeLength_7cf53_59 : decode cJ8_hugeLength_7cf53 59 = .ok (.ireturn, 1) := by decide +kernel
theorem dJ3_checkIndex_8e157_0 : decode cJ3_checkIndex_8e157 0 = .ok (.iload_n 0, 1) := by decide +kernel
theorem dJ3_checkIndex_8e157_1 : decode cJ3_checkIndex_8e157 1 = .ok (.ifCond .lt 8, 3) := by decide +kernel
theorem dJ3_checkIndex_8e157_4 : decode cJ3_checkIndex_8e157 4 = .ok (.iload_n 0, 1) := by decide +kernel
theorem dJ3_checkIndex_8e157_5 : decode cJ3_checkIndex_8e157 5 = .ok (.iload_n 1, 1) := by decide +kernel
theorem dJ3_checkIndex_8e157_6 : decode cJ3_checkIndex_8e157 6 = .ok (.if_icmp .lt 10, 3) := by decide +kernel
theorem dJ3_checkIndex_8e157_9 : decode cJ3_checkIndex_8e157 9 = .ok (.aload_n 2, 1) := by decide +kernel
theorem dJ3_checkIndex_8e157_10 : decode cJ3_checkIndex_8e157 10 = .ok (.iload_n 0, 1) := by decide +kernel
theorem dJ3_checkIndex_8e157_11 : decode cJ3_checkIndex_8e157 11 = .ok (.iload_n 1, 1) := by decide +kernel
theorem dJ3_checkIndex_8e157_12 : decode cJ3_checkIndex_8e157 12 = .ok (.invokestatic 95, 3) := by decide +kernel
theorem dJ3_checkIndex_8e157_15 : decode cJ3_checkIndex_8e157 15 = .ok (.athrow, 1) := by decide +kernel
theorem dJ3_checkIndex_8e157_16 : decode cJ3_checkIndex_8e157 16 = .ok (.iload_n 0, 1) := by decide +kernel
theorem dJ3_checkIndex_8e157_17 : decode cJ3_checkIndex_8e157 17 = .ok (.ireturn, 1) := by decide +kernel
theorem dX0_init_0 : decode cX0_init 0 = .ok (.aload_n 0, 1) := by decide +kernel
theorem dX0_init_1 : decode cX0_init 1 = .ok (.invokespecial 1, 3) := by decide +kernel
theorem dX0_init_4 : decode cX0_init 4 = .ok (.aload_n 0, 1) := by decide +kernel
theorem dX0_init_5 : decode cX0_init 5 = .ok (.iconst 0, 1) := by decide +kernel
theorem dX0_init_6 : decode cX0_init 6 = .ok (.putfield 7, 3) := by decide +kernel
theorem dX0_init_9 : decode cX0_init 9 = .ok (.aload_n 0, 1) := by decide +kernel
theorem dX0_init_10 : decode cX0_init 10 = .ok (.iload_n 1, 1) := by decide +kernel
theorem dX0_init_11 : decode cX0_init 11 = .ok (.putfield 13, 3) := by decide +kernel
theorem dX0_init_14 : decode cX0_init 14 = .ok (.return_, 1) := by decide +kernel
theorem dX1_init_0 : decode cX1_init 0 = .ok (.aload_n 0, 1) := by decide +kernel
theorem dX1_init_1 : decode cX1_init 1 = .ok (.invokespecial 1, 3) := by decide +kernel
theorem dX1_init_4 : decode cX1_init 4 = .ok (.aload_n 0, 1) := by decide +kernel
theorem dX1_init_5 : decode cX1_init 5 = .ok (.iload_n 1, 1) := by decide +kernel
theorem dX1_init_6 : decode cX1_init 6 = .ok (.putfield 7, 3) := by decide +kernel
theorem dX1_init_9 : decode cX1_init 9 = .ok (.aload_n 0, 1) := by decide +kernel
theorem dX1_init_10 : decode cX1_init 10 = .ok (.iload_n 2, 1) := by decide +kernel
theorem dX1_init_11 : decode cX1_init 11 = .ok (.putfield 13, 3) := by decide +kernel
theorem dX1_init_14 : decode cX1_init 14 = .ok (.aload_n 0, 1) := by decide +kernel
theorem dX1_init_15 : decode cX1_init 15 = .ok (.iload_n 3, 1) := by decide +kernel
theorem dX1_init_16 : decode cX1_init 16 = .ok (.putfield 17, 3) := by decide +kernel
theorem dX1_init_19 : decode cX1_init 19 = .ok (.return_, 1) := by decide +kernel
theorem dX2_init_0 : decode cX2_init 0 = .ok (.aload_n 0, 1) := by decide +kernel
theorem dX2_init_1 : decode cX2_init 1 = .ok (.invokespecial 3, 3) := by decide +kernel
theorem dX2_init_4 : decode cX2_init 4 = .ok (.aload_n 0, 1) := by decide +kernel
theorem dX2_init_5 : decode cX2_init 5 = .ok (.iconst 0, 1) := by decide +kernel
theorem dX2_init_6 : decode cX2_init 6 = .ok (.putfield 9, 3) := by decide +kernel
theorem dX2_init_9 : decode cX2_init 9 = .ok (.aload_n 0, 1) := by decide +kernel
theorem dX2_init_10 : decode cX2_init 10 = .ok (.iconst 1, 1) := by decide +kernel
theorem dX2_init_11 : decode cX2_init 11 = .ok (.putfield 15, 3) := by decide +kernel
theorem dX2_init_14 : decode cX2_init 14 = .ok (.aload_n 0, 1) := by decide +kernel
theorem dX2_init_15 : decode cX2_init 15 = .ok (.bipush 115, 2) := by decide +kernel
theorem dX2_init_17 : decode cX2_init 17 = .ok (.putfield 19, 3) := by decide +kernel
theorem dX2_init_20 : decode cX2_init 20 = .ok (.aload_n 0, 1) := by decide +kernel
theorem dX2_init_21 : decode cX2_init 21 = .ok (.iconst 0, 1) := by decide +kernel
theorem dX2_init_22 : decode cX2_init 22 = .ok (.putfield 23, 3) := by decide +kernel
theorem dX2_init_25 : decode cX2_init 25 = .ok (.aload_n 0, 1) := by decide +kernel
theorem dX2_init_26 : decode cX2_init 26 = .ok (.iload_n 1, 1) := by decide +kernel
theorem dX2_init_27 : decode cX2_init 27 = .ok (.putfield 26, 3) := by decide +kernel
theorem dX2_init_30 : decode cX2_init 30 = .ok (.aload_n 0, 1) := by decide +kernel
theorem dX2_init_31 : decode cX2_init 31 = .ok (.iload_n 2, 1) := by decide +kernel
theorem dX2_init_32 : decode cX2_init 32 = .ok (.putfield 29, 3) := by decide +kernel
theorem dX2_init_35 : decode cX2_init 35 = .ok (.return_, 1) := by decide +kernel
theorem dX2_cleanForOneTick_0 : decode cX2_cleanForOneTick 0 = .ok (.aload_n 0, 1) := by decide +kernel
theorem dX2_cleanForOneTick_1 : decode cX2_cleanForOneTick 1 = .ok (.dup, 1) := by decide +kernel
theorem dX2_cleanForOneTick_2 : decode cX2_cleanForOneTick 2 = .ok (.getfield 23, 3) := by decide +kernel
theorem dX2_cleanForOneTick_5 : decode cX2_cleanForOneTick 5 = .ok (.iconst 1, 1) := by decide +kernel
theorem dX2_cleanForOneTick_6 : decode cX2_cleanForOneTick 6 = .ok (.isub, 1) := by decide +kernel
theorem dX2_cleanForOneTick_7 : decode cX2_cleanForOneTick 7 = .ok (.putfield 23, 3) := by decide +kernel
theorem dX2_cleanForOneTick_10 : decode cX2_cleanForOneTick 10 = .ok (.aload_n 0, 1) := by decide +kernel
theorem dX2_cleanForOneTick_11 : decode cX2_cleanForOneTick 11 = .ok (.getfield 23, 3) := by decide +kernel
theorem dX2_cleanForOneTick_14 : decode cX2_cleanForOneTick 14 = .ok (.ifCond .gt 9, 3) := by decide +kernel
theorem dX2_cleanForOneTick_17 : decode cX2_cleanForOneTick 17 = .ok (.aload_n 0, 1) := by decide +kernel
theorem dX2_cleanForOneTick_18 : decode cX2_cleanForOneTick 18 = .ok (.bipush 115, 2) := by decide +kernel
theorem dX2_cleanForOneTick_20 : decode cX2_cleanForOneTick 20 = .ok (.putfield 19, 3) := by decide +kernel
theorem dX2_cleanForOneTick_23 : decode cX2_cleanForOneTick 23 = .ok (.return_, 1) := by decide +kernel
theorem dX3_init_0 : decode cX3_init 0 = .ok (.aload_n 0, 1) := by decide +kernel
theorem dX3_init_1 : decode cX3_init 1 = .ok (.invokespecial 3, 3) := by decide +kernel
theorem dX3_init_4 : decode cX3_init 4 = .ok (.aload_n 0, 1) := by decide +kernel
theorem dX3_init_5 : decode cX3_init 5 = .ok (.bipush 119, 2) := by decide +kernel
theorem dX3_init_7 : decode cX3_init 7 = .ok (.putfield 9, 3) := by decide +kernel
theorem dX3_init_10 : decode cX3_init 10 = .ok (.aload_n 0, 1) := by decide +kernel
theorem dX3_init_11 : decode cX3_init 11 = .ok (.aconst_null, 1) := by decide +kernel
theorem dX3_init_12 : decode cX3_init 12 = .ok (.putfield 15, 3) := by decide +kernel
theorem dX3_init_15 : decode cX3_init 15 = .ok (.aload_n 0, 1) := by decide +kernel
theorem dX3_init_16 : decode cX3_init 16 = .ok (.iconst 0, 1) := by decide +kernel
theorem dX3_init_17 : decode cX3_init 17 = .ok (.putfield 19, 3) := by decide +kernel
theorem dX3_init_20 : decode cX3_init 20 = .ok (.aload_n 0, 1) := by decide +kernel
theorem dX3_init_21 : decode cX3_init 21 = .ok (.iload_n 1, 1) := by decide +kernel
theorem dX3_init_22 : decode cX3_init 22 = .ok (.putfield 23, 3) := by decide +kernel
theorem dX3_init_25 : decode cX3_init 25 = .ok (.aload_n 0, 1) := by decide +kernel
theorem dX3_init_26 : decode cX3_init 26 = .ok (.aload_n 2, 1) := by decide +kernel
theorem dX3_init_27 : decode cX3_init 27 = .ok (.putfield 26, 3) := by decide +kernel
theorem dX3_init_30 : decode cX3_init 30 = .ok (.aload_n 0, 1) := by decide +kernel
theorem dX3_init_31 : decode cX3_init 31 = .ok (.iload_n 3, 1) := by decide +kernel
theorem dX3_init_32 : decode cX3_init 32 = .ok (.putfield 30, 3) := by decide +kernel
theorem dX3_init_35 : decode cX3_init 35 = .ok (.aload_n 0, 1) := by decide +kernel
theorem dX3_init_36 : decode cX3_init 36 = .ok (.iload 4, 2) := by decide +kernel
theorem dX3_init_38 : decode cX3_init 38 = .ok (.putfield 33, 3) := by decide +kernel
theorem dX3_init_41 : decode cX3_init 41 = .ok (.return_, 1) := by decide +kernel
theorem dX3_isIn_0 : decode cX3_isIn 0 = .ok (.aload_n 0, 1) := by decide +kernel
theorem dX3_isIn_1 : decode cX3_isIn 1 = .ok (.getfield 9, 3) := by decide +kernel
theorem dX3_isIn_4 : decode cX3_isIn 4 = .ok (.bipush 97, 2) := by decide +kernel
theorem dX3_isIn_6 : decode cX3_isIn 6 = .ok (.if_icmp .ne 15, 3) := by decide +kernel
theorem dX3_isIn_9 : decode cX3_isIn 9 = .ok (.aload_n 0, 1) := by decide +kernel
theorem dX3_isIn_10 : decode cX3_isIn 10 = .ok (.getfield 15, 3) := by decide +kernel
theorem dX3_isIn_13 : decode cX3_isIn 13 = .ok (.aload_n 1, 1) := by decide +kernel
theorem dX3_isIn_14 : decode cX3_isIn 14 = .ok (.if_acmp .ne 7, 3) := by decide +kernel
theorem dX3_isIn_17 : decode cX3_isIn 17 = .ok (.iconst 1, 1) := by decide +kernel
theorem dX3_isIn_18 : decode cX3_isIn 18 = .ok (.goto 4, 3) := by decide +kernel
theorem dX3_isIn_21 : decode cX3_isIn 21 = .ok (.iconst 0, 1) := by decide +kernel
theorem dX3_isIn_22 : decode cX3_isIn 22 = .ok (.ireturn, 1) := by decide +kernel
theorem dX3_waitsFor_0 : decode cX3_waitsFor 0 = .ok (.aload_n 0, 1) := by decide +kernel
theorem dX3_waitsFor_1 : decode cX3_waitsFor 1 = .ok (.getfield 9, 3) := by decide +kernel
theorem dX3_waitsFor_4 : decode cX3_waitsFor 4 = .ok (.bipush 119, 2) := by decide +kernel
theorem dX3_waitsFor_6 : decode cX3_waitsFor 6 = .ok (.if_icmp .ne 15, 3) := by decide +kernel
theorem dX3_waitsFor_9 : decode cX3_waitsFor 9 = .ok (.aload_n 0, 1) := by decide +kernel
theorem dX3_waitsFor_10 : decode cX3_waitsFor 10 = .ok (.getfield 15, 3) := by decide +kernel
theorem dX3_waitsFor_13 : decode cX3_waitsFor 13 = .ok (.aload_n 1, 1) := by decide +kernel
theorem dX3_waitsFor_14 : decode cX3_waitsFor 14 = .ok (.if_acmp .ne 7, 3) := by decide +kernel
theorem dX3_waitsFor_17 : decode cX3_waitsFor 17 = .ok (.iconst 1, 1) := by decide +kernel
theorem dX3_waitsFor_18 : decode cX3_waitsFor 18 = .ok (.goto 4, 3) := by decide +kernel
theorem dX3_waitsFor_21 : decode cX3_waitsFor 21 = .ok (.iconst 0, 1) := by decide +kernel
theorem dX3_waitsFor_22 : decode cX3_waitsFor 22 = .ok (.ireturn, 1) := by decide +kernel
theorem dX4_init_0 : decode cX4_init 0 = .ok (.aload_n 0, 1) := by decide +kernel
theorem dX4_init_1 : decode cX4_init 1 = .ok (.invokespecial 1, 3) := by decide +kernel
theorem dX4_init_4 : decode cX4_init 4 = .ok (.aload_n 0, 1) := by decide +kernel
theorem dX4_init_5 : decode cX4_init 5 = .ok (.bipush 10, 2) := by decide +kernel
theorem dX4_init_7 : decode cX4_init 7 = .ok (.newarray .int, 2) := by decide +kernel
theorem dX4_init_9 : decode cX4_init 9 = .ok (.putfield 9, 3) := by decide +kernel
theorem dX4_init_12 : decode cX4_init 12 = .ok (.aload_n 0, 1) := by decide +kernel
theorem dX4_init_13 : decode cX4_init 13 = .ok (.bipush 10, 2) := by decide +kernel
theorem dX4_init_15 : decode cX4_init 15 = .ok (.newarray .int, 2) := by decide +kernel
theorem dX4_init_17 : decode cX4_init 17 = .ok (.putfield 13, 3) := by decide +kernel
theorem dX4_init_20 : decode cX4_init 20 = .ok (.aload_n 0, 1) := by decide +kernel
theorem dX4_init_21 : decode cX4_init 21 = .ok (.bipush 10, 2) := by decide +kernel
theorem dX4_init_23 : decode cX4_init 23 = .ok (.newarray .int, 2) := by decide +kernel
theorem dX4_init_25 : decode cX4_init 25 = .ok (.putfield 16, 3) := by decide +kernel
theorem dX4_init_28 : decode cX4_init 28 = .ok (.aload_n 0, 1) := by decide +kernel
theorem dX4_init_29 : decode cX4_init 29 = .ok (.new 19, 3) := by decide +kernel
theorem dX4_init_32 : decode cX4_init 32 = .ok (.dup, 1) := by decide +kernel
theorem dX4_init_33 : decode cX4_init 33 = .ok (.invokespecial 21, 3) := by decide +kernel
theorem dX4_init_36 : decode cX4_init 36 = .ok (.putfield 22, 3) := by decide +kernel
theorem dX4_init_39 : decode cX4_init 39 = .ok (.aload_n 0, 1) := by decide +kernel
theorem dX4_init_40 : decode cX4_init 40 = .ok (.new 19, 3) := by decide +kernel
theorem dX4_init_43 : decode cX4_init 43 = .ok (.dup, 1) := by decide +kernel
theorem dX4_init_44 : decode cX4_init 44 = .ok (.invokespecial 21, 3) := by decide +kernel
theorem dX4_init_47 : decode cX4_init 47 = .ok (.putfield 26, 3) := by decide +kernel
theorem dX4_init_50 : decode cX4_init 50 = .ok (.aload_n 0, 1) := by decide +kernel
theorem dX4_init_51 : decode cX4_init 51 = .ok (.new 19, 3) := by decide +kernel
theorem dX4_init_54 : decode cX4_init 54 = .ok (.dup, 1) := by decide +kernel
theorem dX4_init_55 : decode cX4_init 55 = .ok (.invokespecial 21, 3) := by decide +kernel
theorem dX4_init_58 : decode cX4_init 58 = .ok (.putfield 29, 3) := by decide +kernel
theorem dX4_init_61 : decode cX4_init 61 = .ok (.aload_n 0, 1) := by decide +kernel
theorem dX4_init_62 : decode cX4_init 62 = .ok (.new 19, 3) := by decide +kernel
theorem dX4_init_65 : decode cX4_init 65 = .ok (.dup, 1) := by decide +kernel
theorem dX4_init_66 : decode cX4_init 66 = .ok (.invokespecial 21, 3) := by decide +kernel
theorem dX4_init_69 : decode cX4_init 69 = .ok (.putfield 32, 3) := by decide +kernel
theorem dX4_init_72 : decode cX4_init 72 = .ok (.aload_n 0, 1) := by decide +kernel
theorem dX4_init_73 : decode cX4_init 73 = .ok (.new 19, 3) := by decide +kernel
theorem dX4_init_76 : decode cX4_init 76 = .ok (.dup, 1) := by decide +kernel
theorem dX4_init_77 : decode cX4_init 77 = .ok (.invokespecial 21, 3) := by decide +kernel
theorem dX4_init_80 : decode cX4_init 80 = .ok (.putfield 35, 3) := by decide +kernel
theorem dX4_init_83 : decode cX4_init 83 = .ok (.aload_n 0, 1) := by decide +kernel
theorem dX4_init_84 : decode cX4_init 84 = .ok (.iconst 0, 1) := by decide +kernel
theorem dX4_init_85 : decode cX4_init 85 = .ok (.putfield 38, 3) := by decide +kernel
theorem dX4_init_88 : decode cX4_init 88 = .ok (.aload_n 0, 1) := by decide +kernel
theorem dX4_init_89 : decode cX4_init 89 = .ok (.iconst (-1), 1) := by decide +kernel
theorem dX4_init_90 : decode cX4_init 90 = .ok (.putfield 42, 3) := by decide +kernel
theorem dX4_init_93 : decode cX4_init 93 = .ok (.aload_n 0, 1) := by decide +kernel
theorem dX4_init_94 : decode cX4_init 94 = .ok (.iconst 0, 1) := by decide +kernel
theorem dX4_init_95 : decode cX4_init 95 = .ok (.putfield 45, 3) := by decide +kernel
theorem dX4_init_98 : decode cX4_init 98 = .ok (.aload_n 0, 1) := by decide +kernel
theorem dX4_init_99 : decode cX4_init 99 = .ok (.iconst 0, 1) := by decide +kernel
theorem dX4_init_100 : decode cX4_init 100 = .ok (.putfield 48, 3) := by decide +kernel
theorem dX4_init_103 : decode cX4_init 103 = .ok (.iconst 0, 1) := by decide +kernel
theorem dX4_init_104 : decode cX4_init 104 = .ok (.istore_n 1, 1) := by decide +kernel
theorem dX4_init_105 : decode cX4_init 105 = .ok (.iload_n 1, 1) := by decide +kernel
theorem dX4_init_106 : decode cX4_init 106 = .ok (.bipush 10, 2) := by decide +kernel
theorem dX4_init_108 : decode cX4_init 108 = .ok (.if_icmp .ge 24, 3) := by decide +kernel
theorem dX4_init_111 : decode cX4_init 111 = .ok (.aload_n 0, 1) := by decide +kernel
theorem dX4_init_112 : decode cX4_init 112 = .ok (.getfield 9, 3) := by decide +kernel
theorem dX4_init_115 : decode cX4_init 115 = .ok (.iload_n 1, 1) := by decide +kernel
theorem dX4_init_116 : decode cX4_init 116 = .ok (.iconst (-1), 1) := by decide +kernel
theorem dX4_init_117 : decode cX4_init 117 = .ok (.iastore, 1) := by decide +kernel
theorem dX4_init_118 : decode cX4_init 118 = .ok (.aload_n 0, 1) := by decide +kernel
theorem dX4_init_119 : decode cX4_init 119 = .ok (.getfield 16, 3) := by decide +kernel
theorem dX4_init_122 : decode cX4_init 122 = .ok (.iload_n 1, 1) := by decide +kernel
theorem dX4_init_123 : decode cX4_init 123 = .ok (.bipush 100, 2) := by decide +kernel
theorem dX4_init_125 : decode cX4_init 125 = .ok (.iastore, 1) := by decide +kernel
theorem dX4_init_126 : decode cX4_init 126 = .ok (.iinc 1 1, 3) := by decide +kernel
theorem dX4_init_129 : decode cX4_init 129 = .ok (.goto (-24), 3) := by decide +kernel
theorem dX4_init_132 : decode cX4_init 132 = .ok (.return_, 1) := by decide +kernel
theorem dX4_addLift_0 : decode cX4_addLift 0 = .ok (.iload_n 1, 1) := by decide +kernel
theorem dX4_addLift_1 : decode cX4_addLift 1 = .ok (.iconst 1, 1) := by decide +kernel
theorem dX4_addLift_2 : decode cX4_addLift 2 = .ok (.if_icmp .lt 8, 3) := by decide +kernel
theorem dX4_addLift_5 : decode cX4_addLift 5 = .ok (.iload_n 1, 1) := by decide +kernel
theorem dX4_addLift_6 : decode cX4_addLift 6 = .ok (.iconst 4, 1) := by decide +kernel
theorem dX4_addLift_7 : decode cX4_addLift 7 = .ok (.if_icmp .le 13, 3) := by decide +kernel
theorem dX4_addLift_10 : decode cX4_addLift 10 = .ok (.new 51, 3) := by decide +kernel
theorem dX4_addLift_13 : decode cX4_addLift 13 = .ok (.dup, 1) := by decide +kernel
theorem dX4_addLift_14 : decode cX4_addLift 14 = .ok (.ldc 53, 2) := by decide +kernel
theorem dX4_addLift_16 : decode cX4_addLift 16 = .ok (.invokespecial 55, 3) := by decide +kernel
theorem dX4_addLift_19 : decode cX4_addLift 19 = .ok (.athrow, 1) := by decide +kernel
theorem dX4_addLift_20 : decode cX4_addLift 20 = .ok (.aload_n 0, 1) := by decide +kernel
theorem dX4_addLift_21 : decode cX4_addLift 21 = .ok (.getfield 26, 3) := by decide +kernel
theorem dX4_addLift_24 : decode cX4_addLift 24 = .ok (.invokevirtual 58, 3) := by decide +kernel
theorem dX4_addLift_27 : decode cX4_addLift 27 = .ok (.iconst 3, 1) := by decide +kernel
theorem dX4_addLift_28 : decode cX4_addLift 28 = .ok (.if_icmp .lt 13, 3) := by decide +kernel
theorem dX4_addLift_31 : decode cX4_addLift 31 = .ok (.new 62, 3) := by decide +kernel
theorem dX4_addLift_34 : decode cX4_addLift 34 = .ok (.dup, 1) := by decide +kernel
theorem dX4_addLift_35 : decode cX4_addLift 35 = .ok (.ldc 64, 2) := by decide +kernel
theorem dX4_addLift_37 : decode cX4_addLift 37 = .ok (.invokespecial 66, 3) := by decide +kernel
theorem dX4_addLift_40 : decode cX4_addLift 40 = .ok (.athrow, 1) := by decide +kernel
theorem dX4_addLift_41 : decode cX4_addLift 41 = .ok (.new 67, 3) := by decide +kernel
theorem dX4_addLift_44 : decode cX4_addLift 44 = .ok (.dup, 1) := by decide +kernel
theorem dX4_addLift_45 : decode cX4_addLift 45 = .ok (.aload_n 0, 1) := by decide +kernel
theorem dX4_addLift_46 : decode cX4_addLift 46 = .ok (.getfield 26, 3) := by decide +kernel
theorem dX4_addLift_49 : decode cX4_addLift 49 = .ok (.invokevirtual 58, 3) := by decide +kernel
theorem dX4_addLift_52 : decode cX4_addLift 52 = .ok (.iload_n 1, 1) := by decide +kernel
theorem dX4_addLift_53 : decode cX4_addLift 53 = .ok (.invokespecial 69, 3) := by decide +kernel
theorem dX4_addLift_56 : decode cX4_addLift 56 = .ok (.astore_n 2, 1) := by decide +kernel
theorem dX4_addLift_57 : decode cX4_addLift 57 = .ok (.aload_n 0, 1) := by decide +kernel
theorem dX4_addLift_58 : decode cX4_addLift 58 = .ok (.getfield 26, 3) := by decide +kernel
theorem dX4_addLift_61 : decode cX4_addLift 61 = .ok (.aload_n 2, 1) := by decide +kernel
theorem dX4_addLift_62 : decode cX4_addLift 62 = .ok (.invokevirtual 72, 3) := by decide +kernel
theorem dX4_addLift_65 : decode cX4_addLift 65 = .ok (.pop, 1) := by decide +kernel
theorem dX4_addLift_66 : decode cX4_addLift 66 = .ok (.aload_n 2, 1) := by decide +kernel
theorem dX4_addLift_67 : decode cX4_addLift 67 = .ok (.getfield 76, 3) := by decide +kernel
theorem dX4_addLift_70 : decode cX4_addLift 70 = .ok (.ireturn, 1) := by decide +kernel
theorem dX4_setTenant_0 : decode cX4_setTenant 0 = .ok (.iload_n 1, 1) := by decide +kernel
theorem dX4_setTenant_1 : decode cX4_setTenant 1 = .ok (.ifCond .le 9, 3) := by decide +kernel
theorem dX4_setTenant_4 : decode cX4_setTenant 4 = .ok (.iload_n 1, 1) := by decide +kernel
theorem dX4_setTenant_5 : decode cX4_setTenant 5 = .ok (.bipush 10, 2) := by decide +kernel
theorem dX4_setTenant_7 : decode cX4_setTenant 7 = .ok (.if_icmp .lt 13, 3) := by decide +kernel
theorem dX4_setTenant_10 : decode cX4_setTenant 10 = .ok (.new 79, 3) := by decide +kernel
theorem dX4_setTenant_13 : decode cX4_setTenant 13 = .ok (.dup, 1) := by decide +kernel
theorem dX4_setTenant_14 : decode cX4_setTenant 14 = .ok (.ldc 81, 2) := by decide +kernel
theorem dX4_setTenant_16 : decode cX4_setTenant 16 = .ok (.invokespecial 83, 3) := by decide +kernel
theorem dX4_setTenant_19 : decode cX4_setTenant 19 = .ok (.athrow, 1) := by decide +kernel
theorem dX4_setTenant_20 : decode cX4_setTenant 20 = .ok (.iload_n 2, 1) := by decide +kernel
theorem dX4_setTenant_21 : decode cX4_setTenant 21 = .ok (.iconst (-1), 1) := by decide +kernel
theorem dX4_setTenant_22 : decode cX4_setTenant 22 = .ok (.if_icmp .lt 8, 3) := by decide +kernel
theorem dX4_setTenant_25 : decode cX4_setTenant 25 = .ok (.iload_n 2, 1) := by decide +kernel
theorem dX4_setTenant_26 : decode cX4_setTenant 26 = .ok (.iconst 4, 1) := by decide +kernel
theorem dX4_setTenant_27 : decode cX4_setTenant 27 = .ok (.if_icmp .lt 13, 3) := by decide +kernel
theorem dX4_setTenant_30 : decode cX4_setTenant 30 = .ok (.new 51, 3) := by decide +kernel
theorem dX4_setTenant_33 : decode cX4_setTenant 33 = .ok (.dup, 1) := by decide +kernel
theorem dX4_setTenant_34 : decode cX4_setTenant 34 = .ok (.ldc 84, 2) := by decide +kernel
theorem dX4_setTenant_36 : decode cX4_setTenant 36 = .ok (.invokespecial 55, 3) := by decide +kernel
theorem dX4_setTenant_39 : decode cX4_setTenant 39 = .ok (.athrow, 1) := by decide +kernel
theorem dX4_setTenant_40 : decode cX4_setTenant 40 = .ok (.aload_n 0, 1) := by decide +kernel
theorem dX4_setTenant_41 : decode cX4_setTenant 41 = .ok (.getfield 9, 3) := by decide +kernel
theorem dX4_setTenant_44 : decode cX4_setTenant 44 = .ok (.iload_n 1, 1) := by decide +kernel
theorem dX4_setTenant_45 : decode cX4_setTenant 45 = .ok (.iaload, 1) := by decide +kernel
theorem dX4_setTenant_46 : decode cX4_setTenant 46 = .ok (.istore_n 3, 1) := by decide +kernel
theorem dX4_setTenant_47 : decode cX4_setTenant 47 = .ok (.aload_n 0, 1) := by decide +kernel
theorem dX4_setTenant_48 : decode cX4_setTenant 48 = .ok (.getfield 9, 3) := by decide +kernel
theorem dX4_setTenant_51 : decode cX4_setTenant 51 = .ok (.iload_n 1, 1) := by decide +kernel
theorem dX4_setTenant_52 : decode cX4_setTenant 52 = .ok (.iload_n 2, 1) := by decide +kernel
theorem dX4_setTenant_53 : decode cX4_setTenant 53 = .ok (.iastore, 1) := by decide +kernel
theorem dX4_setTenant_54 : decode cX4_setTenant 54 = .ok (.iload_n 3, 1) := by decide +kernel
theorem dX4_setTenant_55 : decode cX4_setTenant 55 = .ok (.ireturn, 1) := by decide +kernel
theorem dX4_setHours_0 : decode cX4_setHours 0 = .ok (.iload_n 1, 1) := by decide +kernel
theorem dX4_setHours_1 : decode cX4_setHours 1 = .ok (.ifCond .le 9, 3) := by decide +kernel
theorem dX4_setHours_4 : decode cX4_setHours 4 = .ok (.iload_n 1, 1) := by decide +kernel
theorem dX4_setHours_5 : decode cX4_setHours 5 = .ok (.bipush 10, 2) := by decide +kernel
theorem dX4_setHours_7 : decode cX4_setHours 7 = .ok (.if_icmp .lt 13, 3) := by decide +kernel
theorem dX4_setHours_10 : decode cX4_setHours 10 = .ok (.new 79, 3) := by decide +kernel
theorem dX4_setHours_13 : decode cX4_setHours 13 = .ok (.dup, 1) := by decide +kernel
theorem dX4_setHours_14 : decode cX4_setHours 14 = .ok (.ldc 81, 2) := by decide +kernel
theorem dX4_setHours_16 : decode cX4_setHours 16 = .ok (.invokespecial 83, 3) := by decide +kernel
theorem dX4_setHours_19 : decode cX4_setHours 19 = .ok (.athrow, 1) := by decide +kernel
theorem dX4_setHours_20 : decode cX4_setHours 20 = .ok (.iload_n 2, 1) := by decide +kernel
theorem dX4_setHours_21 : decode cX4_setHours 21 = .ok (.ifCond .lt 20, 3) := by decide +kernel
theorem dX4_setHours_24 : decode cX4_setHours 24 = .ok (.iload_n 2, 1) := by decide +kernel
theorem dX4_setHours_25 : decode cX4_setHours 25 = .ok (.bipush 100, 2) := by decide +kernel
theorem dX4_setHours_27 : decode cX4_setHours 27 = .ok (.if_icmp .ge 14, 3) := by decide +kernel
theorem dX4_setHours_30 : decode cX4_setHours 30 = .ok (.iload_n 3, 1) := by decide +kernel
theorem dX4_setHours_31 : decode cX4_setHours 31 = .ok (.iload_n 2, 1) := by decide +kernel
theorem dX4_setHours_32 : decode cX4_setHours 32 = .ok (.if_icmp .le 9, 3) := by decide +kernel
theorem dX4_setHours_35 : decode cX4_setHours 35 = .ok (.iload_n 3, 1) := by decide +kernel
theorem dX4_setHours_36 : decode cX4_setHours 36 = .ok (.bipush 100, 2) := by decide +kernel
theorem dX4_setHours_38 : decode cX4_setHours 38 = .ok (.if_icmp .le 13, 3) := by decide +kernel
theorem dX4_setHours_41 : decode cX4_setHours 41 = .ok (.new 51, 3) := by decide +kernel
theorem dX4_setHours_44 : decode cX4_setHours 44 = .ok (.dup, 1) := by decide +kernel
theorem dX4_setHours_45 : decode cX4_setHours 45 = .ok (.ldc 86, 2) := by decide +kernel
theorem dX4_setHours_47 : decode cX4_setHours 47 = .ok (.invokespecial 55, 3) := by decide +kernel
theorem dX4_setHours_50 : decode cX4_setHours 50 = .ok (.athrow, 1) := by decide +kernel
theorem dX4_setHours_51 : decode cX4_setHours 51 = .ok (.aload_n 0, 1) := by decide +kernel
theorem dX4_setHours_52 : decode cX4_setHours 52 = .ok (.getfield 13, 3) := by decide +kernel
theorem dX4_setHours_55 : decode cX4_setHours 55 = .ok (.iload_n 1, 1) := by decide +kernel
theorem dX4_setHours_56 : decode cX4_setHours 56 = .ok (.iload_n 2, 1) := by decide +kernel
theorem dX4_setHours_57 : decode cX4_setHours 57 = .ok (.iastore, 1) := by decide +kernel
theorem dX4_setHours_58 : decode cX4_setHours 58 = .ok (.aload_n 0, 1) := by decide +kernel
theorem dX4_setHours_59 : decode cX4_setHours 59 = .ok (.getfield 16, 3) := by decide +kernel
theorem dX4_setHours_62 : decode cX4_setHours 62 = .ok (.iload_n 1, 1) := by decide +kernel
theorem dX4_setHours_63 : decode cX4_setHours 63 = .ok (.iload_n 3, 1) := by decide +kernel
theorem dX4_setHours_64 : decode cX4_setHours 64 = .ok (.iastore, 1) := by decide +kernel
theorem dX4_setHours_65 : decode cX4_setHours 65 = .ok (.iload_n 3, 1) := by decide +kernel
theorem dX4_setHours_66 : decode cX4_setHours 66 = .ok (.iload_n 2, 1) := by decide +kernel
theorem dX4_setHours_67 : decode cX4_setHours 67 = .ok (.isub, 1) := by decide +kernel
theorem dX4_setHours_68 : decode cX4_setHours 68 = .ok (.ireturn, 1) := by decide +kernel
theorem dX4_addBadge_0 : decode cX4_addBadge 0 = .ok (.iload_n 1, 1) := by decide +kernel
theorem dX4_addBadge_1 : decode cX4_addBadge 1 = .ok (.ifCond .lt 8, 3) := by decide +kernel
theorem dX4_addBadge_4 : decode cX4_addBadge 4 = .ok (.iload_n 1, 1) := by decide +kernel
theorem dX4_addBadge_5 : decode cX4_addBadge 5 = .ok (.iconst 4, 1) := by decide +kernel
theorem dX4_addBadge_6 : decode cX4_addBadge 6 = .ok (.if_icmp .lt 13, 3) := by decide +kernel
theorem dX4_addBadge_9 : decode cX4_addBadge 9 = .ok (.new 51, 3) := by decide +kernel
theorem dX4_addBadge_12 : decode cX4_addBadge 12 = .ok (.dup, 1) := by decide +kernel
theorem dX4_addBadge_13 : decode cX4_addBadge 13 = .ok (.ldc 84, 2) := by decide +kernel
theorem dX4_addBadge_15 : decode cX4_addBadge 15 = .ok (.invokespecial 55, 3) := by decide +kernel
theorem dX4_addBadge_18 : decode cX4_addBadge 18 = .ok (.athrow, 1) := by decide +kernel
theorem dX4_addBadge_19 : decode cX4_addBadge 19 = .ok (.aload_n 0, 1) := by decide +kernel
theorem dX4_addBadge_20 : decode cX4_addBadge 20 = .ok (.getfield 22, 3) := by decide +kernel
theorem dX4_addBadge_23 : decode cX4_addBadge 23 = .ok (.invokevirtual 58, 3) := by decide +kernel
theorem dX4_addBadge_26 : decode cX4_addBadge 26 = .ok (.bipush 8, 2) := by decide +kernel
theorem dX4_addBadge_28 : decode cX4_addBadge 28 = .ok (.if_icmp .lt 13, 3) := by decide +kernel
theorem dX4_addBadge_31 : decode cX4_addBadge 31 = .ok (.new 62, 3) := by decide +kernel
theorem dX4_addBadge_34 : decode cX4_addBadge 34 = .ok (.dup, 1) := by decide +kernel
theorem dX4_addBadge_35 : decode cX4_addBadge 35 = .ok (.ldc 88, 2) := by decide +kernel
theorem dX4_addBadge_37 : decode cX4_addBadge 37 = .ok (.invokespecial 66, 3) := by decide +kernel
theorem dX4_addBadge_40 : decode cX4_addBadge 40 = .ok (.athrow, 1) := by decide +kernel
theorem dX4_addBadge_41 : decode cX4_addBadge 41 = .ok (.aload_n 0, 1) := by decide +kernel
theorem dX4_addBadge_42 : decode cX4_addBadge 42 = .ok (.getfield 22, 3) := by decide +kernel
theorem dX4_addBadge_45 : decode cX4_addBadge 45 = .ok (.invokevirtual 58, 3) := by decide +kernel
theorem dX4_addBadge_48 : decode cX4_addBadge 48 = .ok (.istore_n 2, 1) := by decide +kernel
theorem dX4_addBadge_49 : decode cX4_addBadge 49 = .ok (.aload_n 0, 1) := by decide +kernel
theorem dX4_addBadge_50 : decode cX4_addBadge 50 = .ok (.getfield 22, 3) := by decide +kernel
theorem dX4_addBadge_53 : decode cX4_addBadge 53 = .ok (.new 90, 3) := by decide +kernel
theorem dX4_addBadge_56 : decode cX4_addBadge 56 = .ok (.dup, 1) := by decide +kernel
theorem dX4_addBadge_57 : decode cX4_addBadge 57 = .ok (.iload_n 1, 1) := by decide +kernel
theorem dX4_addBadge_58 : decode cX4_addBadge 58 = .ok (.invokespecial 92, 3) := by decide +kernel
theorem dX4_addBadge_61 : decode cX4_addBadge 61 = .ok (.invokevirtual 72, 3) := by decide +kernel
theorem dX4_addBadge_64 : decode cX4_addBadge 64 = .ok (.pop, 1) := by decide +kernel
theorem dX4_addBadge_65 : decode cX4_addBadge 65 = .ok (.iload_n 2, 1) := by decide +kernel
theorem dX4_addBadge_66 : decode cX4_addBadge 66 = .ok (.ireturn, 1) := by decide +kernel
theorem dX4_setRevoked_0 : decode cX4_setRevoked 0 = .ok (.aload_n 0, 1) := by decide +kernel
theorem dX4_setRevoked_1 : decode cX4_setRevoked 1 = .ok (.iload_n 1, 1) := by decide +kernel
theorem dX4_setRevoked_2 : decode cX4_setRevoked 2 = .ok (.invokevirtual 95, 3) := by decide +kernel
theorem dX4_setRevoked_5 : decode cX4_setRevoked 5 = .ok (.astore_n 3, 1) := by decide +kernel
theorem dX4_setRevoked_6 : decode cX4_setRevoked 6 = .ok (.aload_n 3, 1) := by decide +kernel
theorem dX4_setRevoked_7 : decode cX4_setRevoked 7 = .ok (.getfield 99, 3) := by decide +kernel
theorem dX4_setRevoked_10 : decode cX4_setRevoked 10 = .ok (.istore 4, 2) := by decide +kernel
theorem dX4_setRevoked_12 : decode cX4_setRevoked 12 = .ok (.aload_n 3, 1) := by decide +kernel
theorem dX4_setRevoked_13 : decode cX4_setRevoked 13 = .ok (.iload_n 2, 1) := by decide +kernel
theorem dX4_setRevoked_14 : decode cX4_setRevoked 14 = .ok (.putfield 99, 3) := by decide +kernel
theorem dX4_setRevoked_17 : decode cX4_setRevoked 17 = .ok (.iload 4, 2) := by decide +kernel
theorem dX4_setRevoked_19 : decode cX4_setRevoked 19 = .ok (.ireturn, 1) := by decide +kernel
theorem dX4_reason_0 : decode cX4_reason 0 = .ok (.aload_n 0, 1) := by decide +kernel
theorem dX4_reason_1 : decode cX4_reason 1 = .ok (.iload_n 1, 1) := by decide +kernel
theorem dX4_reason_2 : decode cX4_reason 2 = .ok (.invokevirtual 95, 3) := by decide +kernel
theorem dX4_reason_5 : decode cX4_reason 5 = .ok (.astore_n 3, 1) := by decide +kernel
theorem dX4_reason_6 : decode cX4_reason 6 = .ok (.iload_n 2, 1) := by decide +kernel
theorem dX4_reason_7 : decode cX4_reason 7 = .ok (.invokestatic 103, 3) := by decide +kernel
theorem dX4_reason_10 : decode cX4_reason 10 = .ok (.aload_n 0, 1) := by decide +kernel
theorem dX4_reason_11 : decode cX4_reason 11 = .ok (.aload_n 3, 1) := by decide +kernel
theorem dX4_reason_12 : decode cX4_reason 12 = .ok (.iload_n 2, 1) := by decide +kernel
theorem dX4_reason_13 : decode cX4_reason 13 = .ok (.invokevirtual 106, 3) := by decide +kernel
theorem dX4_reason_16 : decode cX4_reason 16 = .ok (.ireturn, 1) := by decide +kernel
theorem dX4_call_0 : decode cX4_call 0 = .ok (.aload_n 0, 1) := by decide +kernel
theorem dX4_call_1 : decode cX4_call 1 = .ok (.iload_n 1, 1) := by decide +kernel
theorem dX4_call_2 : decode cX4_call 2 = .ok (.invokevirtual 95, 3) := by decide +kernel
theorem dX4_call_5 : decode cX4_call 5 = .ok (.astore 4, 2) := by decide +kernel
theorem dX4_call_7 : decode cX4_call 7 = .ok (.iload_n 2, 1) := by decide +kernel
theorem dX4_call_8 : decode cX4_call 8 = .ok (.invokestatic 103, 3) := by decide +kernel
theorem dX4_call_11 : decode cX4_call 11 = .ok (.iload_n 3, 1) := by decide +kernel
theorem dX4_call_12 : decode cX4_call 12 = .ok (.invokestatic 103, 3) := by decide +kernel
theorem dX4_call_15 : decode cX4_call 15 = .ok (.iload_n 2, 1) := by decide +kernel
theorem dX4_call_16 : decode cX4_call 16 = .ok (.iload_n 3, 1) := by decide +kernel
theorem dX4_call_17 : decode cX4_call 17 = .ok (.if_icmp .ne 13, 3) := by decide +kernel
theorem dX4_call_20 : decode cX4_call 20 = .ok (.new 51, 3) := by decide +kernel
theorem dX4_call_23 : decode cX4_call 23 = .ok (.dup, 1) := by decide +kernel
theorem dX4_call_24 : decode cX4_call 24 = .ok (.ldc 110, 2) := by decide +kernel
theorem dX4_call_26 : decode cX4_call 26 = .ok (.invokespecial 55, 3) := by decide +kernel
theorem dX4_call_29 : decode cX4_call 29 = .ok (.athrow, 1) := by decide +kernel
theorem dX4_call_30 : decode cX4_call 30 = .ok (.aload_n 0, 1) := by decide +kernel
theorem dX4_call_31 : decode cX4_call 31 = .ok (.aload 4, 2) := by decide +kernel
theorem dX4_call_33 : decode cX4_call 33 = .ok (.iload_n 3, 1) := by decide +kernel
theorem dX4_call_34 : decode cX4_call 34 = .ok (.invokevirtual 106, 3) := by decide +kernel
theorem dX4_call_37 : decode cX4_call 37 = .ok (.bipush 110, 2) := by decide +kernel
theorem dX4_call_39 : decode cX4_call 39 = .ok (.if_icmp .eq 13, 3) := by decide +kernel
theorem dX4_call_42 : decode cX4_call 42 = .ok (.new 112, 3) := by decide +kernel
theorem dX4_call_45 : decode cX4_call 45 = .ok (.dup, 1) := by decide +kernel
theorem dX4_call_46 : decode cX4_call 46 = .ok (.ldc 114, 2) := by decide +kernel
theorem dX4_call_48 : decode cX4_call 48 = .ok (.invokespecial 116, 3) := by decide +kernel
theorem dX4_call_51 : decode cX4_call 51 = .ok (.athrow, 1) := by decide +kernel
theorem dX4_call_52 : decode cX4_call 52 = .ok (.aload_n 0, 1) := by decide +kernel
theorem dX4_call_53 : decode cX4_call 53 = .ok (.aload 4, 2) := by decide +kernel
theorem dX4_call_55 : decode cX4_call 55 = .ok (.invokevirtual 117, 3) := by decide +kernel
theorem dX4_call_58 : decode cX4_call 58 = .ok (.ifCond .ne 23, 3) := by decide +kernel
theorem dX4_call_61 : decode cX4_call 61 = .ok (.aload_n 0, 1) := by decide +kernel
theorem dX4_call_62 : decode cX4_call 62 = .ok (.getfield 42, 3) := by decide +kernel
theorem dX4_call_65 : decode cX4_call 65 = .ok (.iconst (-1), 1) := by decide +kernel
theorem dX4_call_66 : decode cX4_call 66 = .ok (.if_icmp .ne 15, 3) := by decide +kernel
theorem dX4_call_69 : decode cX4_call 69 = .ok (.aload_n 0, 1) := by decide +kernel
theorem dX4_call_70 : decode cX4_call 70 = .ok (.getfield 29, 3) := by decide +kernel
theorem dX4_call_73 : decode cX4_call 73 = .ok (.invokevirtual 58, 3) := by decide +kernel
theorem dX4_call_76 : decode cX4_call 76 = .ok (.bipush 30, 2) := by decide +kernel
theorem dX4_call_78 : decode cX4_call 78 = .ok (.if_icmp .lt 13, 3) := by decide +kernel
theorem dX4_call_81 : decode cX4_call 81 = .ok (.new 62, 3) := by decide +kernel
theorem dX4_call_84 : decode cX4_call 84 = .ok (.dup, 1) := by decide +kernel
theorem dX4_call_85 : decode cX4_call 85 = .ok (.ldc 121, 2) := by decide +kernel
theorem dX4_call_87 : decode cX4_call 87 = .ok (.invokespecial 66, 3) := by decide +kernel
theorem dX4_call_90 : decode cX4_call 90 = .ok (.athrow, 1) := by decide +kernel
theorem dX4_call_91 : decode cX4_call 91 = .ok (.new 123, 3) := by decide +kernel
theorem dX4_call_94 : decode cX4_call 94 = .ok (.dup, 1) := by decide +kernel
theorem dX4_call_95 : decode cX4_call 95 = .ok (.aload_n 0, 1) := by decide +kernel
theorem dX4_call_96 : decode cX4_call 96 = .ok (.getfield 29, 3) := by decide +kernel
theorem dX4_call_99 : decode cX4_call 99 = .ok (.invokevirtual 58, 3) := by decide +kernel
theorem dX4_call_102 : decode cX4_call 102 = .ok (.aload 4, 2) := by decide +kernel
theorem dX4_call_104 : decode cX4_call 104 = .ok (.iload_n 2, 1) := by decide +kernel
theorem dX4_call_105 : decode cX4_call 105 = .ok (.iload_n 3, 1) := by decide +kernel
theorem dX4_call_106 : decode cX4_call 106 = .ok (.invokespecial 125, 3) := by decide +kernel
theorem dX4_call_109 : decode cX4_call 109 = .ok (.astore 5, 2) := by decide +kernel
theorem dX4_call_111 : decode cX4_call 111 = .ok (.aload_n 0, 1) := by decide +kernel
theorem dX4_call_112 : decode cX4_call 112 = .ok (.getfield 29, 3) := by decide +kernel
theorem dX4_call_115 : decode cX4_call 115 = .ok (.aload 5, 2) := by decide +kernel
theorem dX4_call_117 : decode cX4_call 117 = .ok (.invokevirtual 72, 3) := by decide +kernel
theorem dX4_call_120 : decode cX4_call 120 = .ok (.pop, 1) := by decide +kernel
theorem dX4_call_121 : decode cX4_call 121 = .ok (.aload_n 0, 1) := by decide +kernel
theorem dX4_call_122 : decode cX4_call 122 = .ok (.getfield 32, 3) := by decide +kernel
theorem dX4_call_125 : decode cX4_call 125 = .ok (.aload 5, 2) := by decide +kernel
theorem dX4_call_127 : decode cX4_call 127 = .ok (.invokevirtual 72, 3) := by decide +kernel
theorem dX4_call_130 : decode cX4_call 130 = .ok (.pop, 1) := by decide +kernel
theorem dX4_call_131 : decode cX4_call 131 = .ok (.aload_n 0, 1) := by decide +kernel
theorem dX4_call_132 : decode cX4_call 132 = .ok (.aload 5, 2) := by decide +kernel
theorem dX4_call_134 : decode cX4_call 134 = .ok (.invokevirtual 128, 3) := by decide +kernel
theorem dX4_call_137 : decode cX4_call 137 = .ok (.aload_n 0, 1) := by decide +kernel
theorem dX4_call_138 : decode cX4_call 138 = .ok (.aload 5, 2) := by decide +kernel
theorem dX4_call_140 : decode cX4_call 140 = .ok (.invokevirtual 132, 3) := by decide +kernel
theorem dX4_call_143 : decode cX4_call 143 = .ok (.aload 5, 2) := by decide +kernel
theorem dX4_call_145 : decode cX4_call 145 = .ok (.getfield 135, 3) := by decide +kernel
theorem dX4_call_148 : decode cX4_call 148 = .ok (.ireturn, 1) := by decide +kernel
theorem dX4_state_0 : decode cX4_state 0 = .ok (.aload_n 0, 1) := by decide +kernel
theorem dX4_state_1 : decode cX4_state 1 = .ok (.iload_n 1, 1) := by decide +kernel
theorem dX4_state_2 : decode cX4_state 2 = .ok (.invokevirtual 136, 3) := by decide +kernel
theorem dX4_state_5 : decode cX4_state 5 = .ok (.getfield 140, 3) := by decide +kernel
theorem dX4_state_8 : decode cX4_state 8 = .ok (.ireturn, 1) := by decide +kernel
theorem dX4_floorOf_0 : decode cX4_floorOf 0 = .ok (.aload_n 0, 1) := by decide +kernel
theorem dX4_floorOf_1 : decode cX4_floorOf 1 = .ok (.iload_n 1, 1) := by decide +kernel
theorem dX4_floorOf_2 : decode cX4_floorOf 2 = .ok (.invokevirtual 136, 3) := by decide +kernel
theorem dX4_floorOf_5 : decode cX4_floorOf 5 = .ok (.astore_n 2, 1) := by decide +kernel
theorem dX4_floorOf_6 : decode cX4_floorOf 6 = .ok (.aload_n 2, 1) := by decide +kernel
theorem dX4_floorOf_7 : decode cX4_floorOf 7 = .ok (.getfield 140, 3) := by decide +kernel
theorem dX4_floorOf_10 : decode cX4_floorOf 10 = .ok (.bipush 97, 2) := by decide +kernel
theorem dX4_floorOf_12 : decode cX4_floorOf 12 = .ok (.if_icmp .ne 18, 3) := by decide +kernel
theorem dX4_floorOf_15 : decode cX4_floorOf 15 = .ok (.aload_n 2, 1) := by decide +kernel
theorem dX4_floorOf_16 : decode cX4_floorOf 16 = .ok (.getfield 144, 3) := by decide +kernel
theorem dX4_floorOf_19 : decode cX4_floorOf 19 = .ok (.ifnull 11, 3) := by decide +kernel
theorem dX4_floorOf_22 : decode cX4_floorOf 22 = .ok (.aload_n 2, 1) := by decide +kernel
theorem dX4_floorOf_23 : decode cX4_floorOf 23 = .ok (.getfield 144, 3) := by decide +kernel
theorem dX4_floorOf_26 : decode cX4_floorOf 26 = .ok (.getfield 148, 3) := by decide +kernel
theorem dX4_floorOf_29 : decode cX4_floorOf 29 = .ok (.ireturn, 1) := by decide +kernel
theorem dX4_floorOf_30 : decode cX4_floorOf 30 = .ok (.aload_n 2, 1) := by decide +kernel
theorem dX4_floorOf_31 : decode cX4_floorOf 31 = .ok (.getfield 151, 3) := by decide +kernel
theorem dX4_floorOf_34 : decode cX4_floorOf 34 = .ok (.ireturn, 1) := by decide +kernel
theorem dX4_aim_0 : decode cX4_aim 0 = .ok (.aload_n 0, 1) := by decide +kernel
theorem dX4_aim_1 : decode cX4_aim 1 = .ok (.iload_n 1, 1) := by decide +kernel
theorem dX4_aim_2 : decode cX4_aim 2 = .ok (.invokevirtual 136, 3) := by decide +kernel
theorem dX4_aim_5 : decode cX4_aim 5 = .ok (.getfield 152, 3) := by decide +kernel
theorem dX4_aim_8 : decode cX4_aim 8 = .ok (.ireturn, 1) := by decide +kernel
theorem dX4_liftOf_0 : decode cX4_liftOf 0 = .ok (.aload_n 0, 1) := by decide +kernel
theorem dX4_liftOf_1 : decode cX4_liftOf 1 = .ok (.iload_n 1, 1) := by decide +kernel
theorem dX4_liftOf_2 : decode cX4_liftOf 2 = .ok (.invokevirtual 136, 3) := by decide +kernel
theorem dX4_liftOf_5 : decode cX4_liftOf 5 = .ok (.astore_n 2, 1) := by decide +kernel
theorem dX4_liftOf_6 : decode cX4_liftOf 6 = .ok (.aload_n 2, 1) := by decide +kernel
theorem dX4_liftOf_7 : decode cX4_liftOf 7 = .ok (.getfield 144, 3) := by decide +kernel
theorem dX4_liftOf_10 : decode cX4_liftOf 10 = .ok (.ifnonnull 13, 3) := by decide +kernel
theorem dX4_liftOf_13 : decode cX4_liftOf 13 = .ok (.new 155, 3) := by decide +kernel
theorem dX4_liftOf_16 : decode cX4_liftOf 16 = .ok (.dup, 1) := by decide +kernel
theorem dX4_liftOf_17 : decode cX4_liftOf 17 = .ok (.ldc 157, 2) := by decide +kernel
theorem dX4_liftOf_19 : decode cX4_liftOf 19 = .ok (.invokespecial 159, 3) := by decide +kernel
theorem dX4_liftOf_22 : decode cX4_liftOf 22 = .ok (.athrow, 1) := by decide +kernel
theorem dX4_liftOf_23 : decode cX4_liftOf 23 = .ok (.aload_n 2, 1) := by decide +kernel
theorem dX4_liftOf_24 : decode cX4_liftOf 24 = .ok (.getfield 144, 3) := by decide +kernel
theorem dX4_liftOf_27 : decode cX4_liftOf 27 = .ok (.getfield 76, 3) := by decide +kernel
theorem dX4_liftOf_30 : decode cX4_liftOf 30 = .ok (.ireturn, 1) := by decide +kernel
theorem dX4_waited_0 : decode cX4_waited 0 = .ok (.aload_n 0, 1) := by decide +kernel
theorem dX4_waited_1 : decode cX4_waited 1 = .ok (.iload_n 1, 1) := by decide +kernel
theorem dX4_waited_2 : decode cX4_waited 2 = .ok (.invokevirtual 136, 3) := by decide +kernel
theorem dX4_waited_5 : decode cX4_waited 5 = .ok (.getfield 160, 3) := by decide +kernel
theorem dX4_waited_8 : decode cX4_waited 8 = .ok (.ireturn, 1) := by decide +kernel
theorem dX4_waitedByLog_0 : decode cX4_waitedByLog 0 = .ok (.aload_n 0, 1) := by decide +kernel
theorem dX4_waitedByLog_1 : decode cX4_waitedByLog 1 = .ok (.aload_n 0, 1) := by decide +kernel
theorem dX4_waitedByLog_2 : decode cX4_waitedByLog 2 = .ok (.iload_n 1, 1) := by decide +kernel
theorem dX4_waitedByLog_3 : decode cX4_waitedByLog 3 = .ok (.invokevirtual 136, 3) := by decide +kernel
theorem dX4_waitedByLog_6 : decode cX4_waitedByLog 6 = .ok (.invokevirtual 163, 3) := by decide +kernel
theorem dX4_waitedByLog_9 : decode cX4_waitedByLog 9 = .ok (.ireturn, 1) := by decide +kernel
theorem dX4_entries_0 : decode cX4_entries 0 = .ok (.aload_n 0, 1) := by decide +kernel
theorem dX4_entries_1 : decode cX4_entries 1 = .ok (.getfield 35, 3) := by decide +kernel
theorem dX4_entries_4 : decode cX4_entries 4 = .ok (.invokevirtual 58, 3) := by decide +kernel
theorem dX4_entries_7 : decode cX4_entries 7 = .ok (.ireturn, 1) := by decide +kernel
theorem dX4_callOff_0 : decode cX4_callOff 0 = .ok (.aload_n 0, 1) := by decide +kernel
theorem dX4_callOff_1 : decode cX4_callOff 1 = .ok (.iload_n 1, 1) := by decide +kernel
theorem dX4_callOff_2 : decode cX4_callOff 2 = .ok (.invokevirtual 167, 3) := by decide +kernel
theorem dX4_callOff_5 : decode cX4_callOff 5 = .ok (.astore_n 2, 1) := by decide +kernel
theorem dX4_callOff_6 : decode cX4_callOff 6 = .ok (.aload_n 2, 1) := by decide +kernel
theorem dX4_callOff_7 : decode cX4_callOff 7 = .ok (.getfield 171, 3) := by decide +kernel
theorem dX4_callOff_10 : decode cX4_callOff 10 = .ok (.bipush 115, 2) := by decide +kernel
theorem dX4_callOff_12 : decode cX4_callOff 12 = .ok (.if_icmp .ne 11, 3) := by decide +kernel
theorem dX4_callOff_15 : decode cX4_callOff 15 = .ok (.aload_n 0, 1) := by decide +kernel
theorem dX4_callOff_16 : decode cX4_callOff 16 = .ok (.getfield 42, 3) := by decide +kernel
theorem dX4_callOff_19 : decode cX4_callOff 19 = .ok (.iconst (-1), 1) := by decide +kernel
theorem dX4_callOff_20 : decode cX4_callOff 20 = .ok (.if_icmp .eq 13, 3) := by decide +kernel
theorem dX4_callOff_23 : decode cX4_callOff 23 = .ok (.new 62, 3) := by decide +kernel
theorem dX4_callOff_26 : decode cX4_callOff 26 = .ok (.dup, 1) := by decide +kernel
theorem dX4_callOff_27 : decode cX4_callOff 27 = .ok (.ldc 174, 2) := by decide +kernel
theorem dX4_callOff_29 : decode cX4_callOff 29 = .ok (.invokespecial 66, 3) := by decide +kernel
theorem dX4_callOff_32 : decode cX4_callOff 32 = .ok (.athrow, 1) := by decide +kernel
theorem dX4_callOff_33 : decode cX4_callOff 33 = .ok (.aload_n 2, 1) := by decide +kernel
theorem dX4_callOff_34 : decode cX4_callOff 34 = .ok (.bipush 111, 2) := by decide +kernel
theorem dX4_callOff_36 : decode cX4_callOff 36 = .ok (.putfield 171, 3) := by decide +kernel
theorem dX4_callOff_39 : decode cX4_callOff 39 = .ok (.aload_n 0, 1) := by decide +kernel
theorem dX4_callOff_40 : decode cX4_callOff 40 = .ok (.aload_n 2, 1) := by decide +kernel
theorem dX4_callOff_41 : decode cX4_callOff 41 = .ok (.invokevirtual 176, 3) := by decide +kernel
theorem dX4_callOff_44 : decode cX4_callOff 44 = .ok (.ireturn, 1) := by decide +kernel
theorem dX4_service_0 : decode cX4_service 0 = .ok (.aload_n 0, 1) := by decide +kernel
theorem dX4_service_1 : decode cX4_service 1 = .ok (.iload_n 1, 1) := by decide +kernel
theorem dX4_service_2 : decode cX4_service 2 = .ok (.invokevirtual 167, 3) := by decide +kernel
theorem dX4_service_5 : decode cX4_service 5 = .ok (.getfield 171, 3) := by decide +kernel
theorem dX4_service_8 : decode cX4_service 8 = .ok (.ireturn, 1) := by decide +kernel
theorem dX4_floorOfLift_0 : decode cX4_floorOfLift 0 = .ok (.aload_n 0, 1) := by decide +kernel
theorem dX4_floorOfLift_1 : decode cX4_floorOfLift 1 = .ok (.iload_n 1, 1) := by decide +kernel
theorem dX4_floorOfLift_2 : decode cX4_floorOfLift 2 = .ok (.invokevirtual 167, 3) := by decide +kernel
theorem dX4_floorOfLift_5 : decode cX4_floorOfLift 5 = .ok (.getfield 148, 3) := by decide +kernel
theorem dX4_floorOfLift_8 : decode cX4_floorOfLift 8 = .ok (.ireturn, 1) := by decide +kernel
theorem dX4_isUp_0 : decode cX4_isUp 0 = .ok (.aload_n 0, 1) := by decide +kernel
theorem dX4_isUp_1 : decode cX4_isUp 1 = .ok (.iload_n 1, 1) := by decide +kernel
theorem dX4_isUp_2 : decode cX4_isUp 2 = .ok (.invokevirtual 167, 3) := by decide +kernel
theorem dX4_isUp_5 : decode cX4_isUp 5 = .ok (.getfield 180, 3) := by decide +kernel
theorem dX4_isUp_8 : decode cX4_isUp 8 = .ok (.ireturn, 1) := by decide +kernel
theorem dX4_aboard_0 : decode cX4_aboard 0 = .ok (.aload_n 0, 1) := by decide +kernel
theorem dX4_aboard_1 : decode cX4_aboard 1 = .ok (.aload_n 0, 1) := by decide +kernel
theorem dX4_aboard_2 : decode cX4_aboard 2 = .ok (.iload_n 1, 1) := by decide +kernel
theorem dX4_aboard_3 : decode cX4_aboard 3 = .ok (.invokevirtual 167, 3) := by decide +kernel
theorem dX4_aboard_6 : decode cX4_aboard 6 = .ok (.invokevirtual 183, 3) := by decide +kernel
theorem dX4_aboard_9 : decode cX4_aboard 9 = .ok (.ireturn, 1) := by decide +kernel
theorem dX4_score_0 : decode cX4_score 0 = .ok (.aload_n 0, 1) := by decide +kernel
theorem dX4_score_1 : decode cX4_score 1 = .ok (.iload_n 1, 1) := by decide +kernel
theorem dX4_score_2 : decode cX4_score 2 = .ok (.invokevirtual 167, 3) := by decide +kernel
theorem dX4_score_5 : decode cX4_score 5 = .ok (.astore_n 3, 1) := by decide +kernel
theorem dX4_score_6 : decode cX4_score 6 = .ok (.iload_n 2, 1) := by decide +kernel
theorem dX4_score_7 : decode cX4_score 7 = .ok (.invokestatic 103, 3) := by decide +kernel
theorem dX4_score_10 : decode cX4_score 10 = .ok (.aload_n 0, 1) := by decide +kernel
theorem dX4_score_11 : decode cX4_score 11 = .ok (.aload_n 3, 1) := by decide +kernel
theorem dX4_score_12 : decode cX4_score 12 = .ok (.iload_n 2, 1) := by decide +kernel
theorem dX4_score_13 : decode cX4_score 13 = .ok (.invokevirtual 186, 3) := by decide +kernel
theorem dX4_score_16 : decode cX4_score 16 = .ok (.ireturn, 1) := by decide +kernel
theorem dX4_pass_0 : decode cX4_pass 0 = .ok (.iload_n 1, 1) := by decide +kernel
theorem dX4_pass_1 : decode cX4_pass 1 = .ok (.iconst 1, 1) := by decide +kernel
theorem dX4_pass_2 : decode cX4_pass 2 = .ok (.if_icmp .lt 9, 3) := by decide +kernel
theorem dX4_pass_5 : decode cX4_pass 5 = .ok (.iload_n 1, 1) := by decide +kernel
theorem dX4_pass_6 : decode cX4_pass 6 = .ok (.bipush 100, 2) := by decide +kernel
theorem dX4_pass_8 : decode cX4_pass 8 = .ok (.if_icmp .le 13, 3) := by decide +kernel
theorem dX4_pass_11 : decode cX4_pass 11 = .ok (.new 51, 3) := by decide +kernel
theorem dX4_pass_14 : decode cX4_pass 14 = .ok (.dup, 1) := by decide +kernel
theorem dX4_pass_15 : decode cX4_pass 15 = .ok (.ldc 190, 2) := by decide +kernel
theorem dX4_pass_17 : decode cX4_pass 17 = .ok (.invokespecial 55, 3) := by decide +kernel
theorem dX4_pass_20 : decode cX4_pass 20 = .ok (.athrow, 1) := by decide +kernel
theorem dX4_pass_21 : decode cX4_pass 21 = .ok (.aload_n 0, 1) := by decide +kernel
theorem dX4_pass_22 : decode cX4_pass 22 = .ok (.getfield 32, 3) := by decide +kernel
theorem dX4_pass_25 : decode cX4_pass 25 = .ok (.invokevirtual 58, 3) := by decide +kernel
theorem dX4_pass_28 : decode cX4_pass 28 = .ok (.istore_n 2, 1) := by decide +kernel
theorem dX4_pass_29 : decode cX4_pass 29 = .ok (.iconst 0, 1) := by decide +kernel
theorem dX4_pass_30 : decode cX4_pass 30 = .ok (.istore_n 3, 1) := by decide +kernel
theorem dX4_pass_31 : decode cX4_pass 31 = .ok (.iload_n 3, 1) := by decide +kernel
theorem dX4_pass_32 : decode cX4_pass 32 = .ok (.iload_n 1, 1) := by decide +kernel
theorem dX4_pass_33 : decode cX4_pass 33 = .ok (.if_icmp .ge 13, 3) := by decide +kernel
theorem dX4_pass_36 : decode cX4_pass 36 = .ok (.aload_n 0, 1) := by decide +kernel
theorem dX4_pass_37 : decode cX4_pass 37 = .ok (.invokevirtual 192, 3) := by decide +kernel
theorem dX4_pass_40 : decode cX4_pass 40 = .ok (.iinc 3 1, 3) := by decide +kernel
theorem dX4_pass_43 : decode cX4_pass 43 = .ok (.goto (-12), 3) := by decide +kernel
theorem dX4_pass_46 : decode cX4_pass 46 = .ok (.iload_n 2, 1) := by decide +kernel
theorem dX4_pass_47 : decode cX4_pass 47 = .ok (.aload_n 0, 1) := by decide +kernel
theorem dX4_pass_48 : decode cX4_pass 48 = .ok (.getfield 32, 3) := by decide +kernel
theorem dX4_pass_51 : decode cX4_pass 51 = .ok (.invokevirtual 58, 3) := by decide +kernel
theorem dX4_pass_54 : decode cX4_pass 54 = .ok (.isub, 1) := by decide +kernel
theorem dX4_pass_55 : decode cX4_pass 55 = .ok (.ireturn, 1) := by decide +kernel
theorem dX4_time_0 : decode cX4_time 0 = .ok (.aload_n 0, 1) := by decide +kernel
theorem dX4_time_1 : decode cX4_time 1 = .ok (.getfield 38, 3) := by decide +kernel
theorem dX4_time_4 : decode cX4_time 4 = .ok (.ireturn, 1) := by decide +kernel
theorem dX4_alarm_0 : decode cX4_alarm 0 = .ok (.iload_n 1, 1) := by decide +kernel
theorem dX4_alarm_1 : decode cX4_alarm 1 = .ok (.invokestatic 103, 3) := by decide +kernel
theorem dX4_alarm_4 : decode cX4_alarm 4 = .ok (.aload_n 0, 1) := by decide +kernel
theorem dX4_alarm_5 : decode cX4_alarm 5 = .ok (.getfield 42, 3) := by decide +kernel
theorem dX4_alarm_8 : decode cX4_alarm 8 = .ok (.iconst (-1), 1) := by decide +kernel
theorem dX4_alarm_9 : decode cX4_alarm 9 = .ok (.if_icmp .ne 13, 3) := by decide +kernel
theorem dX4_alarm_12 : decode cX4_alarm 12 = .ok (.aload_n 0, 1) := by decide +kernel
theorem dX4_alarm_13 : decode cX4_alarm 13 = .ok (.getfield 32, 3) := by decide +kernel
theorem dX4_alarm_16 : decode cX4_alarm 16 = .ok (.invokevirtual 195, 3) := by decide +kernel
theorem dX4_alarm_19 : decode cX4_alarm 19 = .ok (.ifCond .eq 13, 3) := by decide +kernel
theorem dX4_alarm_22 : decode cX4_alarm 22 = .ok (.new 62, 3) := by decide +kernel
theorem dX4_alarm_25 : decode cX4_alarm 25 = .ok (.dup, 1) := by decide +kernel
theorem dX4_alarm_26 : decode cX4_alarm 26 = .ok (.ldc 199, 2) := by decide +kernel
theorem dX4_alarm_28 : decode cX4_alarm 28 = .ok (.invokespecial 66, 3) := by decide +kernel
theorem dX4_alarm_31 : decode cX4_alarm 31 = .ok (.athrow, 1) := by decide +kernel
theorem dX4_alarm_32 : decode cX4_alarm 32 = .ok (.aload_n 0, 1) := by decide +kernel
theorem dX4_alarm_33 : decode cX4_alarm 33 = .ok (.iload_n 1, 1) := by decide +kernel
theorem dX4_alarm_34 : decode cX4_alarm 34 = .ok (.putfield 42, 3) := by decide +kernel
theorem dX4_alarm_37 : decode cX4_alarm 37 = .ok (.aload_n 0, 1) := by decide +kernel
theorem dX4_alarm_38 : decode cX4_alarm 38 = .ok (.invokevirtual 201, 3) := by decide +kernel
theorem dX4_alarm_41 : decode cX4_alarm 41 = .ok (.aload_n 0, 1) := by decide +kernel
theorem dX4_alarm_42 : decode cX4_alarm 42 = .ok (.getfield 32, 3) := by decide +kernel
theorem dX4_alarm_45 : decode cX4_alarm 45 = .ok (.invokevirtual 58, 3) := by decide +kernel
theorem dX4_alarm_48 : decode cX4_alarm 48 = .ok (.ireturn, 1) := by decide +kernel
theorem dX4_isAlarm_0 : decode cX4_isAlarm 0 = .ok (.aload_n 0, 1) := by decide +kernel
theorem dX4_isAlarm_1 : decode cX4_isAlarm 1 = .ok (.getfield 42, 3) := by decide +kernel
theorem dX4_isAlarm_4 : decode cX4_isAlarm 4 = .ok (.iconst (-1), 1) := by decide +kernel
theorem dX4_isAlarm_5 : decode cX4_isAlarm 5 = .ok (.if_icmp .eq 7, 3) := by decide +kernel
theorem dX4_isAlarm_8 : decode cX4_isAlarm 8 = .ok (.iconst 1, 1) := by decide +kernel
theorem dX4_isAlarm_9 : decode cX4_isAlarm 9 = .ok (.goto 4, 3) := by decide +kernel
theorem dX4_isAlarm_12 : decode cX4_isAlarm 12 = .ok (.iconst 0, 1) := by decide +kernel
theorem dX4_isAlarm_13 : decode cX4_isAlarm 13 = .ok (.ireturn, 1) := by decide +kernel
theorem dX4_turn_0 : decode cX4_turn 0 = .ok (.aload_n 0, 1) := by decide +kernel
theorem dX4_turn_1 : decode cX4_turn 1 = .ok (.invokevirtual 204, 3) := by decide +kernel
theorem dX4_turn_4 : decode cX4_turn 4 = .ok (.istore_n 1, 1) := by decide +kernel
theorem dX4_turn_5 : decode cX4_turn 5 = .ok (.iload_n 1, 1) := by decide +kernel
theorem dX4_turn_6 : decode cX4_turn 6 = .ok (.iconst (-1), 1) := by decide +kernel
theorem dX4_turn_7 : decode cX4_turn 7 = .ok (.if_icmp .ne 13, 3) := by decide +kernel
theorem dX4_turn_10 : decode cX4_turn 10 = .ok (.new 155, 3) := by decide +kernel
theorem dX4_turn_13 : decode cX4_turn 13 = .ok (.dup, 1) := by decide +kernel
theorem dX4_turn_14 : decode cX4_turn 14 = .ok (.ldc 207, 2) := by decide +kernel
theorem dX4_turn_16 : decode cX4_turn 16 = .ok (.invokespecial 159, 3) := by decide +kernel
theorem dX4_turn_19 : decode cX4_turn 19 = .ok (.athrow, 1) := by decide +kernel
theorem dX4_turn_20 : decode cX4_turn 20 = .ok (.iload_n 1, 1) := by decide +kernel
theorem dX4_turn_21 : decode cX4_turn 21 = .ok (.ireturn, 1) := by decide +kernel
theorem dX4_opened_0 : decode cX4_opened 0 = .ok (.aload_n 0, 1) := by decide +kernel
theorem dX4_opened_1 : decode cX4_opened 1 = .ok (.getfield 45, 3) := by decide +kernel
theorem dX4_opened_4 : decode cX4_opened 4 = .ok (.ireturn, 1) := by decide +kernel
theorem dX4_refused_0 : decode cX4_refused 0 = .ok (.aload_n 0, 1) := by decide +kernel
theorem dX4_refused_1 : decode cX4_refused 1 = .ok (.getfield 48, 3) := by decide +kernel
theorem dX4_refused_4 : decode cX4_refused 4 = .ok (.ireturn, 1) := by decide +kernel
theorem dX4_doneShare_0 : decode cX4_doneShare 0 = .ok (.aload_n 0, 1) := by decide +kernel
theorem dX4_doneShare_1 : decode cX4_doneShare 1 = .ok (.getfield 29, 3) := by decide +kernel
theorem dX4_doneShare_4 : decode cX4_doneShare 4 = .ok (.invokevirtual 195, 3) := by decide +kernel
theorem dX4_doneShare_7 : decode cX4_doneShare 7 = .ok (.ifCond .eq 13, 3) := by decide +kernel
theorem dX4_doneShare_10 : decode cX4_doneShare 10 = .ok (.new 209, 3) := by decide +kernel
theorem dX4_doneShare_13 : decode cX4_doneShare 13 = .ok (.dup, 1) := by decide +kernel
theorem dX4_doneShare_14 : decode cX4_doneShare 14 = .ok (.ldc 211, 2) := by decide +kernel
theorem dX4_doneShare_16 : decode cX4_doneShare 16 = .ok (.invokespecial 213, 3) := by decide +kernel
theorem dX4_doneShare_19 : decode cX4_doneShare 19 = .ok (.athrow, 1) := by decide +kernel
theorem dX4_doneShare_20 : decode cX4_doneShare 20 = .ok (.aload_n 0, 1) := by decide +kernel
theorem dX4_doneShare_21 : decode cX4_doneShare 21 = .ok (.getfield 29, 3) := by decide +kernel
theorem dX4_doneShare_24 : decode cX4_doneShare 24 = .ok (.invokevirtual 58, 3) := by decide +kernel
theorem dX4_doneShare_27 : decode cX4_doneShare 27 = .ok (.aload_n 0, 1) := by decide +kernel
theorem dX4_doneShare_28 : decode cX4_doneShare 28 = .ok (.getfield 32, 3) := by decide +kernel
theorem dX4_doneShare_31 : decode cX4_doneShare 31 = .ok (.invokevirtual 58, 3) := by decide +kernel
theorem dX4_doneShare_34 : decode cX4_doneShare 34 = .ok (.isub, 1) := by decide +kernel
theorem dX4_doneShare_35 : decode cX4_doneShare 35 = .ok (.istore_n 1, 1) := by decide +kernel
theorem dX4_doneShare_36 : decode cX4_doneShare 36 = .ok (.iload_n 1, 1) := by decide +kernel
theorem dX4_doneShare_37 : decode cX4_doneShare 37 = .ok (.i2f, 1) := by decide +kernel
theorem dX4_doneShare_38 : decode cX4_doneShare 38 = .ok (.aload_n 0, 1) := by decide +kernel
theorem dX4_doneShare_39 : decode cX4_doneShare 39 = .ok (.getfield 29, 3) := by decide +kernel
theorem dX4_doneShare_42 : decode cX4_doneShare 42 = .ok (.invokevirtual 58, 3) := by decide +kernel
theorem dX4_doneShare_45 : decode cX4_doneShare 45 = .ok (.i2f, 1) := by decide +kernel
theorem dX4_doneShare_46 : decode cX4_doneShare 46 = .ok (.fdiv, 1) := by decide +kernel
theorem dX4_doneShare_47 : decode cX4_doneShare 47 = .ok (.freturn, 1) := by decide +kernel
theorem dX4_meanWait_0 : decode cX4_meanWait 0 = .ok (.aload_n 0, 1) := by decide +kernel
theorem dX4_meanWait_1 : decode cX4_meanWait 1 = .ok (.getfield 29, 3) := by decide +kernel
theorem dX4_meanWait_4 : decode cX4_meanWait 4 = .ok (.invokevirtual 195, 3) := by decide +kernel
theorem dX4_meanWait_7 : decode cX4_meanWait 7 = .ok (.ifCond .eq 13, 3) := by decide +kernel
theorem dX4_meanWait_10 : decode cX4_meanWait 10 = .ok (.new 209, 3) := by decide +kernel
theorem dX4_meanWait_13 : decode cX4_meanWait 13 = .ok (.dup, 1) := by decide +kernel
theorem dX4_meanWait_14 : decode cX4_meanWait 14 = .ok (.ldc 211, 2) := by decide +kernel
theorem dX4_meanWait_16 : decode cX4_meanWait 16 = .ok (.invokespecial 213, 3) := by decide +kernel
theorem dX4_meanWait_19 : decode cX4_meanWait 19 = .ok (.athrow, 1) := by decide +kernel
theorem dX4_meanWait_20 : decode cX4_meanWait 20 = .ok (.iconst 0, 1) := by decide +kernel
theorem dX4_meanWait_21 : decode cX4_meanWait 21 = .ok (.istore_n 1, 1) := by decide +kernel
theorem dX4_meanWait_22 : decode cX4_meanWait 22 = .ok (.iconst 0, 1) := by decide +kernel
theorem dX4_meanWait_23 : decode cX4_meanWait 23 = .ok (.istore_n 2, 1) := by decide +kernel
theorem dX4_meanWait_24 : decode cX4_meanWait 24 = .ok (.iload_n 2, 1) := by decide +kernel
theorem dX4_meanWait_25 : decode cX4_meanWait 25 = .ok (.aload_n 0, 1) := by decide +kernel
theorem dX4_meanWait_26 : decode cX4_meanWait 26 = .ok (.getfield 29, 3) := by decide +kernel
theorem dX4_meanWait_29 : decode cX4_meanWait 29 = .ok (.invokevirtual 58, 3) := by decide +kernel
theorem dX4_meanWait_32 : decode cX4_meanWait 32 = .ok (.if_icmp .ge 26, 3) := by decide +kernel
theorem dX4_meanWait_35 : decode cX4_meanWait 35 = .ok (.iload_n 1, 1) := by decide +kernel
theorem dX4_meanWait_36 : decode cX4_meanWait 36 = .ok (.aload_n 0, 1) := by decide +kernel
theorem dX4_meanWait_37 : decode cX4_meanWait 37 = .ok (.getfield 29, 3) := by decide +kernel
theorem dX4_meanWait_40 : decode cX4_meanWait 40 = .ok (.iload_n 2, 1) := by decide +kernel
theorem dX4_meanWait_41 : decode cX4_meanWait 41 = .ok (.invokevirtual 214, 3) := by decide +kernel
theorem dX4_meanWait_44 : decode cX4_meanWait 44 = .ok (.checkcast 123, 3) := by decide +kernel
theorem dX4_meanWait_47 : decode cX4_meanWait 47 = .ok (.getfield 160, 3) := by decide +kernel
theorem dX4_meanWait_50 : decode cX4_meanWait 50 = .ok (.iadd, 1) := by decide +kernel
theorem dX4_meanWait_51 : decode cX4_meanWait 51 = .ok (.istore_n 1, 1) := by decide +kernel
theorem dX4_meanWait_52 : decode cX4_meanWait 52 = .ok (.iinc 2 1, 3) := by decide +kernel
theorem dX4_meanWait_55 : decode cX4_meanWait 55 = .ok (.goto (-31), 3) := by decide +kernel
theorem dX4_meanWait_58 : decode cX4_meanWait 58 = .ok (.iload_n 1, 1) := by decide +kernel
theorem dX4_meanWait_59 : decode cX4_meanWait 59 = .ok (.i2d, 1) := by decide +kernel
theorem dX4_meanWait_60 : decode cX4_meanWait 60 = .ok (.aload_n 0, 1) := by decide +kernel
theorem dX4_meanWait_61 : decode cX4_meanWait 61 = .ok (.getfield 29, 3) := by decide +kernel
theorem dX4_meanWait_64 : decode cX4_meanWait 64 = .ok (.invokevirtual 58, 3) := by decide +kernel
theorem dX4_meanWait_67 : decode cX4_meanWait 67 = .ok (.i2d, 1) := by decide +kernel
theorem dX4_meanWait_68 : decode cX4_meanWait 68 = .ok (.ddiv, 1) := by decide +kernel
theorem dX4_meanWait_69 : decode cX4_meanWait 69 = .ok (.dreturn, 1) := by decide +kernel
theorem dX4_badgeNumbered_0 : decode cX4_badgeNumbered 0 = .ok (.iload_n 1, 1) := by decide +kernel
theorem dX4_badgeNumbered_1 : decode cX4_badgeNumbered 1 = .ok (.ifCond .lt 14, 3) := by decide +kernel
theorem dX4_badgeNumbered_4 : decode cX4_badgeNumbered 4 = .ok (.iload_n 1, 1) := by decide +kernel
theorem dX4_badgeNumbered_5 : decode cX4_badgeNumbered 5 = .ok (.aload_n 0, 1) := by decide +kernel
theorem dX4_badgeNumbered_6 : decode cX4_badgeNumbered 6 = .ok (.getfield 22, 3) := by decide +kernel
theorem dX4_badgeNumbered_9 : decode cX4_badgeNumbered 9 = .ok (.invokevirtual 58, 3) := by decide +kernel
theorem dX4_badgeNumbered_12 : decode cX4_badgeNumbered 12 = .ok (.if_icmp .lt 13, 3) := by decide +kernel
theorem dX4_badgeNumbered_15 : decode cX4_badgeNumbered 15 = .ok (.new 79, 3) := by decide +kernel
theorem dX4_badgeNumbered_18 : decode cX4_badgeNumbered 18 = .ok (.dup, 1) := by decide +kernel
theorem dX4_badgeNumbered_19 : decode cX4_badgeNumbered 19 = .ok (.ldc 218, 2) := by decide +kernel
theorem dX4_badgeNumbered_21 : decode cX4_badgeNumbered 21 = .ok (.invokespecial 83, 3) := by decide +kernel
theorem dX4_badgeNumbered_24 : decode cX4_badgeNumbered 24 = .ok (.athrow, 1) := by decide +kernel
theorem dX4_badgeNumbered_25 : decode cX4_badgeNumbered 25 = .ok (.aload_n 0, 1) := by decide +kernel
theorem dX4_badgeNumbered_26 : decode cX4_badgeNumbered 26 = .ok (.getfield 22, 3) := by decide +kernel
theorem dX4_badgeNumbered_29 : decode cX4_badgeNumbered 29 = .ok (.iload_n 1, 1) := by decide +kernel
theorem dX4_badgeNumbered_30 : decode cX4_badgeNumbered 30 = .ok (.invokevirtual 214, 3) := by decide +kernel
theorem dX4_badgeNumbered_33 : decode cX4_badgeNumbered 33 = .ok (.checkcast 90, 3) := by decide +kernel
theorem dX4_badgeNumbered_36 : decode cX4_badgeNumbered 36 = .ok (.areturn, 1) := by decide +kernel
theorem dX4_riderNumbered_0 : decode cX4_riderNumbered 0 = .ok (.iload_n 1, 1) := by decide +kernel
theorem dX4_riderNumbered_1 : decode cX4_riderNumbered 1 = .ok (.ifCond .lt 14, 3) := by decide +kernel
theorem dX4_riderNumbered_4 : decode cX4_riderNumbered 4 = .ok (.iload_n 1, 1) := by decide +kernel
theorem dX4_riderNumbered_5 : decode cX4_riderNumbered 5 = .ok (.aload_n 0, 1) := by decide +kernel
theorem dX4_riderNumbered_6 : decode cX4_riderNumbered 6 = .ok (.getfield 29, 3) := by decide +kernel
theorem dX4_riderNumbered_9 : decode cX4_riderNumbered 9 = .ok (.invokevirtual 58, 3) := by decide +kernel
theorem dX4_riderNumbered_12 : decode cX4_riderNumbered 12 = .ok (.if_icmp .lt 13, 3) := by decide +kernel
theorem dX4_riderNumbered_15 : decode cX4_riderNumbered 15 = .ok (.new 79, 3) := by decide +kernel
theorem dX4_riderNumbered_18 : decode cX4_riderNumbered 18 = .ok (.dup, 1) := by decide +kernel
theorem dX4_riderNumbered_19 : decode cX4_riderNumbered 19 = .ok (.ldc 220, 2) := by decide +kernel
theorem dX4_riderNumbered_21 : decode cX4_riderNumbered 21 = .ok (.invokespecial 83, 3) := by decide +kernel
theorem dX4_riderNumbered_24 : decode cX4_riderNumbered 24 = .ok (.athrow, 1) := by decide +kernel
theorem dX4_riderNumbered_25 : decode cX4_riderNumbered 25 = .ok (.aload_n 0, 1) := by decide +kernel
theorem dX4_riderNumbered_26 : decode cX4_riderNumbered 26 = .ok (.getfield 29, 3) := by decide +kernel
theorem dX4_riderNumbered_29 : decode cX4_riderNumbered 29 = .ok (.iload_n 1, 1) := by decide +kernel
theorem dX4_riderNumbered_30 : decode cX4_riderNumbered 30 = .ok (.invokevirtual 214, 3) := by decide +kernel
theorem dX4_riderNumbered_33 : decode cX4_riderNumbered 33 = .ok (.checkcast 123, 3) := by decide +kernel
theorem dX4_riderNumbered_36 : decode cX4_riderNumbered 36 = .ok (.areturn, 1) := by decide +kernel
theorem dX4_liftNumbered_0 : decode cX4_liftNumbered 0 = .ok (.iload_n 1, 1) := by decide +kernel
theorem dX4_liftNumbered_1 : decode cX4_liftNumbered 1 = .ok (.ifCond .lt 14, 3) := by decide +kernel
theorem dX4_liftNumbered_4 : decode cX4_liftNumbered 4 = .ok (.iload_n 1, 1) := by decide +kernel
theorem dX4_liftNumbered_5 : decode cX4_liftNumbered 5 = .ok (.aload_n 0, 1) := by decide +kernel
theorem dX4_liftNumbered_6 : decode cX4_liftNumbered 6 = .ok (.getfield 26, 3) := by decide +kernel
theorem dX4_liftNumbered_9 : decode cX4_liftNumbered 9 = .ok (.invokevirtual 58, 3) := by decide +kernel
theorem dX4_liftNumbered_12 : decode cX4_liftNumbered 12 = .ok (.if_icmp .lt 13, 3) := by decide +kernel
theorem dX4_liftNumbered_15 : decode cX4_liftNumbered 15 = .ok (.new 79, 3) := by decide +kernel
theorem dX4_liftNumbered_18 : decode cX4_liftNumbered 18 = .ok (.dup, 1) := by decide +kernel
theorem dX4_liftNumbered_19 : decode cX4_liftNumbered 19 = .ok (.ldc 222, 2) := by decide +kernel
theorem dX4_liftNumbered_21 : decode cX4_liftNumbered 21 = .ok (.invokespecial 83, 3) := by decide +kernel
theorem dX4_liftNumbered_24 : decode cX4_liftNumbered 24 = .ok (.athrow, 1) := by decide +kernel
theorem dX4_liftNumbered_25 : decode cX4_liftNumbered 25 = .ok (.aload_n 0, 1) := by decide +kernel
theorem dX4_liftNumbered_26 : decode cX4_liftNumbered 26 = .ok (.getfield 26, 3) := by decide +kernel
theorem dX4_liftNumbered_29 : decode cX4_liftNumbered 29 = .ok (.iload_n 1, 1) := by decide +kernel
theorem dX4_liftNumbered_30 : decode cX4_liftNumbered 30 = .ok (.invokevirtual 214, 3) := by decide +kernel
theorem dX4_liftNumbered_33 : decode cX4_liftNumbered 33 = .ok (.checkcast 67, 3) := by decide +kernel
theorem dX4_liftNumbered_36 : decode cX4_liftNumbered 36 = .ok (.areturn, 1) := by decide +kernel
theorem dX4_checkFloor_0 : decode cX4_checkFloor 0 = .ok (.iload_n 0, 1) := by decide +kernel
theorem dX4_checkFloor_1 : decode cX4_checkFloor 1 = .ok (.ifCond .lt 9, 3) := by decide +kernel
theorem dX4_checkFloor_4 : decode cX4_checkFloor 4 = .ok (.iload_n 0, 1) := by decide +kernel
theorem dX4_checkFloor_5 : decode cX4_checkFloor 5 = .ok (.bipush 10, 2) := by decide +kernel
theorem dX4_checkFloor_7 : decode cX4_checkFloor 7 = .ok (.if_icmp .lt 13, 3) := by decide +kernel
theorem dX4_checkFloor_10 : decode cX4_checkFloor 10 = .ok (.new 79, 3) := by decide +kernel
theorem dX4_checkFloor_13 : decode cX4_checkFloor 13 = .ok (.dup, 1) := by decide +kernel
theorem dX4_checkFloor_14 : decode cX4_checkFloor 14 = .ok (.ldc 81, 2) := by decide +kernel
theorem dX4_checkFloor_16 : decode cX4_checkFloor 16 = .ok (.invokespecial 83, 3) := by decide +kernel
theorem dX4_checkFloor_19 : decode cX4_checkFloor 19 = .ok (.athrow, 1) := by decide +kernel
theorem dX4_checkFloor_20 : decode cX4_checkFloor 20 = .ok (.return_, 1) := by decide +kernel
theorem dX4_whyNot_0 : decode cX4_whyNot 0 = .ok (.iload_n 2, 1) := by decide +kernel
theorem dX4_whyNot_1 : decode cX4_whyNot 1 = .ok (.ifCond .le 9, 3) := by decide +kernel
theorem dX4_whyNot_4 : decode cX4_whyNot 4 = .ok (.iload_n 2, 1) := by decide +kernel
theorem dX4_whyNot_5 : decode cX4_whyNot 5 = .ok (.bipush 10, 2) := by decide +kernel
theorem dX4_whyNot_7 : decode cX4_whyNot 7 = .ok (.if_icmp .lt 6, 3) := by decide +kernel
theorem dX4_whyNot_10 : decode cX4_whyNot 10 = .ok (.bipush 110, 2) := by decide +kernel
theorem dX4_whyNot_12 : decode cX4_whyNot 12 = .ok (.ireturn, 1) := by decide +kernel
theorem dX4_whyNot_13 : decode cX4_whyNot 13 = .ok (.aload_n 1, 1) := by decide +kernel
theorem dX4_whyNot_14 : decode cX4_whyNot 14 = .ok (.getfield 99, 3) := by decide +kernel
theorem dX4_whyNot_17 : decode cX4_whyNot 17 = .ok (.ifCond .eq 6, 3) := by decide +kernel
theorem dX4_whyNot_20 : decode cX4_whyNot 20 = .ok (.bipush 114, 2) := by decide +kernel
theorem dX4_whyNot_22 : decode cX4_whyNot 22 = .ok (.ireturn, 1) := by decide +kernel
theorem dX4_whyNot_23 : decode cX4_whyNot 23 = .ok (.aload_n 0, 1) := by decide +kernel
theorem dX4_whyNot_24 : decode cX4_whyNot 24 = .ok (.getfield 9, 3) := by decide +kernel
theorem dX4_whyNot_27 : decode cX4_whyNot 27 = .ok (.iload_n 2, 1) := by decide +kernel
theorem dX4_whyNot_28 : decode cX4_whyNot 28 = .ok (.iaload, 1) := by decide +kernel
theorem dX4_whyNot_29 : decode cX4_whyNot 29 = .ok (.iconst (-1), 1) := by decide +kernel
theorem dX4_whyNot_30 : decode cX4_whyNot 30 = .ok (.if_icmp .eq 24, 3) := by decide +kernel
theorem dX4_whyNot_33 : decode cX4_whyNot 33 = .ok (.aload_n 0, 1) := by decide +kernel
theorem dX4_whyNot_34 : decode cX4_whyNot 34 = .ok (.getfield 9, 3) := by decide +kernel
theorem dX4_whyNot_37 : decode cX4_whyNot 37 = .ok (.iload_n 2, 1) := by decide +kernel
theorem dX4_whyNot_38 : decode cX4_whyNot 38 = .ok (.iaload, 1) := by decide +kernel
theorem dX4_whyNot_39 : decode cX4_whyNot 39 = .ok (.aload_n 1, 1) := by decide +kernel
theorem dX4_whyNot_40 : decode cX4_whyNot 40 = .ok (.getfield 224, 3) := by decide +kernel
theorem dX4_whyNot_43 : decode cX4_whyNot 43 = .ok (.if_icmp .ne 8, 3) := by decide +kernel
theorem dX4_whyNot_46 : decode cX4_whyNot 46 = .ok (.bipush 110, 2) := by decide +kernel
theorem dX4_whyNot_48 : decode cX4_whyNot 48 = .ok (.goto 5, 3) := by decide +kernel
theorem dX4_whyNot_51 : decode cX4_whyNot 51 = .ok (.bipush 116, 2) := by decide +kernel
theorem dX4_whyNot_53 : decode cX4_whyNot 53 = .ok (.ireturn, 1) := by decide +kernel
theorem dX4_whyNot_54 : decode cX4_whyNot 54 = .ok (.aload_n 0, 1) := by decide +kernel
theorem dX4_whyNot_55 : decode cX4_whyNot 55 = .ok (.getfield 38, 3) := by decide +kernel
theorem dX4_whyNot_58 : decode cX4_whyNot 58 = .ok (.bipush 100, 2) := by decide +kernel
theorem dX4_whyNot_60 : decode cX4_whyNot 60 = .ok (.irem, 1) := by decide +kernel
theorem dX4_whyNot_61 : decode cX4_whyNot 61 = .ok (.istore_n 3, 1) := by decide +kernel
theorem dX4_whyNot_62 : decode cX4_whyNot 62 = .ok (.aload_n 0, 1) := by decide +kernel
theorem dX4_whyNot_63 : decode cX4_whyNot 63 = .ok (.getfield 13, 3) := by decide +kernel
theorem dX4_whyNot_66 : decode cX4_whyNot 66 = .ok (.iload_n 2, 1) := by decide +kernel
theorem dX4_whyNot_67 : decode cX4_whyNot 67 = .ok (.iaload, 1) := by decide +kernel
theorem dX4_whyNot_68 : decode cX4_whyNot 68 = .ok (.iload_n 3, 1) := by decide +kernel
theorem dX4_whyNot_69 : decode cX4_whyNot 69 = .ok (.if_icmp .gt 18, 3) := by decide +kernel
theorem dX4_whyNot_72 : decode cX4_whyNot 72 = .ok (.iload_n 3, 1) := by decide +kernel
theorem dX4_whyNot_73 : decode cX4_whyNot 73 = .ok (.aload_n 0, 1) := by decide +kernel
theorem dX4_whyNot_74 : decode cX4_whyNot 74 = .ok (.getfield 16, 3) := by decide +kernel
theorem dX4_whyNot_77 : decode cX4_whyNot 77 = .ok (.iload_n 2, 1) := by decide +kernel
theorem dX4_whyNot_78 : decode cX4_whyNot 78 = .ok (.iaload, 1) := by decide +kernel
theorem dX4_whyNot_79 : decode cX4_whyNot 79 = .ok (.if_icmp .ge 8, 3) := by decide +kernel
theorem dX4_whyNot_82 : decode cX4_whyNot 82 = .ok (.bipush 110, 2) := by decide +kernel
theorem dX4_whyNot_84 : decode cX4_whyNot 84 = .ok (.goto 5, 3) := by decide +kernel
theorem dX4_whyNot_87 : decode cX4_whyNot 87 = .ok (.bipush 104, 2) := by decide +kernel
theorem dX4_whyNot_89 : decode cX4_whyNot 89 = .ok (.ireturn, 1) := by decide +kernel
theorem dX4_hasRider_0 : decode cX4_hasRider 0 = .ok (.iconst 0, 1) := by decide +kernel
theorem dX4_hasRider_1 : decode cX4_hasRider 1 = .ok (.istore_n 2, 1) := by decide +kernel
theorem dX4_hasRider_2 : decode cX4_hasRider 2 = .ok (.iload_n 2, 1) := by decide +kernel
theorem dX4_hasRider_3 : decode cX4_hasRider 3 = .ok (.aload_n 0, 1) := by decide +kernel
theorem dX4_hasRider_4 : decode cX4_hasRider 4 = .ok (.getfield 32, 3) := by decide +kernel
theorem dX4_hasRider_7 : decode cX4_hasRider 7 = .ok (.invokevirtual 58, 3) := by decide +kernel
theorem dX4_hasRider_10 : decode cX4_hasRider 10 = .ok (.if_icmp .ge 29, 3) := by decide +kernel
theorem dX4_hasRider_13 : decode cX4_hasRider 13 = .ok (.aload_n 0, 1) := by decide +kernel
theorem dX4_hasRider_14 : decode cX4_hasRider 14 = .ok (.getfield 32, 3) := by decide +kernel
theorem dX4_hasRider_17 : decode cX4_hasRider 17 = .ok (.iload_n 2, 1) := by decide +kernel
theorem dX4_hasRider_18 : decode cX4_hasRider 18 = .ok (.invokevirtual 214, 3) := by decide +kernel
theorem dX4_hasRider_21 : decode cX4_hasRider 21 = .ok (.checkcast 123, 3) := by decide +kernel
theorem dX4_hasRider_24 : decode cX4_hasRider 24 = .ok (.getfield 227, 3) := by decide +kernel
theorem dX4_hasRider_27 : decode cX4_hasRider 27 = .ok (.aload_n 1, 1) := by decide +kernel
theorem dX4_hasRider_28 : decode cX4_hasRider 28 = .ok (.if_acmp .ne 5, 3) := by decide +kernel
theorem dX4_hasRider_31 : decode cX4_hasRider 31 = .ok (.iconst 1, 1) := by decide +kernel
theorem dX4_hasRider_32 : decode cX4_hasRider 32 = .ok (.ireturn, 1) := by decide +kernel
theorem dX4_hasRider_33 : decode cX4_hasRider 33 = .ok (.iinc 2 1, 3) := by decide +kernel
theorem dX4_hasRider_36 : decode cX4_hasRider 36 = .ok (.goto (-34), 3) := by decide +kernel
theorem dX4_hasRider_39 : decode cX4_hasRider 39 = .ok (.iconst 0, 1) := by decide +kernel
theorem dX4_hasRider_40 : decode cX4_hasRider 40 = .ok (.ireturn, 1) := by decide +kernel
theorem dX4_countAboard_0 : decode cX4_countAboard 0 = .ok (.iconst 0, 1) := by decide +kernel
theorem dX4_countAboard_1 : decode cX4_countAboard 1 = .ok (.istore_n 2, 1) := by decide +kernel
theorem dX4_countAboard_2 : decode cX4_countAboard 2 = .ok (.iconst 0, 1) := by decide +kernel
theorem dX4_countAboard_3 : decode cX4_countAboard 3 = .ok (.istore_n 3, 1) := by decide +kernel
theorem dX4_countAboard_4 : decode cX4_countAboard 4 = .ok (.iload_n 3, 1) := by decide +kernel
theorem dX4_countAboard_5 : decode cX4_countAboard 5 = .ok (.aload_n 0, 1) := by decide +kernel
theorem dX4_countAboard_6 : decode cX4_countAboard 6 = .ok (.getfield 32, 3) := by decide +kernel
theorem dX4_countAboard_9 : decode cX4_countAboard 9 = .ok (.invokevirtual 58, 3) := by decide +kernel
theorem dX4_countAboard_12 : decode cX4_countAboard 12 = .ok (.if_icmp .ge 30, 3) := by decide +kernel
theorem dX4_countAboard_15 : decode cX4_countAboard 15 = .ok (.aload_n 0, 1) := by decide +kernel
theorem dX4_countAboard_16 : decode cX4_countAboard 16 = .ok (.getfield 32, 3) := by decide +kernel
theorem dX4_countAboard_19 : decode cX4_countAboard 19 = .ok (.iload_n 3, 1) := by decide +kernel
theorem dX4_countAboard_20 : decode cX4_countAboard 20 = .ok (.invokevirtual 214, 3) := by decide +kernel
theorem dX4_countAboard_23 : decode cX4_countAboard 23 = .ok (.checkcast 123, 3) := by decide +kernel
theorem dX4_countAboard_26 : decode cX4_countAboard 26 = .ok (.aload_n 1, 1) := by decide +kernel
theorem dX4_countAboard_27 : decode cX4_countAboard 27 = .ok (.invokevirtual 231, 3) := by decide +kernel
theorem dX4_countAboard_30 : decode cX4_countAboard 30 = .ok (.ifCond .eq 6, 3) := by decide +kernel
theorem dX4_countAboard_33 : decode cX4_countAboard 33 = .ok (.iinc 2 1, 3) := by decide +kernel
theorem dX4_countAboard_36 : decode cX4_countAboard 36 = .ok (.iinc 3 1, 3) := by decide +kernel
theorem dX4_countAboard_39 : decode cX4_countAboard 39 = .ok (.goto (-35), 3) := by decide +kernel
theorem dX4_countAboard_42 : decode cX4_countAboard 42 = .ok (.iload_n 2, 1) := by decide +kernel
theorem dX4_countAboard_43 : decode cX4_countAboard 43 = .ok (.ireturn, 1) := by decide +kernel
theorem dX4_hasRoom_0 : decode cX4_hasRoom 0 = .ok (.aload_n 1, 1) := by decide +kernel
theorem dX4_hasRoom_1 : decode cX4_hasRoom 1 = .ok (.getfield 171, 3) := by decide +kernel
theorem dX4_hasRoom_4 : decode cX4_hasRoom 4 = .ok (.bipush 115, 2) := by decide +kernel
theorem dX4_hasRoom_6 : decode cX4_hasRoom 6 = .ok (.if_icmp .ne 19, 3) := by decide +kernel
theorem dX4_hasRoom_9 : decode cX4_hasRoom 9 = .ok (.aload_n 0, 1) := by decide +kernel
theorem dX4_hasRoom_10 : decode cX4_hasRoom 10 = .ok (.aload_n 1, 1) := by decide +kernel
theorem dX4_hasRoom_11 : decode cX4_hasRoom 11 = .ok (.invokevirtual 183, 3) := by decide +kernel
theorem dX4_hasRoom_14 : decode cX4_hasRoom 14 = .ok (.aload_n 1, 1) := by decide +kernel
theorem dX4_hasRoom_15 : decode cX4_hasRoom 15 = .ok (.getfield 235, 3) := by decide +kernel
theorem dX4_hasRoom_18 : decode cX4_hasRoom 18 = .ok (.if_icmp .ge 7, 3) := by decide +kernel
theorem dX4_hasRoom_21 : decode cX4_hasRoom 21 = .ok (.iconst 1, 1) := by decide +kernel
theorem dX4_hasRoom_22 : decode cX4_hasRoom 22 = .ok (.goto 4, 3) := by decide +kernel
theorem dX4_hasRoom_25 : decode cX4_hasRoom 25 = .ok (.iconst 0, 1) := by decide +kernel
theorem dX4_hasRoom_26 : decode cX4_hasRoom 26 = .ok (.ireturn, 1) := by decide +kernel
theorem dX4_note_0 : decode cX4_note 0 = .ok (.aload_n 0, 1) := by decide +kernel
theorem dX4_note_1 : decode cX4_note 1 = .ok (.getfield 35, 3) := by decide +kernel
theorem dX4_note_4 : decode cX4_note 4 = .ok (.new 238, 3) := by decide +kernel
theorem dX4_note_7 : decode cX4_note 7 = .ok (.dup, 1) := by decide +kernel
theorem dX4_note_8 : decode cX4_note 8 = .ok (.aload_n 1, 1) := by decide +kernel
theorem dX4_note_9 : decode cX4_note 9 = .ok (.getfield 135, 3) := by decide +kernel
theorem dX4_note_12 : decode cX4_note 12 = .ok (.aload_n 1, 1) := by decide +kernel
theorem dX4_note_13 : decode cX4_note 13 = .ok (.getfield 140, 3) := by decide +kernel
theorem dX4_note_16 : decode cX4_note 16 = .ok (.aload_n 0, 1) := by decide +kernel
theorem dX4_note_17 : decode cX4_note 17 = .ok (.getfield 38, 3) := by decide +kernel
theorem dX4_note_20 : decode cX4_note 20 = .ok (.invokespecial 240, 3) := by decide +kernel
theorem dX4_note_23 : decode cX4_note 23 = .ok (.invokevirtual 72, 3) := by decide +kernel
theorem dX4_note_26 : decode cX4_note 26 = .ok (.pop, 1) := by decide +kernel
theorem dX4_note_27 : decode cX4_note 27 = .ok (.return_, 1) := by decide +kernel
theorem dX4_ticksByLog_0 : decode cX4_ticksByLog 0 = .ok (.aload_n 0, 1) := by decide +kernel
theorem dX4_ticksByLog_1 : decode cX4_ticksByLog 1 = .ok (.getfield 38, 3) := by decide +kernel
theorem dX4_ticksByLog_4 : decode cX4_ticksByLog 4 = .ok (.istore_n 2, 1) := by decide +kernel
theorem dX4_ticksByLog_5 : decode cX4_ticksByLog 5 = .ok (.iconst 0, 1) := by decide +kernel
theorem dX4_ticksByLog_6 : decode cX4_ticksByLog 6 = .ok (.istore_n 3, 1) := by decide +kernel
theorem dX4_ticksByLog_7 : decode cX4_ticksByLog 7 = .ok (.iload_n 3, 1) := by decide +kernel
theorem dX4_ticksByLog_8 : decode cX4_ticksByLog 8 = .ok (.aload_n 0, 1) := by decide +kernel
theorem dX4_ticksByLog_9 : decode cX4_ticksByLog 9 = .ok (.getfield 35, 3) := by decide +kernel
theorem dX4_ticksByLog_12 : decode cX4_ticksByLog 12 = .ok (.invokevirtual 58, 3) := by decide +kernel
theorem dX4_ticksByLog_15 : decode cX4_ticksByLog 15 = .ok (.if_icmp .ge 58, 3) := by decide +kernel
theorem dX4_ticksByLog_18 : decode cX4_ticksByLog 18 = .ok (.aload_n 0, 1) := by decide +kernel
theorem dX4_ticksByLog_19 : decode cX4_ticksByLog 19 = .ok (.getfield 35, 3) := by decide +kernel
theorem dX4_ticksByLog_22 : decode cX4_ticksByLog 22 = .ok (.iload_n 3, 1) := by decide +kernel
theorem dX4_ticksByLog_23 : decode cX4_ticksByLog 23 = .ok (.invokevirtual 214, 3) := by decide +kernel
theorem dX4_ticksByLog_26 : decode cX4_ticksByLog 26 = .ok (.checkcast 238, 3) := by decide +kernel
theorem dX4_ticksByLog_29 : decode cX4_ticksByLog 29 = .ok (.astore 4, 2) := by decide +kernel
theorem dX4_ticksByLog_31 : decode cX4_ticksByLog 31 = .ok (.aload 4, 2) := by decide +kernel
theorem dX4_ticksByLog_33 : decode cX4_ticksByLog 33 = .ok (.getfield 243, 3) := by decide +kernel
theorem dX4_ticksByLog_36 : decode cX4_ticksByLog 36 = .ok (.aload_n 1, 1) := by decide +kernel
theorem dX4_ticksByLog_37 : decode cX4_ticksByLog 37 = .ok (.getfield 135, 3) := by decide +kernel
theorem dX4_ticksByLog_40 : decode cX4_ticksByLog 40 = .ok (.if_icmp .ne 27, 3) := by decide +kernel
theorem dX4_ticksByLog_43 : decode cX4_ticksByLog 43 = .ok (.aload 4, 2) := by decide +kernel
theorem dX4_ticksByLog_45 : decode cX4_ticksByLog 45 = .ok (.getfield 246, 3) := by decide +kernel
theorem dX4_ticksByLog_48 : decode cX4_ticksByLog 48 = .ok (.bipush 119, 2) := by decide +kernel
theorem dX4_ticksByLog_50 : decode cX4_ticksByLog 50 = .ok (.if_icmp .eq 11, 3) := by decide +kernel
theorem dX4_ticksByLog_53 : decode cX4_ticksByLog 53 = .ok (.aload 4, 2) := by decide +kernel
theorem dX4_ticksByLog_55 : decode cX4_ticksByLog 55 = .ok (.getfield 247, 3) := by decide +kernel
theorem dX4_ticksByLog_58 : decode cX4_ticksByLog 58 = .ok (.iload_n 2, 1) := by decide +kernel
theorem dX4_ticksByLog_59 : decode cX4_ticksByLog 59 = .ok (.isub, 1) := by decide +kernel
theorem dX4_ticksByLog_60 : decode cX4_ticksByLog 60 = .ok (.ireturn, 1) := by decide +kernel
theorem dX4_ticksByLog_61 : decode cX4_ticksByLog 61 = .ok (.aload 4, 2) := by decide +kernel
theorem dX4_ticksByLog_63 : decode cX4_ticksByLog 63 = .ok (.getfield 247, 3) := by decide +kernel
theorem dX4_ticksByLog_66 : decode cX4_ticksByLog 66 = .ok (.istore_n 2, 1) := by decide +kernel
theorem dX4_ticksByLog_67 : decode cX4_ticksByLog 67 = .ok (.iinc 3 1, 3) := by decide +kernel
theorem dX4_ticksByLog_70 : decode cX4_ticksByLog 70 = .ok (.goto (-63), 3) := by decide +kernel
theorem dX4_ticksByLog_73 : decode cX4_ticksByLog 73 = .ok (.aload_n 0, 1) := by decide +kernel
theorem dX4_ticksByLog_74 : decode cX4_ticksByLog 74 = .ok (.getfield 38, 3) := by decide +kernel
theorem dX4_ticksByLog_77 : decode cX4_ticksByLog 77 = .ok (.iload_n 2, 1) := by decide +kernel
theorem dX4_ticksByLog_78 : decode cX4_ticksByLog 78 = .ok (.isub, 1) := by decide +kernel
theorem dX4_ticksByLog_79 : decode cX4_ticksByLog 79 = .ok (.ireturn, 1) := by decide +kernel
theorem dX4_goAboard_0 : decode cX4_goAboard 0 = .ok (.aload_n 1, 1) := by decide +kernel
theorem dX4_goAboard_1 : decode cX4_goAboard 1 = .ok (.bipush 97, 2) := by decide +kernel
theorem dX4_goAboard_3 : decode cX4_goAboard 3 = .ok (.putfield 140, 3) := by decide +kernel
theorem dX4_goAboard_6 : decode cX4_goAboard 6 = .ok (.aload_n 0, 1) := by decide +kernel
theorem dX4_goAboard_7 : decode cX4_goAboard 7 = .ok (.aload_n 1, 1) := by decide +kernel
theorem dX4_goAboard_8 : decode cX4_goAboard 8 = .ok (.invokevirtual 128, 3) := by decide +kernel
theorem dX4_goAboard_11 : decode cX4_goAboard 11 = .ok (.return_, 1) := by decide +kernel
theorem dX4_finish_0 : decode cX4_finish 0 = .ok (.aload_n 1, 1) := by decide +kernel
theorem dX4_finish_1 : decode cX4_finish 1 = .ok (.bipush 100, 2) := by decide +kernel
theorem dX4_finish_3 : decode cX4_finish 3 = .ok (.putfield 140, 3) := by decide +kernel
theorem dX4_finish_6 : decode cX4_finish 6 = .ok (.aload_n 1, 1) := by decide +kernel
theorem dX4_finish_7 : decode cX4_finish 7 = .ok (.iload_n 2, 1) := by decide +kernel
theorem dX4_finish_8 : decode cX4_finish 8 = .ok (.putfield 151, 3) := by decide +kernel
theorem dX4_finish_11 : decode cX4_finish 11 = .ok (.aload_n 1, 1) := by decide +kernel
theorem dX4_finish_12 : decode cX4_finish 12 = .ok (.aconst_null, 1) := by decide +kernel
theorem dX4_finish_13 : decode cX4_finish 13 = .ok (.putfield 144, 3) := by decide +kernel
theorem dX4_finish_16 : decode cX4_finish 16 = .ok (.aload_n 0, 1) := by decide +kernel
theorem dX4_finish_17 : decode cX4_finish 17 = .ok (.aload_n 1, 1) := by decide +kernel
theorem dX4_finish_18 : decode cX4_finish 18 = .ok (.invokevirtual 128, 3) := by decide +kernel
theorem dX4_finish_21 : decode cX4_finish 21 = .ok (.return_, 1) := by decide +kernel
theorem dX4_scoreOf_0 : decode cX4_scoreOf 0 = .ok (.aload_n 1, 1) := by decide +kernel
theorem dX4_scoreOf_1 : decode cX4_scoreOf 1 = .ok (.getfield 148, 3) := by decide +kernel
theorem dX4_scoreOf_4 : decode cX4_scoreOf 4 = .ok (.iload_n 2, 1) := by decide +kernel
theorem dX4_scoreOf_5 : decode cX4_scoreOf 5 = .ok (.isub, 1) := by decide +kernel
theorem dX4_scoreOf_6 : decode cX4_scoreOf 6 = .ok (.invokestatic 250, 3) := by decide +kernel
theorem dX4_scoreOf_9 : decode cX4_scoreOf 9 = .ok (.istore_n 3, 1) := by decide +kernel
theorem dX4_scoreOf_10 : decode cX4_scoreOf 10 = .ok (.iconst 0, 1) := by decide +kernel
theorem dX4_scoreOf_11 : decode cX4_scoreOf 11 = .ok (.istore 4, 2) := by decide +kernel
theorem dX4_scoreOf_13 : decode cX4_scoreOf 13 = .ok (.iload 4, 2) := by decide +kernel
theorem dX4_scoreOf_15 : decode cX4_scoreOf 15 = .ok (.aload_n 0, 1) := by decide +kernel
theorem dX4_scoreOf_16 : decode cX4_scoreOf 16 = .ok (.getfield 32, 3) := by decide +kernel
theorem dX4_scoreOf_19 : decode cX4_scoreOf 19 = .ok (.invokevirtual 58, 3) := by decide +kernel
theorem dX4_scoreOf_22 : decode cX4_scoreOf 22 = .ok (.if_icmp .ge 31, 3) := by decide +kernel
theorem dX4_scoreOf_25 : decode cX4_scoreOf 25 = .ok (.aload_n 0, 1) := by decide +kernel
theorem dX4_scoreOf_26 : decode cX4_scoreOf 26 = .ok (.getfield 32, 3) := by decide +kernel
theorem dX4_scoreOf_29 : decode cX4_scoreOf 29 = .ok (.iload 4, 2) := by decide +kernel
theorem dX4_scoreOf_31 : decode cX4_scoreOf 31 = .ok (.invokevirtual 214, 3) := by decide +kernel
theorem dX4_scoreOf_34 : decode cX4_scoreOf 34 = .ok (.checkcast 123, 3) := by decide +kernel
theorem dX4_scoreOf_37 : decode cX4_scoreOf 37 = .ok (.getfield 144, 3) := by decide +kernel
theorem dX4_scoreOf_40 : decode cX4_scoreOf 40 = .ok (.aload_n 1, 1) := by decide +kernel
theorem dX4_scoreOf_41 : decode cX4_scoreOf 41 = .ok (.if_acmp .ne 6, 3) := by decide +kernel
theorem dX4_scoreOf_44 : decode cX4_scoreOf 44 = .ok (.iinc 3 2, 3) := by decide +kernel
theorem dX4_scoreOf_47 : decode cX4_scoreOf 47 = .ok (.iinc 4 1, 3) := by decide +kernel
theorem dX4_scoreOf_50 : decode cX4_scoreOf 50 = .ok (.goto (-37), 3) := by decide +kernel
theorem dX4_scoreOf_53 : decode cX4_scoreOf 53 = .ok (.iload_n 3, 1) := by decide +kernel
theorem dX4_scoreOf_54 : decode cX4_scoreOf 54 = .ok (.ireturn, 1) := by decide +kernel
theorem dX4_giveLift_0 : decode cX4_giveLift 0 = .ok (.aconst_null, 1) := by decide +kernel
theorem dX4_giveLift_1 : decode cX4_giveLift 1 = .ok (.astore_n 2, 1) := by decide +kernel
theorem dX4_giveLift_2 : decode cX4_giveLift 2 = .ok (.iconst 0, 1) := by decide +kernel
theorem dX4_giveLift_3 : decode cX4_giveLift 3 = .ok (.istore_n 3, 1) := by decide +kernel
theorem dX4_giveLift_4 : decode cX4_giveLift 4 = .ok (.iconst 0, 1) := by decide +kernel
theorem dX4_giveLift_5 : decode cX4_giveLift 5 = .ok (.istore 4, 2) := by decide +kernel
theorem dX4_giveLift_7 : decode cX4_giveLift 7 = .ok (.iload 4, 2) := by decide +kernel
theorem dX4_giveLift_9 : decode cX4_giveLift 9 = .ok (.aload_n 0, 1) := by decide +kernel
theorem dX4_giveLift_10 : decode cX4_giveLift 10 = .ok (.getfield 26, 3) := by decide +kernel
theorem dX4_giveLift_13 : decode cX4_giveLift 13 = .ok (.invokevirtual 58, 3) := by decide +kernel
theorem dX4_giveLift_16 : decode cX4_giveLift 16 = .ok (.if_icmp .ge 61, 3) := by decide +kernel
theorem dX4_giveLift_19 : decode cX4_giveLift 19 = .ok (.aload_n 0, 1) := by decide +kernel
theorem dX4_giveLift_20 : decode cX4_giveLift 20 = .ok (.getfield 26, 3) := by decide +kernel
theorem dX4_giveLift_23 : decode cX4_giveLift 23 = .ok (.iload 4, 2) := by decide +kernel
theorem dX4_giveLift_25 : decode cX4_giveLift 25 = .ok (.invokevirtual 214, 3) := by decide +kernel
theorem dX4_giveLift_28 : decode cX4_giveLift 28 = .ok (.checkcast 67, 3) := by decide +kernel
theorem dX4_giveLift_31 : decode cX4_giveLift 31 = .ok (.astore 5, 2) := by decide +kernel
theorem dX4_giveLift_33 : decode cX4_giveLift 33 = .ok (.aload 5, 2) := by decide +kernel
theorem dX4_giveLift_35 : decode cX4_giveLift 35 = .ok (.getfield 171, 3) := by decide +kernel
theorem dX4_giveLift_38 : decode cX4_giveLift 38 = .ok (.bipush 115, 2) := by decide +kernel
theorem dX4_giveLift_40 : decode cX4_giveLift 40 = .ok (.if_icmp .ne 31, 3) := by decide +kernel
theorem dX4_giveLift_43 : decode cX4_giveLift 43 = .ok (.aload_n 0, 1) := by decide +kernel
theorem dX4_giveLift_44 : decode cX4_giveLift 44 = .ok (.aload 5, 2) := by decide +kernel
theorem dX4_giveLift_46 : decode cX4_giveLift 46 = .ok (.aload_n 1, 1) := by decide +kernel
theorem dX4_giveLift_47 : decode cX4_giveLift 47 = .ok (.getfield 151, 3) := by decide +kernel
theorem dX4_giveLift_50 : decode cX4_giveLift 50 = .ok (.invokevirtual 186, 3) := by decide +kernel
theorem dX4_giveLift_53 : decode cX4_giveLift 53 = .ok (.istore 6, 2) := by decide +kernel
theorem dX4_giveLift_55 : decode cX4_giveLift 55 = .ok (.aload_n 2, 1) := by decide +kernel
theorem dX4_giveLift_56 : decode cX4_giveLift 56 = .ok (.ifnull 9, 3) := by decide +kernel
theorem dX4_giveLift_59 : decode cX4_giveLift 59 = .ok (.iload 6, 2) := by decide +kernel
theorem dX4_giveLift_61 : decode cX4_giveLift 61 = .ok (.iload_n 3, 1) := by decide +kernel
theorem dX4_giveLift_62 : decode cX4_giveLift 62 = .ok (.if_icmp .ge 9, 3) := by decide +kernel
theorem dX4_giveLift_65 : decode cX4_giveLift 65 = .ok (.aload 5, 2) := by decide +kernel
theorem dX4_giveLift_67 : decode cX4_giveLift 67 = .ok (.astore_n 2, 1) := by decide +kernel
theorem dX4_giveLift_68 : decode cX4_giveLift 68 = .ok (.iload 6, 2) := by decide +kernel
theorem dX4_giveLift_70 : decode cX4_giveLift 70 = .ok (.istore_n 3, 1) := by decide +kernel
theorem dX4_giveLift_71 : decode cX4_giveLift 71 = .ok (.iinc 4 1, 3) := by decide +kernel
theorem dX4_giveLift_74 : decode cX4_giveLift 74 = .ok (.goto (-67), 3) := by decide +kernel
theorem dX4_giveLift_77 : decode cX4_giveLift 77 = .ok (.aload_n 1, 1) := by decide +kernel
theorem dX4_giveLift_78 : decode cX4_giveLift 78 = .ok (.aload_n 2, 1) := by decide +kernel
theorem dX4_giveLift_79 : decode cX4_giveLift 79 = .ok (.putfield 144, 3) := by decide +kernel
theorem dX4_giveLift_82 : decode cX4_giveLift 82 = .ok (.return_, 1) := by decide +kernel
theorem dX4_giveLiftsToAll_0 : decode cX4_giveLiftsToAll 0 = .ok (.iconst 0, 1) := by decide +kernel
theorem dX4_giveLiftsToAll_1 : decode cX4_giveLiftsToAll 1 = .ok (.istore_n 1, 1) := by decide +kernel
theorem dX4_giveLiftsToAll_2 : decode cX4_giveLiftsToAll 2 = .ok (.iload_n 1, 1) := by decide +kernel
theorem dX4_giveLiftsToAll_3 : decode cX4_giveLiftsToAll 3 = .ok (.aload_n 0, 1) := by decide +kernel
theorem dX4_giveLiftsToAll_4 : decode cX4_giveLiftsToAll 4 = .ok (.getfield 32, 3) := by decide +kernel
theorem dX4_giveLiftsToAll_7 : decode cX4_giveLiftsToAll 7 = .ok (.invokevirtual 58, 3) := by decide +kernel
theorem dX4_giveLiftsToAll_10 : decode cX4_giveLiftsToAll 10 = .ok (.if_icmp .ge 42, 3) := by decide +kernel
theorem dX4_giveLiftsToAll_13 : decode cX4_giveLiftsToAll 13 = .ok (.aload_n 0, 1) := by decide +kernel
theorem dX4_giveLiftsToAll_14 : decode cX4_giveLiftsToAll 14 = .ok (.getfield 32, 3) := by decide +kernel
theorem dX4_giveLiftsToAll_17 : decode cX4_giveLiftsToAll 17 = .ok (.iload_n 1, 1) := by decide +kernel
theorem dX4_giveLiftsToAll_18 : decode cX4_giveLiftsToAll 18 = .ok (.invokevirtual 214, 3) := by decide +kernel
theorem dX4_giveLiftsToAll_21 : decode cX4_giveLiftsToAll 21 = .ok (.checkcast 123, 3) := by decide +kernel
theorem dX4_giveLiftsToAll_24 : decode cX4_giveLiftsToAll 24 = .ok (.astore_n 2, 1) := by decide +kernel
theorem dX4_giveLiftsToAll_25 : decode cX4_giveLiftsToAll 25 = .ok (.aload_n 2, 1) := by decide +kernel
theorem dX4_giveLiftsToAll_26 : decode cX4_giveLiftsToAll 26 = .ok (.getfield 140, 3) := by decide +kernel
theorem dX4_giveLiftsToAll_29 : decode cX4_giveLiftsToAll 29 = .ok (.bipush 119, 2) := by decide +kernel
theorem dX4_giveLiftsToAll_31 : decode cX4_giveLiftsToAll 31 = .ok (.if_icmp .ne 15, 3) := by decide +kernel
theorem dX4_giveLiftsToAll_34 : decode cX4_giveLiftsToAll 34 = .ok (.aload_n 2, 1) := by decide +kernel
theorem dX4_giveLiftsToAll_35 : decode cX4_giveLiftsToAll 35 = .ok (.getfield 144, 3) := by decide +kernel
theorem dX4_giveLiftsToAll_38 : decode cX4_giveLiftsToAll 38 = .ok (.ifnonnull 8, 3) := by decide +kernel
theorem dX4_giveLiftsToAll_41 : decode cX4_giveLiftsToAll 41 = .ok (.aload_n 0, 1) := by decide +kernel
theorem dX4_giveLiftsToAll_42 : decode cX4_giveLiftsToAll 42 = .ok (.aload_n 2, 1) := by decide +kernel
theorem dX4_giveLiftsToAll_43 : decode cX4_giveLiftsToAll 43 = .ok (.invokevirtual 132, 3) := by decide +kernel
theorem dX4_giveLiftsToAll_46 : decode cX4_giveLiftsToAll 46 = .ok (.iinc 1 1, 3) := by decide +kernel
theorem dX4_giveLiftsToAll_49 : decode cX4_giveLiftsToAll 49 = .ok (.goto (-47), 3) := by decide +kernel
theorem dX4_giveLiftsToAll_52 : decode cX4_giveLiftsToAll 52 = .ok (.return_, 1) := by decide +kernel
theorem dX4_giveLiftsInTurn_0 : decode cX4_giveLiftsInTurn 0 = .ok (.aload_n 0, 1) := by decide +kernel
theorem dX4_giveLiftsInTurn_1 : decode cX4_giveLiftsInTurn 1 = .ok (.invokevirtual 204, 3) := by decide +kernel
theorem dX4_giveLiftsInTurn_4 : decode cX4_giveLiftsInTurn 4 = .ok (.istore_n 1, 1) := by decide +kernel
theorem dX4_giveLiftsInTurn_5 : decode cX4_giveLiftsInTurn 5 = .ok (.iconst 0, 1) := by decide +kernel
theorem dX4_giveLiftsInTurn_6 : decode cX4_giveLiftsInTurn 6 = .ok (.istore_n 2, 1) := by decide +kernel
theorem dX4_giveLiftsInTurn_7 : decode cX4_giveLiftsInTurn 7 = .ok (.iload_n 2, 1) := by decide +kernel
theorem dX4_giveLiftsInTurn_8 : decode cX4_giveLiftsInTurn 8 = .ok (.aload_n 0, 1) := by decide +kernel
theorem dX4_giveLiftsInTurn_9 : decode cX4_giveLiftsInTurn 9 = .ok (.getfield 26, 3) := by decide +kernel
theorem dX4_giveLiftsInTurn_12 : decode cX4_giveLiftsInTurn 12 = .ok (.invokevirtual 58, 3) := by decide +kernel
theorem dX4_giveLiftsInTurn_15 : decode cX4_giveLiftsInTurn 15 = .ok (.if_icmp .ge 25, 3) := by decide +kernel
theorem dX4_giveLiftsInTurn_18 : decode cX4_giveLiftsInTurn 18 = .ok (.aload_n 0, 1) := by decide +kernel
theorem dX4_giveLiftsInTurn_19 : decode cX4_giveLiftsInTurn 19 = .ok (.aload_n 0, 1) := by decide +kernel
theorem dX4_giveLiftsInTurn_20 : decode cX4_giveLiftsInTurn 20 = .ok (.getfield 26, 3) := by decide +kernel
theorem dX4_giveLiftsInTurn_23 : decode cX4_giveLiftsInTurn 23 = .ok (.iload_n 2, 1) := by decide +kernel
theorem dX4_giveLiftsInTurn_24 : decode cX4_giveLiftsInTurn 24 = .ok (.invokevirtual 214, 3) := by decide +kernel
theorem dX4_giveLiftsInTurn_27 : decode cX4_giveLiftsInTurn 27 = .ok (.checkcast 67, 3) := by decide +kernel
theorem dX4_giveLiftsInTurn_30 : decode cX4_giveLiftsInTurn 30 = .ok (.invokevirtual 176, 3) := by decide +kernel
theorem dX4_giveLiftsInTurn_33 : decode cX4_giveLiftsInTurn 33 = .ok (.pop, 1) := by decide +kernel
theorem dX4_giveLiftsInTurn_34 : decode cX4_giveLiftsInTurn 34 = .ok (.iinc 2 1, 3) := by decide +kernel
theorem dX4_giveLiftsInTurn_37 : decode cX4_giveLiftsInTurn 37 = .ok (.goto (-30), 3) := by decide +kernel
theorem dX4_giveLiftsInTurn_40 : decode cX4_giveLiftsInTurn 40 = .ok (.iconst 0, 1) := by decide +kernel
theorem dX4_giveLiftsInTurn_41 : decode cX4_giveLiftsInTurn 41 = .ok (.istore_n 2, 1) := by decide +kernel
theorem dX4_giveLiftsInTurn_42 : decode cX4_giveLiftsInTurn 42 = .ok (.iload_n 2, 1) := by decide +kernel
theorem dX4_giveLiftsInTurn_43 : decode cX4_giveLiftsInTurn 43 = .ok (.aload_n 0, 1) := by decide +kernel
theorem dX4_giveLiftsInTurn_44 : decode cX4_giveLiftsInTurn 44 = .ok (.getfield 32, 3) := by decide +kernel
theorem dX4_giveLiftsInTurn_47 : decode cX4_giveLiftsInTurn 47 = .ok (.invokevirtual 58, 3) := by decide +kernel
theorem dX4_giveLiftsInTurn_50 : decode cX4_giveLiftsInTurn 50 = .ok (.if_icmp .ge 43, 3) := by decide +kernel
theorem dX4_giveLiftsInTurn_53 : decode cX4_giveLiftsInTurn 53 = .ok (.aload_n 0, 1) := by decide +kernel
theorem dX4_giveLiftsInTurn_54 : decode cX4_giveLiftsInTurn 54 = .ok (.getfield 32, 3) := by decide +kernel
theorem dX4_giveLiftsInTurn_57 : decode cX4_giveLiftsInTurn 57 = .ok (.iload_n 2, 1) := by decide +kernel
theorem dX4_giveLiftsInTurn_58 : decode cX4_giveLiftsInTurn 58 = .ok (.invokevirtual 214, 3) := by decide +kernel
theorem dX4_giveLiftsInTurn_61 : decode cX4_giveLiftsInTurn 61 = .ok (.checkcast 123, 3) := by decide +kernel
theorem dX4_giveLiftsInTurn_64 : decode cX4_giveLiftsInTurn 64 = .ok (.astore_n 3, 1) := by decide +kernel
theorem dX4_giveLiftsInTurn_65 : decode cX4_giveLiftsInTurn 65 = .ok (.aload_n 3, 1) := by decide +kernel
theorem dX4_giveLiftsInTurn_66 : decode cX4_giveLiftsInTurn 66 = .ok (.getfield 140, 3) := by decide +kernel
theorem dX4_giveLiftsInTurn_69 : decode cX4_giveLiftsInTurn 69 = .ok (.bipush 119, 2) := by decide +kernel
theorem dX4_giveLiftsInTurn_71 : decode cX4_giveLiftsInTurn 71 = .ok (.if_icmp .ne 16, 3) := by decide +kernel
theorem dX4_giveLiftsInTurn_74 : decode cX4_giveLiftsInTurn 74 = .ok (.aload_n 3, 1) := by decide +kernel
theorem dX4_giveLiftsInTurn_75 : decode cX4_giveLiftsInTurn 75 = .ok (.getfield 151, 3) := by decide +kernel
theorem dX4_giveLiftsInTurn_78 : decode cX4_giveLiftsInTurn 78 = .ok (.iload_n 1, 1) := by decide +kernel
theorem dX4_giveLiftsInTurn_79 : decode cX4_giveLiftsInTurn 79 = .ok (.if_icmp .ne 8, 3) := by decide +kernel
theorem dX4_giveLiftsInTurn_82 : decode cX4_giveLiftsInTurn 82 = .ok (.aload_n 0, 1) := by decide +kernel
theorem dX4_giveLiftsInTurn_83 : decode cX4_giveLiftsInTurn 83 = .ok (.aload_n 3, 1) := by decide +kernel
theorem dX4_giveLiftsInTurn_84 : decode cX4_giveLiftsInTurn 84 = .ok (.invokevirtual 132, 3) := by decide +kernel
theorem dX4_giveLiftsInTurn_87 : decode cX4_giveLiftsInTurn 87 = .ok (.iinc 2 1, 3) := by decide +kernel
theorem dX4_giveLiftsInTurn_90 : decode cX4_giveLiftsInTurn 90 = .ok (.goto (-48), 3) := by decide +kernel
theorem dX4_giveLiftsInTurn_93 : decode cX4_giveLiftsInTurn 93 = .ok (.return_, 1) := by decide +kernel
theorem dX4_loseLift_0 : decode cX4_loseLift 0 = .ok (.iconst 0, 1) := by decide +kernel
theorem dX4_loseLift_1 : decode cX4_loseLift 1 = .ok (.istore_n 2, 1) := by decide +kernel
theorem dX4_loseLift_2 : decode cX4_loseLift 2 = .ok (.iconst 0, 1) := by decide +kernel
theorem dX4_loseLift_3 : decode cX4_loseLift 3 = .ok (.istore_n 3, 1) := by decide +kernel
theorem dX4_loseLift_4 : decode cX4_loseLift 4 = .ok (.iload_n 3, 1) := by decide +kernel
theorem dX4_loseLift_5 : decode cX4_loseLift 5 = .ok (.aload_n 0, 1) := by decide +kernel
theorem dX4_loseLift_6 : decode cX4_loseLift 6 = .ok (.getfield 32, 3) := by decide +kernel
theorem dX4_loseLift_9 : decode cX4_loseLift 9 = .ok (.invokevirtual 58, 3) := by decide +kernel
theorem dX4_loseLift_12 : decode cX4_loseLift 12 = .ok (.if_icmp .ge 40, 3) := by decide +kernel
theorem dX4_loseLift_15 : decode cX4_loseLift 15 = .ok (.aload_n 0, 1) := by decide +kernel
theorem dX4_loseLift_16 : decode cX4_loseLift 16 = .ok (.getfield 32, 3) := by decide +kernel
theorem dX4_loseLift_19 : decode cX4_loseLift 19 = .ok (.iload_n 3, 1) := by decide +kernel
theorem dX4_loseLift_20 : decode cX4_loseLift 20 = .ok (.invokevirtual 214, 3) := by decide +kernel
theorem dX4_loseLift_23 : decode cX4_loseLift 23 = .ok (.checkcast 123, 3) := by decide +kernel
theorem dX4_loseLift_26 : decode cX4_loseLift 26 = .ok (.astore 4, 2) := by decide +kernel
theorem dX4_loseLift_28 : decode cX4_loseLift 28 = .ok (.aload 4, 2) := by decide +kernel
theorem dX4_loseLift_30 : decode cX4_loseLift 30 = .ok (.aload_n 1, 1) := by decide +kernel
theorem dX4_loseLift_31 : decode cX4_loseLift 31 = .ok (.invokevirtual 256, 3) := by decide +kernel
theorem dX4_loseLift_34 : decode cX4_loseLift 34 = .ok (.ifCond .eq 12, 3) := by decide +kernel
theorem dX4_loseLift_37 : decode cX4_loseLift 37 = .ok (.aload 4, 2) := by decide +kernel
theorem dX4_loseLift_39 : decode cX4_loseLift 39 = .ok (.aconst_null, 1) := by decide +kernel
theorem dX4_loseLift_40 : decode cX4_loseLift 40 = .ok (.putfield 144, 3) := by decide +kernel
theorem dX4_loseLift_43 : decode cX4_loseLift 43 = .ok (.iinc 2 1, 3) := by decide +kernel
theorem dX4_loseLift_46 : decode cX4_loseLift 46 = .ok (.iinc 3 1, 3) := by decide +kernel
theorem dX4_loseLift_49 : decode cX4_loseLift 49 = .ok (.goto (-45), 3) := by decide +kernel
theorem dX4_loseLift_52 : decode cX4_loseLift 52 = .ok (.iload_n 2, 1) := by decide +kernel
theorem dX4_loseLift_53 : decode cX4_loseLift 53 = .ok (.ireturn, 1) := by decide +kernel
theorem dX4_passOneTick_0 : decode cX4_passOneTick 0 = .ok (.aload_n 0, 1) := by decide +kernel
theorem dX4_passOneTick_1 : decode cX4_passOneTick 1 = .ok (.getfield 42, 3) := by decide +kernel
theorem dX4_passOneTick_4 : decode cX4_passOneTick 4 = .ok (.iconst (-1), 1) := by decide +kernel
theorem dX4_passOneTick_5 : decode cX4_passOneTick 5 = .ok (.if_icmp .eq 10, 3) := by decide +kernel
theorem dX4_passOneTick_8 : decode cX4_passOneTick 8 = .ok (.aload_n 0, 1) := by decide +kernel
theorem dX4_passOneTick_9 : decode cX4_passOneTick 9 = .ok (.invokevirtual 259, 3) := by decide +kernel
theorem dX4_passOneTick_12 : decode cX4_passOneTick 12 = .ok (.goto 7, 3) := by decide +kernel
theorem dX4_passOneTick_15 : decode cX4_passOneTick 15 = .ok (.aload_n 0, 1) := by decide +kernel
theorem dX4_passOneTick_16 : decode cX4_passOneTick 16 = .ok (.invokevirtual 262, 3) := by decide +kernel
theorem dX4_passOneTick_19 : decode cX4_passOneTick 19 = .ok (.iconst 0, 1) := by decide +kernel
theorem dX4_passOneTick_20 : decode cX4_passOneTick 20 = .ok (.istore_n 1, 1) := by decide +kernel
theorem dX4_passOneTick_21 : decode cX4_passOneTick 21 = .ok (.iload_n 1, 1) := by decide +kernel
theorem dX4_passOneTick_22 : decode cX4_passOneTick 22 = .ok (.aload_n 0, 1) := by decide +kernel
theorem dX4_passOneTick_23 : decode cX4_passOneTick 23 = .ok (.getfield 26, 3) := by decide +kernel
theorem dX4_passOneTick_26 : decode cX4_passOneTick 26 = .ok (.invokevirtual 58, 3) := by decide +kernel
theorem dX4_passOneTick_29 : decode cX4_passOneTick 29 = .ok (.if_icmp .ge 24, 3) := by decide +kernel
theorem dX4_passOneTick_32 : decode cX4_passOneTick 32 = .ok (.aload_n 0, 1) := by decide +kernel
theorem dX4_passOneTick_33 : decode cX4_passOneTick 33 = .ok (.aload_n 0, 1) := by decide +kernel
theorem dX4_passOneTick_34 : decode cX4_passOneTick 34 = .ok (.getfield 26, 3) := by decide +kernel
theorem dX4_passOneTick_37 : decode cX4_passOneTick 37 = .ok (.iload_n 1, 1) := by decide +kernel
theorem dX4_passOneTick_38 : decode cX4_passOneTick 38 = .ok (.invokevirtual 214, 3) := by decide +kernel
theorem dX4_passOneTick_41 : decode cX4_passOneTick 41 = .ok (.checkcast 67, 3) := by decide +kernel
theorem dX4_passOneTick_44 : decode cX4_passOneTick 44 = .ok (.invokevirtual 265, 3) := by decide +kernel
theorem dX4_passOneTick_47 : decode cX4_passOneTick 47 = .ok (.iinc 1 1, 3) := by decide +kernel
theorem dX4_passOneTick_50 : decode cX4_passOneTick 50 = .ok (.goto (-29), 3) := by decide +kernel
theorem dX4_passOneTick_53 : decode cX4_passOneTick 53 = .ok (.aload_n 0, 1) := by decide +kernel
theorem dX4_passOneTick_54 : decode cX4_passOneTick 54 = .ok (.invokevirtual 269, 3) := by decide +kernel
theorem dX4_passOneTick_57 : decode cX4_passOneTick 57 = .ok (.aload_n 0, 1) := by decide +kernel
theorem dX4_passOneTick_58 : decode cX4_passOneTick 58 = .ok (.dup, 1) := by decide +kernel
theorem dX4_passOneTick_59 : decode cX4_passOneTick 59 = .ok (.getfield 38, 3) := by decide +kernel
theorem dX4_passOneTick_62 : decode cX4_passOneTick 62 = .ok (.iconst 1, 1) := by decide +kernel
theorem dX4_passOneTick_63 : decode cX4_passOneTick 63 = .ok (.iadd, 1) := by decide +kernel
theorem dX4_passOneTick_64 : decode cX4_passOneTick 64 = .ok (.putfield 38, 3) := by decide +kernel
theorem dX4_passOneTick_67 : decode cX4_passOneTick 67 = .ok (.aload_n 0, 1) := by decide +kernel
theorem dX4_passOneTick_68 : decode cX4_passOneTick 68 = .ok (.getfield 32, 3) := by decide +kernel
theorem dX4_passOneTick_71 : decode cX4_passOneTick 71 = .ok (.invokevirtual 195, 3) := by decide +kernel
theorem dX4_passOneTick_74 : decode cX4_passOneTick 74 = .ok (.ifCond .eq 8, 3) := by decide +kernel
theorem dX4_passOneTick_77 : decode cX4_passOneTick 77 = .ok (.aload_n 0, 1) := by decide +kernel
theorem dX4_passOneTick_78 : decode cX4_passOneTick 78 = .ok (.iconst (-1), 1) := by decide +kernel
theorem dX4_passOneTick_79 : decode cX4_passOneTick 79 = .ok (.putfield 42, 3) := by decide +kernel
theorem dX4_passOneTick_82 : decode cX4_passOneTick 82 = .ok (.return_, 1) := by decide +kernel
theorem dX4_countWaiting_0 : decode cX4_countWaiting 0 = .ok (.iconst 0, 1) := by decide +kernel
theorem dX4_countWaiting_1 : decode cX4_countWaiting 1 = .ok (.istore_n 1, 1) := by decide +kernel
theorem dX4_countWaiting_2 : decode cX4_countWaiting 2 = .ok (.iload_n 1, 1) := by decide +kernel
theorem dX4_countWaiting_3 : decode cX4_countWaiting 3 = .ok (.aload_n 0, 1) := by decide +kernel
theorem dX4_countWaiting_4 : decode cX4_countWaiting 4 = .ok (.getfield 32, 3) := by decide +kernel
theorem dX4_countWaiting_7 : decode cX4_countWaiting 7 = .ok (.invokevirtual 58, 3) := by decide +kernel
theorem dX4_countWaiting_10 : decode cX4_countWaiting 10 = .ok (.if_icmp .ge 40, 3) := by decide +kernel
theorem dX4_countWaiting_13 : decode cX4_countWaiting 13 = .ok (.aload_n 0, 1) := by decide +kernel
theorem dX4_countWaiting_14 : decode cX4_countWaiting 14 = .ok (.getfield 32, 3) := by decide +kernel
theorem dX4_countWaiting_17 : decode cX4_countWaiting 17 = .ok (.iload_n 1, 1) := by decide +kernel
theorem dX4_countWaiting_18 : decode cX4_countWaiting 18 = .ok (.invokevirtual 214, 3) := by decide +kernel
theorem dX4_countWaiting_21 : decode cX4_countWaiting 21 = .ok (.checkcast 123, 3) := by decide +kernel
theorem dX4_countWaiting_24 : decode cX4_countWaiting 24 = .ok (.astore_n 2, 1) := by decide +kernel
theorem dX4_countWaiting_25 : decode cX4_countWaiting 25 = .ok (.aload_n 2, 1) := by decide +kernel
theorem dX4_countWaiting_26 : decode cX4_countWaiting 26 = .ok (.getfield 140, 3) := by decide +kernel
theorem dX4_countWaiting_29 : decode cX4_countWaiting 29 = .ok (.bipush 119, 2) := by decide +kernel
theorem dX4_countWaiting_31 : decode cX4_countWaiting 31 = .ok (.if_icmp .ne 13, 3) := by decide +kernel
theorem dX4_countWaiting_34 : decode cX4_countWaiting 34 = .ok (.aload_n 2, 1) := by decide +kernel
theorem dX4_countWaiting_35 : decode cX4_countWaiting 35 = .ok (.dup, 1) := by decide +kernel
theorem dX4_countWaiting_36 : decode cX4_countWaiting 36 = .ok (.getfield 160, 3) := by decide +kernel
theorem dX4_countWaiting_39 : decode cX4_countWaiting 39 = .ok (.iconst 1, 1) := by decide +kernel
theorem dX4_countWaiting_40 : decode cX4_countWaiting 40 = .ok (.iadd, 1) := by decide +kernel
theorem dX4_countWaiting_41 : decode cX4_countWaiting 41 = .ok (.putfield 160, 3) := by decide +kernel
theorem dX4_countWaiting_44 : decode cX4_countWaiting 44 = .ok (.iinc 1 1, 3) := by decide +kernel
theorem dX4_countWaiting_47 : decode cX4_countWaiting 47 = .ok (.goto (-45), 3) := by decide +kernel
theorem dX4_countWaiting_50 : decode cX4_countWaiting 50 = .ok (.return_, 1) := by decide +kernel
theorem dX4_runLift_0 : decode cX4_runLift 0 = .ok (.aload_n 1, 1) := by decide +kernel
theorem dX4_runLift_1 : decode cX4_runLift 1 = .ok (.getfield 171, 3) := by decide +kernel
theorem dX4_runLift_4 : decode cX4_runLift 4 = .ok (.bipush 99, 2) := by decide +kernel
theorem dX4_runLift_6 : decode cX4_runLift 6 = .ok (.if_icmp .ne 8, 3) := by decide +kernel
theorem dX4_runLift_9 : decode cX4_runLift 9 = .ok (.aload_n 1, 1) := by decide +kernel
theorem dX4_runLift_10 : decode cX4_runLift 10 = .ok (.invokevirtual 272, 3) := by decide +kernel
theorem dX4_runLift_13 : decode cX4_runLift 13 = .ok (.return_, 1) := by decide +kernel
theorem dX4_runLift_14 : decode cX4_runLift 14 = .ok (.aload_n 0, 1) := by decide +kernel
theorem dX4_runLift_15 : decode cX4_runLift 15 = .ok (.aload_n 1, 1) := by decide +kernel
theorem dX4_runLift_16 : decode cX4_runLift 16 = .ok (.invokevirtual 275, 3) := by decide +kernel
theorem dX4_runLift_19 : decode cX4_runLift 19 = .ok (.istore_n 2, 1) := by decide +kernel
theorem dX4_runLift_20 : decode cX4_runLift 20 = .ok (.aload_n 0, 1) := by decide +kernel
theorem dX4_runLift_21 : decode cX4_runLift 21 = .ok (.aload_n 1, 1) := by decide +kernel
theorem dX4_runLift_22 : decode cX4_runLift 22 = .ok (.invokevirtual 278, 3) := by decide +kernel
theorem dX4_runLift_25 : decode cX4_runLift 25 = .ok (.istore_n 3, 1) := by decide +kernel
theorem dX4_runLift_26 : decode cX4_runLift 26 = .ok (.iload_n 2, 1) := by decide +kernel
theorem dX4_runLift_27 : decode cX4_runLift 27 = .ok (.ifCond .ne 7, 3) := by decide +kernel
theorem dX4_runLift_30 : decode cX4_runLift 30 = .ok (.iload_n 3, 1) := by decide +kernel
theorem dX4_runLift_31 : decode cX4_runLift 31 = .ok (.ifCond .eq 16, 3) := by decide +kernel
theorem dX4_runLift_34 : decode cX4_runLift 34 = .ok (.aload_n 0, 1) := by decide +kernel
theorem dX4_runLift_35 : decode cX4_runLift 35 = .ok (.dup, 1) := by decide +kernel
theorem dX4_runLift_36 : decode cX4_runLift 36 = .ok (.getfield 45, 3) := by decide +kernel
theorem dX4_runLift_39 : decode cX4_runLift 39 = .ok (.iconst 1, 1) := by decide +kernel
theorem dX4_runLift_40 : decode cX4_runLift 40 = .ok (.iadd, 1) := by decide +kernel
theorem dX4_runLift_41 : decode cX4_runLift 41 = .ok (.putfield 45, 3) := by decide +kernel
theorem dX4_runLift_44 : decode cX4_runLift 44 = .ok (.goto 8, 3) := by decide +kernel
theorem dX4_runLift_47 : decode cX4_runLift 47 = .ok (.aload_n 0, 1) := by decide +kernel
theorem dX4_runLift_48 : decode cX4_runLift 48 = .ok (.aload_n 1, 1) := by decide +kernel
theorem dX4_runLift_49 : decode cX4_runLift 49 = .ok (.invokevirtual 281, 3) := by decide +kernel
theorem dX4_runLift_52 : decode cX4_runLift 52 = .ok (.return_, 1) := by decide +kernel
theorem dX4_letOut_0 : decode cX4_letOut 0 = .ok (.aload_n 0, 1) := by decide +kernel
theorem dX4_letOut_1 : decode cX4_letOut 1 = .ok (.getfield 32, 3) := by decide +kernel
theorem dX4_letOut_4 : decode cX4_letOut 4 = .ok (.invokevirtual 58, 3) := by decide +kernel
theorem dX4_letOut_7 : decode cX4_letOut 7 = .ok (.istore_n 2, 1) := by decide +kernel
theorem dX4_letOut_8 : decode cX4_letOut 8 = .ok (.iload_n 2, 1) := by decide +kernel
theorem dX4_letOut_9 : decode cX4_letOut 9 = .ok (.iconst 1, 1) := by decide +kernel
theorem dX4_letOut_10 : decode cX4_letOut 10 = .ok (.isub, 1) := by decide +kernel
theorem dX4_letOut_11 : decode cX4_letOut 11 = .ok (.istore_n 3, 1) := by decide +kernel
theorem dX4_letOut_12 : decode cX4_letOut 12 = .ok (.iload_n 3, 1) := by decide +kernel
theorem dX4_letOut_13 : decode cX4_letOut 13 = .ok (.ifCond .lt 99, 3) := by decide +kernel
theorem dX4_letOut_16 : decode cX4_letOut 16 = .ok (.aload_n 0, 1) := by decide +kernel
theorem dX4_letOut_17 : decode cX4_letOut 17 = .ok (.getfield 32, 3) := by decide +kernel
theorem dX4_letOut_20 : decode cX4_letOut 20 = .ok (.iload_n 3, 1) := by decide +kernel
theorem dX4_letOut_21 : decode cX4_letOut 21 = .ok (.invokevirtual 214, 3) := by decide +kernel
theorem dX4_letOut_24 : decode cX4_letOut 24 = .ok (.checkcast 123, 3) := by decide +kernel
theorem dX4_letOut_27 : decode cX4_letOut 27 = .ok (.astore 4, 2) := by decide +kernel
theorem dX4_letOut_29 : decode cX4_letOut 29 = .ok (.aload 4, 2) := by decide +kernel
theorem dX4_letOut_31 : decode cX4_letOut 31 = .ok (.aload_n 1, 1) := by decide +kernel
theorem dX4_letOut_32 : decode cX4_letOut 32 = .ok (.invokevirtual 231, 3) := by decide +kernel
theorem dX4_letOut_35 : decode cX4_letOut 35 = .ok (.ifCond .eq 71, 3) := by decide +kernel
theorem dX4_letOut_38 : decode cX4_letOut 38 = .ok (.aload 4, 2) := by decide +kernel
theorem dX4_letOut_40 : decode cX4_letOut 40 = .ok (.getfield 152, 3) := by decide +kernel
theorem dX4_letOut_43 : decode cX4_letOut 43 = .ok (.aload_n 1, 1) := by decide +kernel
theorem dX4_letOut_44 : decode cX4_letOut 44 = .ok (.getfield 148, 3) := by decide +kernel
theorem dX4_letOut_47 : decode cX4_letOut 47 = .ok (.if_icmp .ne 59, 3) := by decide +kernel
theorem dX4_letOut_50 : decode cX4_letOut 50 = .ok (.aload_n 0, 1) := by decide +kernel
theorem dX4_letOut_51 : decode cX4_letOut 51 = .ok (.aload 4, 2) := by decide +kernel
theorem dX4_letOut_53 : decode cX4_letOut 53 = .ok (.getfield 227, 3) := by decide +kernel
theorem dX4_letOut_56 : decode cX4_letOut 56 = .ok (.aload_n 1, 1) := by decide +kernel
theorem dX4_letOut_57 : decode cX4_letOut 57 = .ok (.getfield 148, 3) := by decide +kernel
theorem dX4_letOut_60 : decode cX4_letOut 60 = .ok (.invokevirtual 106, 3) := by decide +kernel
theorem dX4_letOut_63 : decode cX4_letOut 63 = .ok (.bipush 110, 2) := by decide +kernel
theorem dX4_letOut_65 : decode cX4_letOut 65 = .ok (.if_icmp .ne 25, 3) := by decide +kernel
theorem dX4_letOut_68 : decode cX4_letOut 68 = .ok (.aload_n 0, 1) := by decide +kernel
theorem dX4_letOut_69 : decode cX4_letOut 69 = .ok (.getfield 32, 3) := by decide +kernel
theorem dX4_letOut_72 : decode cX4_letOut 72 = .ok (.iload_n 3, 1) := by decide +kernel
theorem dX4_letOut_73 : decode cX4_letOut 73 = .ok (.invokevirtual 284, 3) := by decide +kernel
theorem dX4_letOut_76 : decode cX4_letOut 76 = .ok (.pop, 1) := by decide +kernel
theorem dX4_letOut_77 : decode cX4_letOut 77 = .ok (.aload_n 0, 1) := by decide +kernel
theorem dX4_letOut_78 : decode cX4_letOut 78 = .ok (.aload 4, 2) := by decide +kernel
theorem dX4_letOut_80 : decode cX4_letOut 80 = .ok (.aload_n 1, 1) := by decide +kernel
theorem dX4_letOut_81 : decode cX4_letOut 81 = .ok (.getfield 148, 3) := by decide +kernel
theorem dX4_letOut_84 : decode cX4_letOut 84 = .ok (.invokevirtual 287, 3) := by decide +kernel
theorem dX4_letOut_87 : decode cX4_letOut 87 = .ok (.goto 19, 3) := by decide +kernel
theorem dX4_letOut_90 : decode cX4_letOut 90 = .ok (.aload 4, 2) := by decide +kernel
theorem dX4_letOut_92 : decode cX4_letOut 92 = .ok (.iconst 0, 1) := by decide +kernel
theorem dX4_letOut_93 : decode cX4_letOut 93 = .ok (.putfield 152, 3) := by decide +kernel
theorem dX4_letOut_96 : decode cX4_letOut 96 = .ok (.aload_n 0, 1) := by decide +kernel
theorem dX4_letOut_97 : decode cX4_letOut 97 = .ok (.dup, 1) := by decide +kernel
theorem dX4_letOut_98 : decode cX4_letOut 98 = .ok (.getfield 48, 3) := by decide +kernel
theorem dX4_letOut_101 : decode cX4_letOut 101 = .ok (.iconst 1, 1) := by decide +kernel
theorem dX4_letOut_102 : decode cX4_letOut 102 = .ok (.iadd, 1) := by decide +kernel
theorem dX4_letOut_103 : decode cX4_letOut 103 = .ok (.putfield 48, 3) := by decide +kernel
theorem dX4_letOut_106 : decode cX4_letOut 106 = .ok (.iinc 3 (-1), 3) := by decide +kernel
theorem dX4_letOut_109 : decode cX4_letOut 109 = .ok (.goto (-97), 3) := by decide +kernel
theorem dX4_letOut_112 : decode cX4_letOut 112 = .ok (.aload_n 0, 1) := by decide +kernel
theorem dX4_letOut_113 : decode cX4_letOut 113 = .ok (.getfield 32, 3) := by decide +kernel
theorem dX4_letOut_116 : decode cX4_letOut 116 = .ok (.invokevirtual 58, 3) := by decide +kernel
theorem dX4_letOut_119 : decode cX4_letOut 119 = .ok (.iload_n 2, 1) := by decide +kernel
theorem dX4_letOut_120 : decode cX4_letOut 120 = .ok (.if_icmp .ge 7, 3) := by decide +kernel
theorem dX4_letOut_123 : decode cX4_letOut 123 = .ok (.iconst 1, 1) := by decide +kernel
theorem dX4_letOut_124 : decode cX4_letOut 124 = .ok (.goto 4, 3) := by decide +kernel
theorem dX4_letOut_127 : decode cX4_letOut 127 = .ok (.iconst 0, 1) := by decide +kernel
theorem dX4_letOut_128 : decode cX4_letOut 128 = .ok (.ireturn, 1) := by decide +kernel
theorem dX4_letIn_0 : decode cX4_letIn 0 = .ok (.iconst 0, 1) := by decide +kernel
theorem dX4_letIn_1 : decode cX4_letIn 1 = .ok (.istore_n 2, 1) := by decide +kernel
theorem dX4_letIn_2 : decode cX4_letIn 2 = .ok (.iconst 0, 1) := by decide +kernel
theorem dX4_letIn_3 : decode cX4_letIn 3 = .ok (.istore_n 3, 1) := by decide +kernel
theorem dX4_letIn_4 : decode cX4_letIn 4 = .ok (.iload_n 3, 1) := by decide +kernel
theorem dX4_letIn_5 : decode cX4_letIn 5 = .ok (.aload_n 0, 1) := by decide +kernel
theorem dX4_letIn_6 : decode cX4_letIn 6 = .ok (.getfield 32, 3) := by decide +kernel
theorem dX4_letIn_9 : decode cX4_letIn 9 = .ok (.invokevirtual 58, 3) := by decide +kernel
theorem dX4_letIn_12 : decode cX4_letIn 12 = .ok (.if_icmp .ge 59, 3) := by decide +kernel
theorem dX4_letIn_15 : decode cX4_letIn 15 = .ok (.aload_n 0, 1) := by decide +kernel
theorem dX4_letIn_16 : decode cX4_letIn 16 = .ok (.getfield 32, 3) := by decide +kernel
theorem dX4_letIn_19 : decode cX4_letIn 19 = .ok (.iload_n 3, 1) := by decide +kernel
theorem dX4_letIn_20 : decode cX4_letIn 20 = .ok (.invokevirtual 214, 3) := by decide +kernel
theorem dX4_letIn_23 : decode cX4_letIn 23 = .ok (.checkcast 123, 3) := by decide +kernel
theorem dX4_letIn_26 : decode cX4_letIn 26 = .ok (.astore 4, 2) := by decide +kernel
theorem dX4_letIn_28 : decode cX4_letIn 28 = .ok (.aload 4, 2) := by decide +kernel
theorem dX4_letIn_30 : decode cX4_letIn 30 = .ok (.aload_n 1, 1) := by decide +kernel
theorem dX4_letIn_31 : decode cX4_letIn 31 = .ok (.invokevirtual 256, 3) := by decide +kernel
theorem dX4_letIn_34 : decode cX4_letIn 34 = .ok (.ifCond .eq 31, 3) := by decide +kernel
theorem dX4_letIn_37 : decode cX4_letIn 37 = .ok (.aload 4, 2) := by decide +kernel
theorem dX4_letIn_39 : decode cX4_letIn 39 = .ok (.getfield 151, 3) := by decide +kernel
theorem dX4_letIn_42 : decode cX4_letIn 42 = .ok (.aload_n 1, 1) := by decide +kernel
theorem dX4_letIn_43 : decode cX4_letIn 43 = .ok (.getfield 148, 3) := by decide +kernel
theorem dX4_letIn_46 : decode cX4_letIn 46 = .ok (.if_icmp .ne 19, 3) := by decide +kernel
theorem dX4_letIn_49 : decode cX4_letIn 49 = .ok (.aload_n 0, 1) := by decide +kernel
theorem dX4_letIn_50 : decode cX4_letIn 50 = .ok (.aload_n 1, 1) := by decide +kernel
theorem dX4_letIn_51 : decode cX4_letIn 51 = .ok (.invokevirtual 291, 3) := by decide +kernel
theorem dX4_letIn_54 : decode cX4_letIn 54 = .ok (.ifCond .eq 11, 3) := by decide +kernel
theorem dX4_letIn_57 : decode cX4_letIn 57 = .ok (.aload_n 0, 1) := by decide +kernel
theorem dX4_letIn_58 : decode cX4_letIn 58 = .ok (.aload 4, 2) := by decide +kernel
theorem dX4_letIn_60 : decode cX4_letIn 60 = .ok (.invokevirtual 294, 3) := by decide +kernel
theorem dX4_letIn_63 : decode cX4_letIn 63 = .ok (.iconst 1, 1) := by decide +kernel
theorem dX4_letIn_64 : decode cX4_letIn 64 = .ok (.istore_n 2, 1) := by decide +kernel
theorem dX4_letIn_65 : decode cX4_letIn 65 = .ok (.iinc 3 1, 3) := by decide +kernel
theorem dX4_letIn_68 : decode cX4_letIn 68 = .ok (.goto (-64), 3) := by decide +kernel
theorem dX4_letIn_71 : decode cX4_letIn 71 = .ok (.iload_n 2, 1) := by decide +kernel
theorem dX4_letIn_72 : decode cX4_letIn 72 = .ok (.ireturn, 1) := by decide +kernel
theorem dX4_move_0 : decode cX4_move 0 = .ok (.aload_n 1, 1) := by decide +kernel
theorem dX4_move_1 : decode cX4_move 1 = .ok (.getfield 180, 3) := by decide +kernel
theorem dX4_move_4 : decode cX4_move 4 = .ok (.ifCond .eq 7, 3) := by decide +kernel
theorem dX4_move_7 : decode cX4_move 7 = .ok (.iconst 1, 1) := by decide +kernel
theorem dX4_move_8 : decode cX4_move 8 = .ok (.goto 4, 3) := by decide +kernel
theorem dX4_move_11 : decode cX4_move 11 = .ok (.iconst (-1), 1) := by decide +kernel
theorem dX4_move_12 : decode cX4_move 12 = .ok (.istore_n 2, 1) := by decide +kernel
theorem dX4_move_13 : decode cX4_move 13 = .ok (.aload_n 0, 1) := by decide +kernel
theorem dX4_move_14 : decode cX4_move 14 = .ok (.aload_n 1, 1) := by decide +kernel
theorem dX4_move_15 : decode cX4_move 15 = .ok (.invokevirtual 291, 3) := by decide +kernel
theorem dX4_move_18 : decode cX4_move 18 = .ok (.istore_n 3, 1) := by decide +kernel
theorem dX4_move_19 : decode cX4_move 19 = .ok (.aload_n 0, 1) := by decide +kernel
theorem dX4_move_20 : decode cX4_move 20 = .ok (.aload_n 1, 1) := by decide +kernel
theorem dX4_move_21 : decode cX4_move 21 = .ok (.iload_n 2, 1) := by decide +kernel
theorem dX4_move_22 : decode cX4_move 22 = .ok (.iload_n 3, 1) := by decide +kernel
theorem dX4_move_23 : decode cX4_move 23 = .ok (.invokevirtual 297, 3) := by decide +kernel
theorem dX4_move_26 : decode cX4_move 26 = .ok (.ifCond .eq 16, 3) := by decide +kernel
theorem dX4_move_29 : decode cX4_move 29 = .ok (.aload_n 1, 1) := by decide +kernel
theorem dX4_move_30 : decode cX4_move 30 = .ok (.dup, 1) := by decide +kernel
theorem dX4_move_31 : decode cX4_move 31 = .ok (.getfield 148, 3) := by decide +kernel
theorem dX4_move_34 : decode cX4_move 34 = .ok (.iload_n 2, 1) := by decide +kernel
theorem dX4_move_35 : decode cX4_move 35 = .ok (.iadd, 1) := by decide +kernel
theorem dX4_move_36 : decode cX4_move 36 = .ok (.putfield 148, 3) := by decide +kernel
theorem dX4_move_39 : decode cX4_move 39 = .ok (.goto 64, 3) := by decide +kernel
theorem dX4_move_42 : decode cX4_move 42 = .ok (.aload_n 0, 1) := by decide +kernel
theorem dX4_move_43 : decode cX4_move 43 = .ok (.aload_n 1, 1) := by decide +kernel
theorem dX4_move_44 : decode cX4_move 44 = .ok (.iload_n 2, 1) := by decide +kernel
theorem dX4_move_45 : decode cX4_move 45 = .ok (.ineg, 1) := by decide +kernel
theorem dX4_move_46 : decode cX4_move 46 = .ok (.iload_n 3, 1) := by decide +kernel
theorem dX4_move_47 : decode cX4_move 47 = .ok (.invokevirtual 297, 3) := by decide +kernel
theorem dX4_move_50 : decode cX4_move 50 = .ok (.ifCond .eq 32, 3) := by decide +kernel
theorem dX4_move_53 : decode cX4_move 53 = .ok (.aload_n 1, 1) := by decide +kernel
theorem dX4_move_54 : decode cX4_move 54 = .ok (.aload_n 1, 1) := by decide +kernel
theorem dX4_move_55 : decode cX4_move 55 = .ok (.getfield 180, 3) := by decide +kernel
theorem dX4_move_58 : decode cX4_move 58 = .ok (.ifCond .ne 7, 3) := by decide +kernel
theorem dX4_move_61 : decode cX4_move 61 = .ok (.iconst 1, 1) := by decide +kernel
theorem dX4_move_62 : decode cX4_move 62 = .ok (.goto 4, 3) := by decide +kernel
theorem dX4_move_65 : decode cX4_move 65 = .ok (.iconst 0, 1) := by decide +kernel
theorem dX4_move_66 : decode cX4_move 66 = .ok (.putfield 180, 3) := by decide +kernel
theorem dX4_move_69 : decode cX4_move 69 = .ok (.aload_n 1, 1) := by decide +kernel
theorem dX4_move_70 : decode cX4_move 70 = .ok (.dup, 1) := by decide +kernel
theorem dX4_move_71 : decode cX4_move 71 = .ok (.getfield 148, 3) := by decide +kernel
theorem dX4_move_74 : decode cX4_move 74 = .ok (.iload_n 2, 1) := by decide +kernel
theorem dX4_move_75 : decode cX4_move 75 = .ok (.isub, 1) := by decide +kernel
theorem dX4_move_76 : decode cX4_move 76 = .ok (.putfield 148, 3) := by decide +kernel
theorem dX4_move_79 : decode cX4_move 79 = .ok (.goto 24, 3) := by decide +kernel
theorem dX4_move_82 : decode cX4_move 82 = .ok (.aload_n 1, 1) := by decide +kernel
theorem dX4_move_83 : decode cX4_move 83 = .ok (.getfield 171, 3) := by decide +kernel
theorem dX4_move_86 : decode cX4_move 86 = .ok (.bipush 111, 2) := by decide +kernel
theorem dX4_move_88 : decode cX4_move 88 = .ok (.if_icmp .ne 15, 3) := by decide +kernel
theorem dX4_move_91 : decode cX4_move 91 = .ok (.aload_n 1, 1) := by decide +kernel
theorem dX4_move_92 : decode cX4_move 92 = .ok (.bipush 99, 2) := by decide +kernel
theorem dX4_move_94 : decode cX4_move 94 = .ok (.putfield 171, 3) := by decide +kernel
theorem dX4_move_97 : decode cX4_move 97 = .ok (.aload_n 1, 1) := by decide +kernel
theorem dX4_move_98 : decode cX4_move 98 = .ok (.bipush 20, 2) := by decide +kernel
theorem dX4_move_100 : decode cX4_move 100 = .ok (.putfield 301, 3) := by decide +kernel
theorem dX4_move_103 : decode cX4_move 103 = .ok (.return_, 1) := by decide +kernel
theorem dX4_hasAimTowards_0 : decode cX4_hasAimTowards 0 = .ok (.iconst 0, 1) := by decide +kernel
theorem dX4_hasAimTowards_1 : decode cX4_hasAimTowards 1 = .ok (.istore 4, 2) := by decide +kernel
theorem dX4_hasAimTowards_3 : decode cX4_hasAimTowards 3 = .ok (.iload 4, 2) := by decide +kernel
theorem dX4_hasAimTowards_5 : decode cX4_hasAimTowards 5 = .ok (.aload_n 0, 1) := by decide +kernel
theorem dX4_hasAimTowards_6 : decode cX4_hasAimTowards 6 = .ok (.getfield 32, 3) := by decide +kernel
theorem dX4_hasAimTowards_9 : decode cX4_hasAimTowards 9 = .ok (.invokevirtual 58, 3) := by decide +kernel
theorem dX4_hasAimTowards_12 : decode cX4_hasAimTowards 12 = .ok (.if_icmp .ge 79, 3) := by decide +kernel
theorem dX4_hasAimTowards_15 : decode cX4_hasAimTowards 15 = .ok (.aload_n 0, 1) := by decide +kernel
theorem dX4_hasAimTowards_16 : decode cX4_hasAimTowards 16 = .ok (.getfield 32, 3) := by decide +kernel
theorem dX4_hasAimTowards_19 : decode cX4_hasAimTowards 19 = .ok (.iload 4, 2) := by decide +kernel
theorem dX4_hasAimTowards_21 : decode cX4_hasAimTowards 21 = .ok (.invokevirtual 214, 3) := by decide +kernel
theorem dX4_hasAimTowards_24 : decode cX4_hasAimTowards 24 = .ok (.checkcast 123, 3) := by decide +kernel
theorem dX4_hasAimTowards_27 : decode cX4_hasAimTowards 27 = .ok (.astore 5, 2) := by decide +kernel
theorem dX4_hasAimTowards_29 : decode cX4_hasAimTowards 29 = .ok (.aload 5, 2) := by decide +kernel
theorem dX4_hasAimTowards_31 : decode cX4_hasAimTowards 31 = .ok (.aload_n 1, 1) := by decide +kernel
theorem dX4_hasAimTowards_32 : decode cX4_hasAimTowards 32 = .ok (.invokevirtual 231, 3) := by decide +kernel
theorem dX4_hasAimTowards_35 : decode cX4_hasAimTowards 35 = .ok (.ifCond .eq 20, 3) := by decide +kernel
theorem dX4_hasAimTowards_38 : decode cX4_hasAimTowards 38 = .ok (.aload 5, 2) := by decide +kernel
theorem dX4_hasAimTowards_40 : decode cX4_hasAimTowards 40 = .ok (.getfield 152, 3) := by decide +kernel
theorem dX4_hasAimTowards_43 : decode cX4_hasAimTowards 43 = .ok (.aload_n 1, 1) := by decide +kernel
theorem dX4_hasAimTowards_44 : decode cX4_hasAimTowards 44 = .ok (.getfield 148, 3) := by decide +kernel
theorem dX4_hasAimTowards_47 : decode cX4_hasAimTowards 47 = .ok (.isub, 1) := by decide +kernel
theorem dX4_hasAimTowards_48 : decode cX4_hasAimTowards 48 = .ok (.iload_n 2, 1) := by decide +kernel
theorem dX4_hasAimTowards_49 : decode cX4_hasAimTowards 49 = .ok (.imul, 1) := by decide +kernel
theorem dX4_hasAimTowards_50 : decode cX4_hasAimTowards 50 = .ok (.ifCond .le 5, 3) := by decide +kernel
theorem dX4_hasAimTowards_53 : decode cX4_hasAimTowards 53 = .ok (.iconst 1, 1) := by decide +kernel
theorem dX4_hasAimTowards_54 : decode cX4_hasAimTowards 54 = .ok (.ireturn, 1) := by decide +kernel
theorem dX4_hasAimTowards_55 : decode cX4_hasAimTowards 55 = .ok (.iload_n 3, 1) := by decide +kernel
theorem dX4_hasAimTowards_56 : decode cX4_hasAimTowards 56 = .ok (.ifCond .eq 29, 3) := by decide +kernel
theorem dX4_hasAimTowards_59 : decode cX4_hasAimTowards 59 = .ok (.aload 5, 2) := by decide +kernel
theorem dX4_hasAimTowards_61 : decode cX4_hasAimTowards 61 = .ok (.aload_n 1, 1) := by decide +kernel
theorem dX4_hasAimTowards_62 : decode cX4_hasAimTowards 62 = .ok (.invokevirtual 256, 3) := by decide +kernel
theorem dX4_hasAimTowards_65 : decode cX4_hasAimTowards 65 = .ok (.ifCond .eq 20, 3) := by decide +kernel
theorem dX4_hasAimTowards_68 : decode cX4_hasAimTowards 68 = .ok (.aload 5, 2) := by decide +kernel
theorem dX4_hasAimTowards_70 : decode cX4_hasAimTowards 70 = .ok (.getfield 151, 3) := by decide +kernel
theorem dX4_hasAimTowards_73 : decode cX4_hasAimTowards 73 = .ok (.aload_n 1, 1) := by decide +kernel
theorem dX4_hasAimTowards_74 : decode cX4_hasAimTowards 74 = .ok (.getfield 148, 3) := by decide +kernel
theorem dX4_hasAimTowards_77 : decode cX4_hasAimTowards 77 = .ok (.isub, 1) := by decide +kernel
theorem dX4_hasAimTowards_78 : decode cX4_hasAimTowards 78 = .ok (.iload_n 2, 1) := by decide +kernel
theorem dX4_hasAimTowards_79 : decode cX4_hasAimTowards 79 = .ok (.imul, 1) := by decide +kernel
theorem dX4_hasAimTowards_80 : decode cX4_hasAimTowards 80 = .ok (.ifCond .le 5, 3) := by decide +kernel
theorem dX4_hasAimTowards_83 : decode cX4_hasAimTowards 83 = .ok (.iconst 1, 1) := by decide +kernel
theorem dX4_hasAimTowards_84 : decode cX4_hasAimTowards 84 = .ok (.ireturn, 1) := by decide +kernel
theorem dX4_hasAimTowards_85 : decode cX4_hasAimTowards 85 = .ok (.iinc 4 1, 3) := by decide +kernel
theorem dX4_hasAimTowards_88 : decode cX4_hasAimTowards 88 = .ok (.goto (-85), 3) := by decide +kernel
theorem dX4_hasAimTowards_91 : decode cX4_hasAimTowards 91 = .ok (.iconst 0, 1) := by decide +kernel
theorem dX4_hasAimTowards_92 : decode cX4_hasAimTowards 92 = .ok (.ireturn, 1) := by decide +kernel
theorem dX4_sendAllToLobby_0 : decode cX4_sendAllToLobby 0 = .ok (.aload_n 0, 1) := by decide +kernel
theorem dX4_sendAllToLobby_1 : decode cX4_sendAllToLobby 1 = .ok (.getfield 32, 3) := by decide +kernel
theorem dX4_sendAllToLobby_4 : decode cX4_sendAllToLobby 4 = .ok (.invokevirtual 58, 3) := by decide +kernel
theorem dX4_sendAllToLobby_7 : decode cX4_sendAllToLobby 7 = .ok (.iconst 1, 1) := by decide +kernel
theorem dX4_sendAllToLobby_8 : decode cX4_sendAllToLobby 8 = .ok (.isub, 1) := by decide +kernel
theorem dX4_sendAllToLobby_9 : decode cX4_sendAllToLobby 9 = .ok (.istore_n 1, 1) := by decide +kernel
theorem dX4_sendAllToLobby_10 : decode cX4_sendAllToLobby 10 = .ok (.iload_n 1, 1) := by decide +kernel
theorem dX4_sendAllToLobby_11 : decode cX4_sendAllToLobby 11 = .ok (.ifCond .lt 62, 3) := by decide +kernel
theorem dX4_sendAllToLobby_14 : decode cX4_sendAllToLobby 14 = .ok (.aload_n 0, 1) := by decide +kernel
theorem dX4_sendAllToLobby_15 : decode cX4_sendAllToLobby 15 = .ok (.getfield 32, 3) := by decide +kernel
theorem dX4_sendAllToLobby_18 : decode cX4_sendAllToLobby 18 = .ok (.iload_n 1, 1) := by decide +kernel
theorem dX4_sendAllToLobby_19 : decode cX4_sendAllToLobby 19 = .ok (.invokevirtual 214, 3) := by decide +kernel
theorem dX4_sendAllToLobby_22 : decode cX4_sendAllToLobby 22 = .ok (.checkcast 123, 3) := by decide +kernel
theorem dX4_sendAllToLobby_25 : decode cX4_sendAllToLobby 25 = .ok (.astore_n 2, 1) := by decide +kernel
theorem dX4_sendAllToLobby_26 : decode cX4_sendAllToLobby 26 = .ok (.aload_n 2, 1) := by decide +kernel
theorem dX4_sendAllToLobby_27 : decode cX4_sendAllToLobby 27 = .ok (.iconst 0, 1) := by decide +kernel
theorem dX4_sendAllToLobby_28 : decode cX4_sendAllToLobby 28 = .ok (.putfield 152, 3) := by decide +kernel
theorem dX4_sendAllToLobby_31 : decode cX4_sendAllToLobby 31 = .ok (.aload_n 2, 1) := by decide +kernel
theorem dX4_sendAllToLobby_32 : decode cX4_sendAllToLobby 32 = .ok (.getfield 140, 3) := by decide +kernel
theorem dX4_sendAllToLobby_35 : decode cX4_sendAllToLobby 35 = .ok (.bipush 119, 2) := by decide +kernel
theorem dX4_sendAllToLobby_37 : decode cX4_sendAllToLobby 37 = .ok (.if_icmp .ne 30, 3) := by decide +kernel
theorem dX4_sendAllToLobby_40 : decode cX4_sendAllToLobby 40 = .ok (.aload_n 2, 1) := by decide +kernel
theorem dX4_sendAllToLobby_41 : decode cX4_sendAllToLobby 41 = .ok (.aconst_null, 1) := by decide +kernel
theorem dX4_sendAllToLobby_42 : decode cX4_sendAllToLobby 42 = .ok (.putfield 144, 3) := by decide +kernel
theorem dX4_sendAllToLobby_45 : decode cX4_sendAllToLobby 45 = .ok (.aload_n 2, 1) := by decide +kernel
theorem dX4_sendAllToLobby_46 : decode cX4_sendAllToLobby 46 = .ok (.getfield 151, 3) := by decide +kernel
theorem dX4_sendAllToLobby_49 : decode cX4_sendAllToLobby 49 = .ok (.ifCond .ne 18, 3) := by decide +kernel
theorem dX4_sendAllToLobby_52 : decode cX4_sendAllToLobby 52 = .ok (.aload_n 0, 1) := by decide +kernel
theorem dX4_sendAllToLobby_53 : decode cX4_sendAllToLobby 53 = .ok (.getfield 32, 3) := by decide +kernel
theorem dX4_sendAllToLobby_56 : decode cX4_sendAllToLobby 56 = .ok (.iload_n 1, 1) := by decide +kernel
theorem dX4_sendAllToLobby_57 : decode cX4_sendAllToLobby 57 = .ok (.invokevirtual 284, 3) := by decide +kernel
theorem dX4_sendAllToLobby_60 : decode cX4_sendAllToLobby 60 = .ok (.pop, 1) := by decide +kernel
theorem dX4_sendAllToLobby_61 : decode cX4_sendAllToLobby 61 = .ok (.aload_n 0, 1) := by decide +kernel
theorem dX4_sendAllToLobby_62 : decode cX4_sendAllToLobby 62 = .ok (.aload_n 2, 1) := by decide +kernel
theorem dX4_sendAllToLobby_63 : decode cX4_sendAllToLobby 63 = .ok (.iconst 0, 1) := by decide +kernel
theorem dX4_sendAllToLobby_64 : decode cX4_sendAllToLobby 64 = .ok (.invokevirtual 287, 3) := by decide +kernel
theorem dX4_sendAllToLobby_67 : decode cX4_sendAllToLobby 67 = .ok (.iinc 1 (-1), 3) := by decide +kernel
theorem dX4_sendAllToLobby_70 : decode cX4_sendAllToLobby 70 = .ok (.goto (-60), 3) := by decide +kernel
theorem dX4_sendAllToLobby_73 : decode cX4_sendAllToLobby 73 = .ok (.return_, 1) := by decide +kernel
theorem dX4_floorInTurn_0 : decode cX4_floorInTurn 0 = .ok (.aload_n 0, 1) := by decide +kernel
theorem dX4_floorInTurn_1 : decode cX4_floorInTurn 1 = .ok (.getfield 42, 3) := by decide +kernel
theorem dX4_floorInTurn_4 : decode cX4_floorInTurn 4 = .ok (.iconst (-1), 1) := by decide +kernel
theorem dX4_floorInTurn_5 : decode cX4_floorInTurn 5 = .ok (.if_icmp .ne 5, 3) := by decide +kernel
theorem dX4_floorInTurn_8 : decode cX4_floorInTurn 8 = .ok (.iconst (-1), 1) := by decide +kernel
theorem dX4_floorInTurn_9 : decode cX4_floorInTurn 9 = .ok (.ireturn, 1) := by decide +kernel
theorem dX4_floorInTurn_10 : decode cX4_floorInTurn 10 = .ok (.iconst 0, 1) := by decide +kernel
theorem dX4_floorInTurn_11 : decode cX4_floorInTurn 11 = .ok (.istore_n 1, 1) := by decide +kernel
theorem dX4_floorInTurn_12 : decode cX4_floorInTurn 12 = .ok (.iload_n 1, 1) := by decide +kernel
theorem dX4_floorInTurn_13 : decode cX4_floorInTurn 13 = .ok (.bipush 10, 2) := by decide +kernel
theorem dX4_floorInTurn_15 : decode cX4_floorInTurn 15 = .ok (.if_icmp .ge 49, 3) := by decide +kernel
theorem dX4_floorInTurn_18 : decode cX4_floorInTurn 18 = .ok (.aload_n 0, 1) := by decide +kernel
theorem dX4_floorInTurn_19 : decode cX4_floorInTurn 19 = .ok (.aload_n 0, 1) := by decide +kernel
theorem dX4_floorInTurn_20 : decode cX4_floorInTurn 20 = .ok (.getfield 42, 3) := by decide +kernel
theorem dX4_floorInTurn_23 : decode cX4_floorInTurn 23 = .ok (.iload_n 1, 1) := by decide +kernel
theorem dX4_floorInTurn_24 : decode cX4_floorInTurn 24 = .ok (.iadd, 1) := by decide +kernel
theorem dX4_floorInTurn_25 : decode cX4_floorInTurn 25 = .ok (.invokevirtual 304, 3) := by decide +kernel
theorem dX4_floorInTurn_28 : decode cX4_floorInTurn 28 = .ok (.ifCond .eq 10, 3) := by decide +kernel
theorem dX4_floorInTurn_31 : decode cX4_floorInTurn 31 = .ok (.aload_n 0, 1) := by decide +kernel
theorem dX4_floorInTurn_32 : decode cX4_floorInTurn 32 = .ok (.getfield 42, 3) := by decide +kernel
theorem dX4_floorInTurn_35 : decode cX4_floorInTurn 35 = .ok (.iload_n 1, 1) := by decide +kernel
theorem dX4_floorInTurn_36 : decode cX4_floorInTurn 36 = .ok (.iadd, 1) := by decide +kernel
theorem dX4_floorInTurn_37 : decode cX4_floorInTurn 37 = .ok (.ireturn, 1) := by decide +kernel
theorem dX4_floorInTurn_38 : decode cX4_floorInTurn 38 = .ok (.aload_n 0, 1) := by decide +kernel
theorem dX4_floorInTurn_39 : decode cX4_floorInTurn 39 = .ok (.aload_n 0, 1) := by decide +kernel
theorem dX4_floorInTurn_40 : decode cX4_floorInTurn 40 = .ok (.getfield 42, 3) := by decide +kernel
theorem dX4_floorInTurn_43 : decode cX4_floorInTurn 43 = .ok (.iload_n 1, 1) := by decide +kernel
theorem dX4_floorInTurn_44 : decode cX4_floorInTurn 44 = .ok (.isub, 1) := by decide +kernel
theorem dX4_floorInTurn_45 : decode cX4_floorInTurn 45 = .ok (.invokevirtual 304, 3) := by decide +kernel
theorem dX4_floorInTurn_48 : decode cX4_floorInTurn 48 = .ok (.ifCond .eq 10, 3) := by decide +kernel
theorem dX4_floorInTurn_51 : decode cX4_floorInTurn 51 = .ok (.aload_n 0, 1) := by decide +kernel
theorem dX4_floorInTurn_52 : decode cX4_floorInTurn 52 = .ok (.getfield 42, 3) := by decide +kernel
theorem dX4_floorInTurn_55 : decode cX4_floorInTurn 55 = .ok (.iload_n 1, 1) := by decide +kernel
theorem dX4_floorInTurn_56 : decode cX4_floorInTurn 56 = .ok (.isub, 1) := by decide +kernel
theorem dX4_floorInTurn_57 : decode cX4_floorInTurn 57 = .ok (.ireturn, 1) := by decide +kernel
theorem dX4_floorInTurn_58 : decode cX4_floorInTurn 58 = .ok (.iinc 1 1, 3) := by decide +kernel
theorem dX4_floorInTurn_61 : decode cX4_floorInTurn 61 = .ok (.goto (-49), 3) := by decide +kernel
theorem dX4_floorInTurn_64 : decode cX4_floorInTurn 64 = .ok (.iconst (-1), 1) := by decide +kernel
theorem dX4_floorInTurn_65 : decode cX4_floorInTurn 65 = .ok (.ireturn, 1) := by decide +kernel
theorem dX4_isWaitedOn_0 : decode cX4_isWaitedOn 0 = .ok (.iconst 0, 1) := by decide +kernel
theorem dX4_isWaitedOn_1 : decode cX4_isWaitedOn 1 = .ok (.istore_n 2, 1) := by decide +kernel
theorem dX4_isWaitedOn_2 : decode cX4_isWaitedOn 2 = .ok (.iload_n 2, 1) := by decide +kernel
theorem dX4_isWaitedOn_3 : decode cX4_isWaitedOn 3 = .ok (.aload_n 0, 1) := by decide +kernel
theorem dX4_isWaitedOn_4 : decode cX4_isWaitedOn 4 = .ok (.getfield 32, 3) := by decide +kernel
theorem dX4_isWaitedOn_7 : decode cX4_isWaitedOn 7 = .ok (.invokevirtual 58, 3) := by decide +kernel
theorem dX4_isWaitedOn_10 : decode cX4_isWaitedOn 10 = .ok (.if_icmp .ge 40, 3) := by decide +kernel
theorem dX4_isWaitedOn_13 : decode cX4_isWaitedOn 13 = .ok (.aload_n 0, 1) := by decide +kernel
theorem dX4_isWaitedOn_14 : decode cX4_isWaitedOn 14 = .ok (.getfield 32, 3) := by decide +kernel
theorem dX4_isWaitedOn_17 : decode cX4_isWaitedOn 17 = .ok (.iload_n 2, 1) := by decide +kernel
theorem dX4_isWaitedOn_18 : decode cX4_isWaitedOn 18 = .ok (.invokevirtual 214, 3) := by decide +kernel
theorem dX4_isWaitedOn_21 : decode cX4_isWaitedOn 21 = .ok (.checkcast 123, 3) := by decide +kernel
theorem dX4_isWaitedOn_24 : decode cX4_isWaitedOn 24 = .ok (.astore_n 3, 1) := by decide +kernel
theorem dX4_isWaitedOn_25 : decode cX4_isWaitedOn 25 = .ok (.aload_n 3, 1) := by decide +kernel
theorem dX4_isWaitedOn_26 : decode cX4_isWaitedOn 26 = .ok (.getfield 140, 3) := by decide +kernel
theorem dX4_isWaitedOn_29 : decode cX4_isWaitedOn 29 = .ok (.bipush 119, 2) := by decide +kernel
theorem dX4_isWaitedOn_31 : decode cX4_isWaitedOn 31 = .ok (.if_icmp .ne 13, 3) := by decide +kernel
theorem dX4_isWaitedOn_34 : decode cX4_isWaitedOn 34 = .ok (.aload_n 3, 1) := by decide +kernel
theorem dX4_isWaitedOn_35 : decode cX4_isWaitedOn 35 = .ok (.getfield 151, 3) := by decide +kernel
theorem dX4_isWaitedOn_38 : decode cX4_isWaitedOn 38 = .ok (.iload_n 1, 1) := by decide +kernel
theorem dX4_isWaitedOn_39 : decode cX4_isWaitedOn 39 = .ok (.if_icmp .ne 5, 3) := by decide +kernel
theorem dX4_isWaitedOn_42 : decode cX4_isWaitedOn 42 = .ok (.iconst 1, 1) := by decide +kernel
theorem dX4_isWaitedOn_43 : decode cX4_isWaitedOn 43 = .ok (.ireturn, 1) := by decide +kernel
theorem dX4_isWaitedOn_44 : decode cX4_isWaitedOn 44 = .ok (.iinc 2 1, 3) := by decide +kernel
theorem dX4_isWaitedOn_47 : decode cX4_isWaitedOn 47 = .ok (.goto (-45), 3) := by decide +kernel
theorem dX4_isWaitedOn_50 : decode cX4_isWaitedOn 50 = .ok (.iconst 0, 1) := by decide +kernel
theorem dX4_isWaitedOn_51 : decode cX4_isWaitedOn 51 = .ok (.ireturn, 1) := by decide +kernel
