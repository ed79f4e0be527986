theorem dJ9_max_7cf53_0 : decode cJ9_max_7cf53 0 = .ok (.iload_n 0, 1) := by decide +kernel
theorem dJ9_max_7cf53_1 : decode cJ9_max_7cf53 1 = .ok (.iload_n 1, 1) := by decide +kernel
theorem dJ9_max_7cf53_2 : decode cJ9_max_7cf53 2 = .ok (.if_icmp .lt 7, 3) := by decide +kernel
theorem dJ9_max_7cf53_5 : decode cJ9_max_7cf53 5 = .ok (.iload_n 0, 1) := by decide +kernel
theorem dJ9_max_7cf53_6 : decode cJ9_max_7cf53 6 = .ok (.goto 4, 3) := by decide +kernel
theorem dJ9_max_7cf53_9 : decode cJ9_max_7cf53 9 = .ok (.iload_n 1, 1) := by decide +kernel
theorem dJ9_max_7cf53_10 : decode cJ9_max_7cf53 10 = .ok (.ireturn, 1) := by decide +kernel
theorem dJ9_min_7cf53_0 : decode cJ9_min_7cf53 0 = .ok (.iload_n 0, 1) := by decide +kernel
theorem dJ9_min_7cf53_1 : decode cJ9_min_7cf53 1 = .ok (.iload_n 1, 1) := by decide +kernel
theorem dJ9_min_7cf53_2 : decode cJ9_min_7cf53 2 = .ok (.if_icmp .gt 7, 3) := by decide +kernel
theorem dJ9_min_7cf53_5 : decode cJ9_min_7cf53 5 = .ok (.iload_n 0, 1) := by decide +kernel
theorem dJ9_min_7cf53_6 : decode cJ9_min_7cf53 6 = .ok (.goto 4, 3) := by decide +kernel
theorem dJ9_min_7cf53_9 : decode cJ9_min_7cf53 9 = .ok (.iload_n 1, 1) := by decide +kernel
theorem dJ9_min_7cf53_10 : decode cJ9_min_7cf53 10 = .ok (.ireturn, 1) := by decide +kernel
theorem dJxa1e45_init_da8c8_0 : decode cJxa1e45_init_da8c8 0 = .ok (.aload_n 0, 1) := by decide +kernel
theorem dJxa1e45_init_da8c8_1 : decode cJxa1e45_init_da8c8 1 = .ok (.invokespecial 1, 3) := by decide +kernel
theorem dJxa1e45_init_da8c8_4 : decode cJxa1e45_init_da8c8 4 = .ok (.return_, 1) := by decide +kernel
theorem dJxc12de_init_da8c8_0 : decode cJxc12de_init_da8c8 0 = .ok (.aload_n 0, 1) := by decide +kernel
theorem dJxc12de_init_da8c8_1 : decode cJxc12de_init_da8c8 1 = .ok (.invokespecial 1, 3) := by decide +kernel
theorem dJxc12de_init_da8c8_4 : decode cJxc12de_init_da8c8 4 = .ok (.aload_n 0, 1) := by decide +kernel
theorem dJxc12de_init_da8c8_5 : decode cJxc12de_init_da8c8 5 = .ok (.iconst 0, 1) := by decide +kernel
theorem dJxc12de_init_da8c8_6 : decode cJxc12de_init_da8c8 6 = .ok (.putfield 7, 3) := by decide +kernel
theorem dJxc12de_init_da8c8_9 : decode cJxc12de_init_da8c8 9 = .ok (.return_, 1) := by decide +kernel
theorem dJx4a65c_init_da8c8_0 : decode cJx4a65c_init_da8c8 0 = .ok (.aload_n 0, 1) := by decide +kernel
theorem dJx4a65c_init_da8c8_1 : decode cJx4a65c_init_da8c8 1 = .ok (.invokespecial 1, 3) := by decide +kernel
theorem dJx4a65c_init_da8c8_4 : decode cJx4a65c_init_da8c8 4 = .ok (.aload_n 0, 1) := by decide +kernel
theorem dJx4a65c_init_da8c8_5 : decode cJx4a65c_init_da8c8 5 = .ok (.getstatic 39, 3) := by decide +kernel
theorem dJx4a65c_init_da8c8_8 : decode cJx4a65c_init_da8c8 8 = .ok (.putfield 9, 3) := by decide +kernel
theorem dJx4a65c_init_da8c8_11 : decode cJx4a65c_init_da8c8 11 = .ok (.return_, 1) := by decide +kernel
theorem dJx4a65c_grow_92f84_0 : decode cJx4a65c_grow_92f84 0 = .ok (.aload_n 0, 1) := by decide +kernel
theorem dJx4a65c_grow_92f84_1 : decode cJx4a65c_grow_92f84 1 = .ok (.getfield 9, 3) := by decide +kernel
theorem dJx4a65c_grow_92f84_4 : decode cJx4a65c_grow_92f84 4 = .ok (.arraylength, 1) := by decide +kernel
theorem dJx4a65c_grow_92f84_5 : decode cJx4a65c_grow_92f84 5 = .ok (.istore_n 2, 1) := by decide +kernel
theorem dJx4a65c_grow_92f84_6 : decode cJx4a65c_grow_92f84 6 = .ok (.iload_n 2, 1) := by decide +kernel
theorem dJx4a65c_grow_92f84_7 : decode cJx4a65c_grow_92f84 7 = .ok (.ifCond .gt 13, 3) := by decide +kernel
theorem dJx4a65c_grow_92f84_10 : decode cJx4a65c_grow_92f84 10 = .ok (.aload_n 0, 1) := by decide +kernel
theorem dJx4a65c_grow_92f84_11 : decode cJx4a65c_grow_92f84 11 = .ok (.getfield 9, 3) := by decide +kernel
theorem dJx4a65c_grow_92f84_14 : decode cJx4a65c_grow_92f84 14 = .ok (.getstatic 39, 3) := by decide +kernel
theorem dJx4a65c_grow_92f84_17 : decode cJx4a65c_grow_92f84 17 = .ok (.if_acmp .eq 28, 3) := by decide +kernel
theorem dJx4a65c_grow_92f84_20 : decode cJx4a65c_grow_92f84 20 = .ok (.iload_n 2, 1) := by decide +kernel
theorem dJx4a65c_grow_92f84_21 : decode cJx4a65c_grow_92f84 21 = .ok (.iload_n 1, 1) := by decide +kernel
theorem dJx4a65c_grow_92f84_22 : decode cJx4a65c_grow_92f84 22 = .ok (.iload_n 2, 1) := by decide +kernel
theorem dJx4a65c_grow_92f84_23 : decode cJx4a65c_grow_92f84 23 = .ok (.isub, 1) := by decide +kernel
theorem dJx4a65c_grow_92f84_24 : decode cJx4a65c_grow_92f84 24 = .ok (.iload_n 2, 1) := by decide +kernel
theorem dJx4a65c_grow_92f84_25 : decode cJx4a65c_grow_92f84 25 = .ok (.iconst 1, 1) := by decide +kernel
theorem dJx4a65c_grow_92f84_26 : decode cJx4a65c_grow_92f84 26 = .ok (.ishr, 1) := by decide +kernel
theorem dJx4a65c_grow_92f84_27 : decode cJx4a65c_grow_92f84 27 = .ok (.invokestatic 73, 3) := by decide +kernel
theorem dJx4a65c_grow_92f84_30 : decode cJx4a65c_grow_92f84 30 = .ok (.istore_n 3, 1) := by decide +kernel
theorem dJx4a65c_grow_92f84_31 : decode cJx4a65c_grow_92f84 31 = .ok (.aload_n 0, 1) := by decide +kernel
theorem dJx4a65c_grow_92f84_32 : decode cJx4a65c_grow_92f84 32 = .ok (.aload_n 0, 1) := by decide +kernel
theorem dJx4a65c_grow_92f84_33 : decode cJx4a65c_grow_92f84 33 = .ok (.getfield 9, 3) := by decide +kernel
theorem dJx4a65c_grow_92f84_36 : decode cJx4a65c_grow_92f84 36 = .ok (.iload_n 3, 1) := by decide +kernel
theorem dJx4a65c_grow_92f84_37 : decode cJx4a65c_grow_92f84 37 = .ok (.invokestatic 66, 3) := by decide +kernel
theorem dJx4a65c_grow_92f84_40 : decode cJx4a65c_grow_92f84 40 = .ok (.dup_x1, 1) := by decide +kernel
theorem dJx4a65c_grow_92f84_41 : decode cJx4a65c_grow_92f84 41 = .ok (.putfield 9, 3) := by decide +kernel
theorem dJx4a65c_grow_92f84_44 : decode cJx4a65c_grow_92f84 44 = .ok (.areturn, 1) := by decide +kernel
theorem dJx4a65c_grow_92f84_45 : decode cJx4a65c_grow_92f84 45 = .ok (.aload_n 0, 1) := by decide +kernel
theorem dJx4a65c_grow_92f84_46 : decode cJx4a65c_grow_92f84 46 = .ok (.bipush 10, 2) := by decide +kernel
theorem dJx4a65c_grow_92f84_48 : decode cJx4a65c_grow_92f84 48 = .ok (.iload_n 1, 1) := by decide +kernel
theorem dJx4a65c_grow_92f84_49 : decode cJx4a65c_grow_92f84 49 = .ok (.invokestatic 79, 3) := by decide +kernel
theorem dJx4a65c_grow_92f84_52 : decode cJx4a65c_grow_92f84 52 = .ok (.anewarray 7, 3) := by decide +kernel
theorem dJx4a65c_grow_92f84_55 : decode cJx4a65c_grow_92f84 55 = .ok (.dup_x1, 1) := by decide +kernel
theorem dJx4a65c_grow_92f84_56 : decode cJx4a65c_grow_92f84 56 = .ok (.putfield 9, 3) := by decide +kernel
theorem dJx4a65c_grow_92f84_59 : decode cJx4a65c_grow_92f84 59 = .ok (.areturn, 1) := by decide +kernel
theorem dJx4a65c_grow_d5877_0 : decode cJx4a65c_grow_d5877 0 = .ok (.aload_n 0, 1) := by decide +kernel
theorem dJx4a65c_grow_d5877_1 : decode cJx4a65c_grow_d5877 1 = .ok (.aload_n 0, 1) := by decide +kernel
theorem dJx4a65c_grow_d5877_2 : decode cJx4a65c_grow_d5877 2 = .ok (.getfield 48, 3) := by decide +kernel
theorem dJx4a65c_grow_d5877_5 : decode cJx4a65c_grow_d5877 5 = .ok (.iconst 1, 1) := by decide +kernel
theorem dJx4a65c_grow_d5877_6 : decode cJx4a65c_grow_d5877 6 = .ok (.iadd, 1) := by decide +kernel
theorem dJx4a65c_grow_d5877_7 : decode cJx4a65c_grow_d5877 7 = .ok (.invokevirtual 69, 3) := by decide +kernel
theorem dJx4a65c_grow_d5877_10 : decode cJx4a65c_grow_d5877 10 = .ok (.areturn, 1) := by decide +kernel
theorem dJx4a65c_size_8abf5_0 : decode cJx4a65c_size_8abf5 0 = .ok (.aload_n 0, 1) := by decide +kernel
theorem dJx4a65c_size_8abf5_1 : decode cJx4a65c_size_8abf5 1 = .ok (.getfield 48, 3) := by decide +kernel
theorem dJx4a65c_size_8abf5_4 : decode cJx4a65c_size_8abf5 4 = .ok (.ireturn, 1) := by decide +kernel
theorem dJx4a65c_isEmpty_aae02_0 : decode cJx4a65c_isEmpty_aae02 0 = .ok (.aload_n 0, 1) := by decide +kernel
theorem dJx4a65c_isEmpty_aae02_1 : decode cJx4a65c_isEmpty_aae02 1 = .ok (.getfield 48, 3) := by decide +kernel
theorem dJx4a65c_isEmpty_aae02_4 : decode cJx4a65c_isEmpty_aae02 4 = .ok (.ifCond .ne 7, 3) := by decide +kernel
theorem dJx4a65c_isEmpty_aae02_7 : decode cJx4a65c_isEmpty_aae02 7 = .ok (.iconst 1, 1) := by decide +kernel
theorem dJx4a65c_isEmpty_aae02_8 : decode cJx4a65c_isEmpty_aae02 8 = .ok (.goto 4, 3) := by decide +kernel
theorem dJx4a65c_isEmpty_aae02_11 : decode cJx4a65c_isEmpty_aae02 11 = .ok (.iconst 0, 1) := by decide +kernel
theorem dJx4a65c_isEmpty_aae02_12 : decode cJx4a65c_isEmpty_aae02 12 = .ok (.ireturn, 1) := by decide +kernel
theorem dJx4a65c_elementData_915e3_0 : decode cJx4a65c_elementData_915e3 0 = .ok (.aload_n 0, 1) := by decide +kernel
theorem dJx4a65c_elementData_915e3_1 : decode cJx4a65c_elementData_915e3 1 = .ok (.getfield 9, 3) := by decide +kernel
theorem dJx4a65c_elementData_915e3_4 : decode cJx4a65c_elementData_915e3 4 = .ok (.iload_n 1, 1) := by decide +kernel
theorem dJx4a65c_elementData_915e3_5 : decode cJx4a65c_elementData_915e3 5 = .ok (.aaload, 1) := by decide +kernel
theorem dJx4a65c_elementData_915e3_6 : decode cJx4a65c_elementData_915e3 6 = .ok (.areturn, 1) := by decide +kernel
theorem dJx4a65c_get_915e3_0 : decode cJx4a65c_get_915e3 0 = .ok (.iload_n 1, 1) := by decide +kernel
theorem dJx4a65c_get_915e3_1 : decode cJx4a65c_get_915e3 1 = .ok (.aload_n 0, 1) := by decide +kernel
theorem dJx4a65c_get_915e3_2 : decode cJx4a65c_get_915e3 2 = .ok (.getfield 48, 3) := by decide +kernel
theorem dJx4a65c_get_915e3_5 : decode cJx4a65c_get_915e3 5 = .ok (.invokestatic 118, 3) := by decide +kernel
theorem dJx4a65c_get_915e3_8 : decode cJx4a65c_get_915e3 8 = .ok (.pop, 1) := by decide +kernel
theorem dJx4a65c_get_915e3_9 : decode cJx4a65c_get_915e3 9 = .ok (.aload_n 0, 1) := by decide +kernel
theorem dJx4a65c_get_915e3_10 : decode cJx4a65c_get_915e3 10 = .ok (.iload_n 1, 1) := by decide +kernel
theorem dJx4a65c_get_915e3_11 : decode cJx4a65c_get_915e3 11 = .ok (.invokevirtual 123, 3) := by decide +kernel
theorem dJx4a65c_get_915e3_14 : decode cJx4a65c_get_915e3 14 = .ok (.areturn, 1) := by decide +kernel
theorem dJx4a65c_add_72be8_0 : decode cJx4a65c_add_72be8 0 = .ok (.iload_n 3, 1) := by decide +kernel
theorem dJx4a65c_add_72be8_1 : decode cJx4a65c_add_72be8 1 = .ok (.aload_n 2, 1) := by decide +kernel
theorem dJx4a65c_add_72be8_2 : decode cJx4a65c_add_72be8 2 = .ok (.arraylength, 1) := by decide +kernel
theorem dJx4a65c_add_72be8_3 : decode cJx4a65c_add_72be8 3 = .ok (.if_icmp .ne 8, 3) := by decide +kernel
theorem dJx4a65c_add_72be8_6 : decode cJx4a65c_add_72be8 6 = .ok (.aload_n 0, 1) := by decide +kernel
theorem dJx4a65c_add_72be8_7 : decode cJx4a65c_add_72be8 7 = .ok (.invokevirtual 129, 3) := by decide +kernel
theorem dJx4a65c_add_72be8_10 : decode cJx4a65c_add_72be8 10 = .ok (.astore_n 2, 1) := by decide +kernel
theorem dJx4a65c_add_72be8_11 : decode cJx4a65c_add_72be8 11 = .ok (.aload_n 2, 1) := by decide +kernel
theorem dJx4a65c_add_72be8_12 : decode cJx4a65c_add_72be8 12 = .ok (.iload_n 3, 1) := by decide +kernel
theorem dJx4a65c_add_72be8_13 : decode cJx4a65c_add_72be8 13 = .ok (.aload_n 1, 1) := by decide +kernel
theorem dJx4a65c_add_72be8_14 : decode cJx4a65c_add_72be8 14 = .ok (.aastore, 1) := by decide +kernel
theorem dJx4a65c_add_72be8_15 : decode cJx4a65c_add_72be8 15 = .ok (.aload_n 0, 1) := by decide +kernel
theorem dJx4a65c_add_72be8_16 : decode cJx4a65c_add_72be8 16 = .ok (.iload_n 3, 1) := by decide +kernel
theorem dJx4a65c_add_72be8_17 : decode cJx4a65c_add_72be8 17 = .ok (.iconst 1, 1) := by decide +kernel
theorem dJx4a65c_add_72be8_18 : decode cJx4a65c_add_72be8 18 = .ok (.iadd, 1) := by decide +kernel
theorem dJx4a65c_add_72be8_19 : decode cJx4a65c_add_72be8 19 = .ok (.putfield 48, 3) := by decide +kernel
theorem dJx4a65c_add_72be8_22 : decode cJx4a65c_add_72be8 22 = .ok (.return_, 1) := by decide +kernel
theorem dJx4a65c_add_9ea2d_0 : decode cJx4a65c_add_9ea2d 0 = .ok (.aload_n 0, 1) := by decide +kernel
theorem dJx4a65c_add_9ea2d_1 : decode cJx4a65c_add_9ea2d 1 = .ok (.dup, 1) := by decide +kernel
theorem dJx4a65c_add_9ea2d_2 : decode cJx4a65c_add_9ea2d 2 = .ok (.getfield 63, 3) := by decide +kernel
theorem dJx4a65c_add_9ea2d_5 : decode cJx4a65c_add_9ea2d 5 = .ok (.iconst 1, 1) := by decide +kernel
theorem dJx4a65c_add_9ea2d_6 : decode cJx4a65c_add_9ea2d 6 = .ok (.iadd, 1) := by decide +kernel
theorem dJx4a65c_add_9ea2d_7 : decode cJx4a65c_add_9ea2d 7 = .ok (.putfield 63, 3) := by decide +kernel
theorem dJx4a65c_add_9ea2d_10 : decode cJx4a65c_add_9ea2d 10 = .ok (.aload_n 0, 1) := by decide +kernel
theorem dJx4a65c_add_9ea2d_11 : decode cJx4a65c_add_9ea2d 11 = .ok (.aload_n 1, 1) := by decide +kernel
theorem dJx4a65c_add_9ea2d_12 : decode cJx4a65c_add_9ea2d 12 = .ok (.aload_n 0, 1) := by decide +kernel
theorem dJx4a65c_add_9ea2d_13 : decode cJx4a65c_add_9ea2d 13 = .ok (.getfield 9, 3) := by decide +kernel
theorem dJx4a65c_add_9ea2d_16 : decode cJx4a65c_add_9ea2d 16 = .ok (.aload_n 0, 1) := by decide +kernel
theorem dJx4a65c_add_9ea2d_17 : decode cJx4a65c_add_9ea2d 17 = .ok (.getfield 48, 3) := by decide +kernel
theorem dJx4a65c_add_9ea2d_20 : decode cJx4a65c_add_9ea2d 20 = .ok (.invokevirtual 131, 3) := by decide +kernel
theorem dJx4a65c_add_9ea2d_23 : decode cJx4a65c_add_9ea2d 23 = .ok (.iconst 1, 1) := by decide +kernel
theorem dJx4a65c_add_9ea2d_24 : decode cJx4a65c_add_9ea2d 24 = .ok (.ireturn, 1) := by decide +kernel
theorem dJ7_copyOf_1904c_0 : decode cJ7_copyOf_1904c 0 = .ok (.aload_n 0, 1) := by decide +kernel
theorem dJ7_copyOf_1904c_1 : decode cJ7_copyOf_1904c 1 = .ok (.iload_n 1, 1) := by decide +kernel
theorem dJ7_copyOf_1904c_2 : decode cJ7_copyOf_1904c 2 = .ok (.aload_n 0, 1) := by decide +kernel
theorem dJ7_copyOf_1904c_3 : decode cJ7_copyOf_1904c 3 = .ok (.invokevirtual 86, 3) := by decide +kernel
theorem dJ7_copyOf_1904c_6 : decode cJ7_copyOf_1904c 6 = .ok (.invokestatic 300, 3) := by decide +kernel
theorem dJ7_copyOf_1904c_9 : decode cJ7_copyOf_1904c 9 = .ok (.areturn, 1) := by decide +kernel
theorem dJ7_copyOf_6403c_0 : decode cJ7_copyOf_6403c 0 = .ok (.aload_n 2, 1) := by decide +kernel
theorem dJ7_copyOf_6403c_1 : decode cJ7_copyOf_6403c 1 = .ok (.ldc 110, 2) := by decide +kernel
theorem dJ7_copyOf_6403c_3 : decode cJ7_copyOf_6403c 3 = .ok (.if_acmp .ne 10, 3) := by decide +kernel
theorem dJ7_copyOf_6403c_6 : decode cJ7_copyOf_6403c 6 = .ok (.iload_n 1, 1) := by decide +kernel
theorem dJ7_copyOf_6403c_7 : decode cJ7_copyOf_6403c 7 = .ok (.anewarray 2, 3) := by decide +kernel
theorem dJ7_copyOf_6403c_10 : decode cJ7_copyOf_6403c 10 = .ok (.goto 14, 3) := by decide +kernel
theorem dJ7_copyOf_6403c_13 : decode cJ7_copyOf_6403c 13 = .ok (.aload_n 2, 1) := by decide +kernel
theorem dJ7_copyOf_6403c_14 : decode cJ7_copyOf_6403c 14 = .ok (.invokevirtual 90, 3) := by decide +kernel
theorem dJ7_copyOf_6403c_17 : decode cJ7_copyOf_6403c 17 = .ok (.iload_n 1, 1) := by decide +kernel
theorem dJ7_copyOf_6403c_18 : decode cJ7_copyOf_6403c 18 = .ok (.invokestatic 95, 3) := by decide +kernel
theorem dJ7_copyOf_6403c_21 : decode cJ7_copyOf_6403c 21 = .ok (.checkcast 110, 3) := by decide +kernel
theorem dJ7_copyOf_6403c_24 : decode cJ7_copyOf_6403c 24 = .ok (.astore_n 3, 1) := by decide +kernel
theorem dJ7_copyOf_6403c_25 : decode cJ7_copyOf_6403c 25 = .ok (.aload_n 0, 1) := by decide +kernel
theorem dJ7_copyOf_6403c_26 : decode cJ7_copyOf_6403c 26 = .ok (.iconst 0, 1) := by decide +kernel
theorem dJ7_copyOf_6403c_27 : decode cJ7_copyOf_6403c 27 = .ok (.aload_n 3, 1) := by decide +kernel
theorem dJ7_copyOf_6403c_28 : decode cJ7_copyOf_6403c 28 = .ok (.iconst 0, 1) := by decide +kernel
theorem dJ7_copyOf_6403c_29 : decode cJ7_copyOf_6403c 29 = .ok (.aload_n 0, 1) := by decide +kernel
theorem dJ7_copyOf_6403c_30 : decode cJ7_copyOf_6403c 30 = .ok (.arraylength, 1) := by decide +kernel
theorem dJ7_copyOf_6403c_31 : decode cJ7_copyOf_6403c 31 = .ok (.iload_n 1, 1) := by decide +kernel
theorem dJ7_copyOf_6403c_32 : decode cJ7_copyOf_6403c 32 = .ok (.invokestatic 304, 3) := by decide +kernel
theorem dJ7_copyOf_6403c_35 : decode cJ7_copyOf_6403c 35 = .ok (.invokestatic 150, 3) := by decide +kernel
theorem dJ7_copyOf_6403c_38 : decode cJ7_copyOf_6403c 38 = .ok (.aload_n 3, 1) := by decide +kernel
theorem dJ7_copyOf_6403c_39 : decode cJ7_copyOf_6403c 39 = .ok (.areturn, 1) := by decide +kernel
theorem dJ15_checkIndex_7cf53_0 : decode cJ15_checkIndex_7cf53 0 = .ok (.iload_n 0, 1) := by decide +kernel
theorem dJ15_checkIndex_7cf53_1 : decode cJ15_checkIndex_7cf53 1 = .ok (.iload_n 1, 1) := by decide +kernel
theorem dJ15_checkIndex_7cf53_2 : decode cJ15_checkIndex_7cf53 2 = .ok (.aconst_null, 1) := by decide +kernel
theorem dJ15_checkIndex_7cf53_3 : decode cJ15_checkIndex_7cf53 3 = .ok (.invokestatic 105, 3) := by decide +kernel
theorem dJ15_checkIndex_7cf53_6 : decode cJ15_checkIndex_7cf53 6 = .ok (.ireturn, 1) := by decide +kernel
theorem dJ8_newLength_cabcc_0 : decode cJ8_newLength_cabcc 0 = .ok (.iload_n 0, 1) := by decide +kernel
theorem dJ8_newLength_cabcc_1 : decode cJ8_newLength_cabcc 1 = .ok (.iload_n 1, 1) := by decide +kernel
theorem dJ8_newLength_cabcc_2 : decode cJ8_newLength_cabcc 2 = .ok (.iload_n 2, 1) := by decide +kernel
theorem dJ8_newLength_cabcc_3 : decode cJ8_newLength_cabcc 3 = .ok (.invokestatic 194, 3) := by decide +kernel
theorem dJ8_newLength_cabcc_6 : decode cJ8_newLength_cabcc 6 = .ok (.iadd, 1) := by decide +kernel
theorem dJ8_newLength_cabcc_7 : decode cJ8_newLength_cabcc 7 = .ok (.istore_n 3, 1) := by decide +kernel
theorem dJ8_newLength_cabcc_8 : decode cJ8_newLength_cabcc 8 = .ok (.iconst 0, 1) := by decide +kernel
theorem dJ8_newLength_cabcc_9 : decode cJ8_newLength_cabcc 9 = .ok (.iload_n 3, 1) := by decide +kernel
theorem dJ8_newLength_cabcc_10 : decode cJ8_newLength_cabcc 10 = .ok (.if_icmp .ge 11, 3) := by decide +kernel
theorem dJ8_newLength_cabcc_13 : decode cJ8_newLength_cabcc 13 = .ok (.iload_n 3, 1) := by decide +kernel
theorem dJ8_newLength_cabcc_14 : decode cJ8_newLength_cabcc 14 = .ok (.ldc 200, 2) := by decide +kernel
theorem dJ8_newLength_cabcc_16 : decode cJ8_newLength_cabcc 16 = .ok (.if_icmp .gt 5, 3) := by decide +kernel
theorem dJ8_newLength_cabcc_19 : decode cJ8_newLength_cabcc 19 = .ok (.iload_n 3, 1) := by decide +kernel
theorem dJ8_newLength_cabcc_20 : decode cJ8_newLength_cabcc 20 = .ok (.ireturn, 1) := by decide +kernel
theorem dJ8_newLength_cabcc_21 : decode cJ8_newLength_cabcc 21 = .ok (.iload_n 0, 1) := by decide +kernel
theorem dJ8_newLength_cabcc_22 : decode cJ8_newLength_cabcc 22 = .ok (.iload_n 1, 1) := by decide +kernel
theorem dJ8_newLength_cabcc_23 : decode cJ8_newLength_cabcc 23 = .ok (.invokestatic 201, 3) := by decide +kernel
theorem dJ8_newLength_cabcc_26 : decode cJ8_newLength_cabcc 26 = .ok (.ireturn, 1) := by decide +kernel
theorem dJ8_hugeLength_7cf53_0 : decode cJ8_hugeLength_7cf53 0 = .ok (.iload_n 0, 1) := by decide +kernel
theorem dJ8_hugeLength_7cf53_1 : decode cJ8_hugeLength_7cf53 1 = .ok (.iload_n 1, 1) := by decide +kernel
theorem dJ8_hugeLength_7cf53_2 : decode cJ8_hugeLength_7cf53 2 = .ok (.iadd, 1) := by decide +kernel
theorem dJ8_hugeLength_7cf53_3 : decode cJ8_hugeLength_7cf53 3 = .ok (.istore_n 2, 1) := by decide +kernel
theorem dJ8_hugeLength_7cf53_4 : decode cJ8_hugeLength_7cf53 4 = .ok (.iload_n 2, 1) := by decide +kernel
theorem dJ8_hugeLength_7cf53_5 : decode cJ8_hugeLength_7cf53 5 = .ok (.ifCond .ge 44, 3) := by decide +kernel
theorem dJ8_hugeLength_7cf53_8 : decode cJ8_hugeLength_7cf53 8 = .ok (.new 204, 3) := by decide +kernel
theorem dJ8_hugeLength_7cf53_11 : decode cJ8_hugeLength_7cf53 11 = .ok (.dup, 1) := by decide +kernel
theorem dJ8_hugeLength_7cf53_12 : decode cJ8_hugeLength_7cf53 12 = .ok (.new 89, 3) := by decide +kernel
theorem dJ8_hugeLength_7cf53_15 : decode cJ8_hugeLength_7cf53 15 = .ok (.dup, 1) := by decide +kernel
theorem dJ8_hugeLength_7cf53_16 : decode cJ8_hugeLength_7cf53 16 = .ok (.invokespecial 91, 3) := by decide +kernel
theorem dJ8_hugeLength_7cf53_19 : decode cJ8_hugeLength_7cf53 19 = .ok (.ldc 206, 2) := by decide +kernel
theorem dJ8_hugeLength_7cf53_21 : decode cJ8_hugeLength_7cf53 21 = .ok (.invokevirtual 94, 3) := by decide +kernel
theorem dJ8_hugeLength_7cf53_24 : decode cJ8_hugeLength_7cf53 24 = .ok (.iload_n 0, 1) := by decide +kernel
theorem dJ8_hugeLength_7cf53_25 : decode cJ8_hugeLength_7cf53 25 = .ok (.invokevirtual 98, 3) := by decide +kernel
theorem dJ8_hugeLength_7cf53_28 : decode cJ8_hugeLength_7cf53 28 = .ok (.ldc 208, 2) := by decide +kernel
theorem dJ8_hugeLength_7cf53_30 : decode cJ8_hugeLength_7cf53 30 = .ok (.invokevirtual 94, 3) := by decide +kernel
theorem dJ8_hugeLength_7cf53_33 : decode cJ8_hugeLength_7cf53 33 = .ok (.iload_n 1, 1) := by decide +kernel
theorem dJ8_hugeLength_7cf53_34 : decode cJ8_hugeLength_7cf53 34 = .ok (.invokevirtual 98, 3) := by decide +kernel
theorem dJ8_hugeLength_7cf53_37 : decode cJ8_hugeLength_7cf53 37 = .ok (.ldc 210, 2) := by decide +kernel
theorem dJ8_hugeLength_7cf53_39 : decode cJ8_hugeLength_7cf53 39 = .ok (.invokevirtual 94, 3) := by decide +kernel
theorem dJ8_hugeLength_7cf53_42 : decode cJ8_hugeLength_7cf53 42 = .ok (.invokevirtual 101, 3) := by decide +kernel
theorem dJ8_hugeLength_7cf53_45 : decode cJ8_hugeLength_7cf53 45 = .ok (.invokespecial 212, 3) := by decide +kernel
theorem dJ8_hugeLength_7cf53_48 : decode cJ8_hugeLength_7cf53 48 = .ok (.athrow, 1) := by decide +kernel
theorem dJ8_hugeLength_7cf53_49 : decode cJ8_hugeLength_7cf53 49 = .ok (.iload_n 2, 1) := by decide +kernel
theorem dJ8_hugeLength_7cf53_50 : decode cJ8_hugeLength_7cf53 50 = .ok (.ldc 200, 2) := by decide +kernel
theorem dJ8_hugeLength_7cf53_52 : decode cJ8_hugeLength_7cf53 52 = .ok (.if_icmp .gt 6, 3) := by decide +kernel
theorem dJ8_hugeLength_7cf53_55 : decode cJ8_hugeLength_7cf53 55 = .ok (.ldc 200, 2) := by decide +kernel
theorem dJ8_hugeLength_7cf53_57 : decode cJ8_hugeLength_7cf53 57 = .ok (.ireturn, 1) := by decide +kernel
theorem dJ8_hugeLength_7cf53_58 : decode cJ8_hugeLength_7cf53 58 = .ok (.iload_n 2, 1) := by decide +kernel
theorem dJ8_hugeLength_7cf53_59 : decode cJ8_hugeLength_7cf53 59 = .ok (.ireturn, 1) := by decide +kernel
theorem dJ3_checkIndex_8e157_0 : decode cJ3_checkIndex_8e157 0 = .ok (.iload_n 0, 1) := by decide +kernel
theorem dJ3_checkIndex_8e157_1 : decode cJ3_checkIndex_8e157 1 = .ok (.ifCond .lt 8, 3) := by decide +kernel
theorem dJ3_checkIndex_8e157_4 : decode cJ3_checkIndex_8e157 4 = .ok (.iload_n 0, 1) := by decide +kernel
theorem dJ3_checkIndex_8e157_5 : decode cJ3_checkIndex_8e157 5 = .ok (.iload_n 1, 1) := by decide +kernel
theorem dJ3_checkIndex_8e157_6 : decode cJ3_checkIndex_8e157 6 = .ok (.if_icmp .lt 10, 3) := by decide +kernel
theorem dJ3_checkIndex_8e157_9 : decode cJ3_checkIndex_8e157 9 = .ok (.aload_n 2, 1) := by decide +kernel
theorem dJ3_checkIndex_8e157_10 : decode cJ3_checkIndex_8e157 10 = .ok (.iload_n 0, 1) := by decide +kernel
theorem dJ3_checkIndex_8e157_11 : decode cJ3_checkIndex_8e157 11 = .ok (.iload_n 1, 1) := by decide +kernel
theorem dJ3_checkIndex_8e157_12 : decode cJ3_checkIndex_8e157 12 = .ok (.invokestatic 95, 3) := by decide +kernel
theorem dJ3_checkIndex_8e157_15 : decode cJ3_checkIndex_8e157 15 = .ok (.athrow, 1) := by decide +kernel
theorem dJ3_checkIndex_8e157_16 : decode cJ3_checkIndex_8e157 16 = .ok (.iload_n 0, 1) := by decide +kernel
theorem dJ3_checkIndex_8e157_17 : decode cJ3_checkIndex_8e157 17 = .ok (.ireturn, 1) := by decide +kernel
theorem dX0_init_0 : decode cX0_init 0 = .ok (.aload_n 0, 1) := by decide +kernel
theorem dX0_init_1 : decode cX0_init 1 = .ok (.invokespecial 1, 3) := by decide +kernel
theorem dX0_init_4 : decode cX0_init 4 = .ok (.aload_n 0, 1) := by decide +kernel
theorem dX0_init_5 : decode cX0_init 5 = .ok (.iconst 0, 1) := by decide +kernel
theorem dX0_init_6 : decode cX0_init 6 = .ok (.putfield 7, 3) := by decide +kernel
theorem dX0_init_9 : decode cX0_init 9 = .ok (.aload_n 0, 1) := by decide +kernel
theorem dX0_init_10 : decode cX0_init 10 = .ok (.iload_n 1, 1) := by decide +kernel
theorem dX0_init_11 : decode cX0_init 11 = .ok (.putfield 13, 3) := by decide +kernel
theorem dX0_init_14 : decode cX0_init 14 = .ok (.aload_n 0, 1) := by decide +kernel
theorem dX0_init_15 : decode cX0_init 15 = .ok (.iload_n 2, 1) := by decide +kernel
theorem dX0_init_16 : decode cX0_init 16 = .ok (.putfield 17, 3) := by decide +kernel
theorem dX0_init_19 : decode cX0_init 19 = .ok (.return_, 1) := by decide +kernel
theorem dX1_init_0 : decode cX1_init 0 = .ok (.aload_n 0, 1) := by decide +kernel
theorem dX1_init_1 : decode cX1_init 1 = .ok (.invokespecial 3, 3) := by decide +kernel
theorem dX1_init_4 : decode cX1_init 4 = .ok (.aload_n 0, 1) := by decide +kernel
theorem dX1_init_5 : decode cX1_init 5 = .ok (.iconst 0, 1) := by decide +kernel
theorem dX1_init_6 : decode cX1_init 6 = .ok (.putfield 9, 3) := by decide +kernel
theorem dX1_init_9 : decode cX1_init 9 = .ok (.aload_n 0, 1) := by decide +kernel
theorem dX1_init_10 : decode cX1_init 10 = .ok (.iconst 0, 1) := by decide +kernel
theorem dX1_init_11 : decode cX1_init 11 = .ok (.putfield 15, 3) := by decide +kernel
theorem dX1_init_14 : decode cX1_init 14 = .ok (.aload_n 0, 1) := by decide +kernel
theorem dX1_init_15 : decode cX1_init 15 = .ok (.iconst 0, 1) := by decide +kernel
theorem dX1_init_16 : decode cX1_init 16 = .ok (.putfield 18, 3) := by decide +kernel
theorem dX1_init_19 : decode cX1_init 19 = .ok (.aload_n 0, 1) := by decide +kernel
theorem dX1_init_20 : decode cX1_init 20 = .ok (.iconst 0, 1) := by decide +kernel
theorem dX1_init_21 : decode cX1_init 21 = .ok (.putfield 21, 3) := by decide +kernel
theorem dX1_init_24 : decode cX1_init 24 = .ok (.aload_n 0, 1) := by decide +kernel
theorem dX1_init_25 : decode cX1_init 25 = .ok (.iconst 0, 1) := by decide +kernel
theorem dX1_init_26 : decode cX1_init 26 = .ok (.putfield 24, 3) := by decide +kernel
theorem dX1_init_29 : decode cX1_init 29 = .ok (.aload_n 0, 1) := by decide +kernel
theorem dX1_init_30 : decode cX1_init 30 = .ok (.iconst 0, 1) := by decide +kernel
theorem dX1_init_31 : decode cX1_init 31 = .ok (.putfield 27, 3) := by decide +kernel
theorem dX1_init_34 : decode cX1_init 34 = .ok (.aload_n 0, 1) := by decide +kernel
theorem dX1_init_35 : decode cX1_init 35 = .ok (.bipush 100, 2) := by decide +kernel
theorem dX1_init_37 : decode cX1_init 37 = .ok (.putfield 30, 3) := by decide +kernel
theorem dX1_init_40 : decode cX1_init 40 = .ok (.aload_n 0, 1) := by decide +kernel
theorem dX1_init_41 : decode cX1_init 41 = .ok (.dconst 0, 1) := by decide +kernel
theorem dX1_init_42 : decode cX1_init 42 = .ok (.putfield 33, 3) := by decide +kernel
theorem dX1_init_45 : decode cX1_init 45 = .ok (.aload_n 0, 1) := by decide +kernel
theorem dX1_init_46 : decode cX1_init 46 = .ok (.iconst 0, 1) := by decide +kernel
theorem dX1_init_47 : decode cX1_init 47 = .ok (.putfield 37, 3) := by decide +kernel
theorem dX1_init_50 : decode cX1_init 50 = .ok (.aload_n 0, 1) := by decide +kernel
theorem dX1_init_51 : decode cX1_init 51 = .ok (.iconst 0, 1) := by decide +kernel
theorem dX1_init_52 : decode cX1_init 52 = .ok (.putfield 40, 3) := by decide +kernel
theorem dX1_init_55 : decode cX1_init 55 = .ok (.aload_n 0, 1) := by decide +kernel
theorem dX1_init_56 : decode cX1_init 56 = .ok (.iconst 0, 1) := by decide +kernel
theorem dX1_init_57 : decode cX1_init 57 = .ok (.putfield 43, 3) := by decide +kernel
theorem dX1_init_60 : decode cX1_init 60 = .ok (.aload_n 0, 1) := by decide +kernel
theorem dX1_init_61 : decode cX1_init 61 = .ok (.sipush (-1000), 3) := by decide +kernel
theorem dX1_init_64 : decode cX1_init 64 = .ok (.putfield 46, 3) := by decide +kernel
theorem dX1_init_67 : decode cX1_init 67 = .ok (.aload_n 0, 1) := by decide +kernel
theorem dX1_init_68 : decode cX1_init 68 = .ok (.sipush (-1000), 3) := by decide +kernel
theorem dX1_init_71 : decode cX1_init 71 = .ok (.putfield 49, 3) := by decide +kernel
theorem dX1_init_74 : decode cX1_init 74 = .ok (.aload_n 0, 1) := by decide +kernel
theorem dX1_init_75 : decode cX1_init 75 = .ok (.iload_n 1, 1) := by decide +kernel
theorem dX1_init_76 : decode cX1_init 76 = .ok (.putfield 52, 3) := by decide +kernel
theorem dX1_init_79 : decode cX1_init 79 = .ok (.aload_n 0, 1) := by decide +kernel
theorem dX1_init_80 : decode cX1_init 80 = .ok (.iload_n 2, 1) := by decide +kernel
theorem dX1_init_81 : decode cX1_init 81 = .ok (.putfield 55, 3) := by decide +kernel
theorem dX1_init_84 : decode cX1_init 84 = .ok (.aload_n 0, 1) := by decide +kernel
theorem dX1_init_85 : decode cX1_init 85 = .ok (.iload_n 3, 1) := by decide +kernel
theorem dX1_init_86 : decode cX1_init 86 = .ok (.putfield 58, 3) := by decide +kernel
theorem dX1_init_89 : decode cX1_init 89 = .ok (.return_, 1) := by decide +kernel
theorem dX1_isWaterPiece_0 : decode cX1_isWaterPiece 0 = .ok (.aload_n 0, 1) := by decide +kernel
theorem dX1_isWaterPiece_1 : decode cX1_isWaterPiece 1 = .ok (.getfield 52, 3) := by decide +kernel
theorem dX1_isWaterPiece_4 : decode cX1_isWaterPiece 4 = .ok (.iconst 2, 1) := by decide +kernel
theorem dX1_isWaterPiece_5 : decode cX1_isWaterPiece 5 = .ok (.if_icmp .eq 7, 3) := by decide +kernel
theorem dX1_isWaterPiece_8 : decode cX1_isWaterPiece 8 = .ok (.iconst 1, 1) := by decide +kernel
theorem dX1_isWaterPiece_9 : decode cX1_isWaterPiece 9 = .ok (.goto 4, 3) := by decide +kernel
theorem dX1_isWaterPiece_12 : decode cX1_isWaterPiece 12 = .ok (.iconst 0, 1) := by decide +kernel
theorem dX1_isWaterPiece_13 : decode cX1_isWaterPiece 13 = .ok (.ireturn, 1) := by decide +kernel
theorem dX1_hasIce_0 : decode cX1_hasIce 0 = .ok (.aload_n 0, 1) := by decide +kernel
theorem dX1_hasIce_1 : decode cX1_hasIce 1 = .ok (.getfield 9, 3) := by decide +kernel
theorem dX1_hasIce_4 : decode cX1_hasIce 4 = .ok (.ifCond .gt 10, 3) := by decide +kernel
theorem dX1_hasIce_7 : decode cX1_hasIce 7 = .ok (.aload_n 0, 1) := by decide +kernel
theorem dX1_hasIce_8 : decode cX1_hasIce 8 = .ok (.getfield 15, 3) := by decide +kernel
theorem dX1_hasIce_11 : decode cX1_hasIce 11 = .ok (.ifCond .le 7, 3) := by decide +kernel
theorem dX1_hasIce_14 : decode cX1_hasIce 14 = .ok (.iconst 1, 1) := by decide +kernel
theorem dX1_hasIce_15 : decode cX1_hasIce 15 = .ok (.goto 4, 3) := by decide +kernel
theorem dX1_hasIce_18 : decode cX1_hasIce 18 = .ok (.iconst 0, 1) := by decide +kernel
theorem dX1_hasIce_19 : decode cX1_hasIce 19 = .ok (.ireturn, 1) := by decide +kernel
theorem dX1_realThickness_0 : decode cX1_realThickness 0 = .ok (.aload_n 0, 1) := by decide +kernel
theorem dX1_realThickness_1 : decode cX1_realThickness 1 = .ok (.getfield 9, 3) := by decide +kernel
theorem dX1_realThickness_4 : decode cX1_realThickness 4 = .ok (.i2d, 1) := by decide +kernel
theorem dX1_realThickness_5 : decode cX1_realThickness 5 = .ok (.ldc2_w 61, 3) := by decide +kernel
theorem dX1_realThickness_8 : decode cX1_realThickness 8 = .ok (.aload_n 0, 1) := by decide +kernel
theorem dX1_realThickness_9 : decode cX1_realThickness 9 = .ok (.getfield 15, 3) := by decide +kernel
theorem dX1_realThickness_12 : decode cX1_realThickness 12 = .ok (.i2d, 1) := by decide +kernel
theorem dX1_realThickness_13 : decode cX1_realThickness 13 = .ok (.dmul, 1) := by decide +kernel
theorem dX1_realThickness_14 : decode cX1_realThickness 14 = .ok (.dadd, 1) := by decide +kernel
theorem dX1_realThickness_15 : decode cX1_realThickness 15 = .ok (.dreturn, 1) := by decide +kernel
theorem dX1_thicknessAs_0 : decode cX1_thicknessAs 0 = .ok (.iload_n 1, 1) := by decide +kernel
theorem dX1_thicknessAs_1 : decode cX1_thicknessAs 1 = .ok (.ifCond .eq 10, 3) := by decide +kernel
theorem dX1_thicknessAs_4 : decode cX1_thicknessAs 4 = .ok (.aload_n 0, 1) := by decide +kernel
theorem dX1_thicknessAs_5 : decode cX1_thicknessAs 5 = .ok (.getfield 33, 3) := by decide +kernel
theorem dX1_thicknessAs_8 : decode cX1_thicknessAs 8 = .ok (.goto 7, 3) := by decide +kernel
theorem dX1_thicknessAs_11 : decode cX1_thicknessAs 11 = .ok (.aload_n 0, 1) := by decide +kernel
theorem dX1_thicknessAs_12 : decode cX1_thicknessAs 12 = .ok (.invokevirtual 63, 3) := by decide +kernel
theorem dX1_thicknessAs_15 : decode cX1_thicknessAs 15 = .ok (.dreturn, 1) := by decide +kernel
theorem dX1_bearsAs_0 : decode cX1_bearsAs 0 = .ok (.aload_n 0, 1) := by decide +kernel
theorem dX1_bearsAs_1 : decode cX1_bearsAs 1 = .ok (.getfield 52, 3) := by decide +kernel
theorem dX1_bearsAs_4 : decode cX1_bearsAs 4 = .ok (.iconst 2, 1) := by decide +kernel
theorem dX1_bearsAs_5 : decode cX1_bearsAs 5 = .ok (.if_icmp .ne 19, 3) := by decide +kernel
theorem dX1_bearsAs_8 : decode cX1_bearsAs 8 = .ok (.aload_n 0, 1) := by decide +kernel
theorem dX1_bearsAs_9 : decode cX1_bearsAs 9 = .ok (.getfield 21, 3) := by decide +kernel
theorem dX1_bearsAs_12 : decode cX1_bearsAs 12 = .ok (.bipush 100, 2) := by decide +kernel
theorem dX1_bearsAs_14 : decode cX1_bearsAs 14 = .ok (.if_icmp .lt 8, 3) := by decide +kernel
theorem dX1_bearsAs_17 : decode cX1_bearsAs 17 = .ok (.ldc 67, 2) := by decide +kernel
theorem dX1_bearsAs_19 : decode cX1_bearsAs 19 = .ok (.goto 4, 3) := by decide +kernel
theorem dX1_bearsAs_22 : decode cX1_bearsAs 22 = .ok (.iconst 0, 1) := by decide +kernel
theorem dX1_bearsAs_23 : decode cX1_bearsAs 23 = .ok (.ireturn, 1) := by decide +kernel
theorem dX1_bearsAs_24 : decode cX1_bearsAs 24 = .ok (.aload_n 0, 1) := by decide +kernel
theorem dX1_bearsAs_25 : decode cX1_bearsAs 25 = .ok (.iload_n 1, 1) := by decide +kernel
theorem dX1_bearsAs_26 : decode cX1_bearsAs 26 = .ok (.invokevirtual 68, 3) := by decide +kernel
theorem dX1_bearsAs_29 : decode cX1_bearsAs 29 = .ok (.dstore_n 2, 1) := by decide +kernel
theorem dX1_bearsAs_30 : decode cX1_bearsAs 30 = .ok (.aload_n 0, 1) := by decide +kernel
theorem dX1_bearsAs_31 : decode cX1_bearsAs 31 = .ok (.getfield 24, 3) := by decide +kernel
theorem dX1_bearsAs_34 : decode cX1_bearsAs 34 = .ok (.ifCond .ne 7, 3) := by decide +kernel
theorem dX1_bearsAs_37 : decode cX1_bearsAs 37 = .ok (.dconst 1, 1) := by decide +kernel
theorem dX1_bearsAs_38 : decode cX1_bearsAs 38 = .ok (.goto 20, 3) := by decide +kernel
theorem dX1_bearsAs_41 : decode cX1_bearsAs 41 = .ok (.aload_n 0, 1) := by decide +kernel
theorem dX1_bearsAs_42 : decode cX1_bearsAs 42 = .ok (.getfield 24, 3) := by decide +kernel
theorem dX1_bearsAs_45 : decode cX1_bearsAs 45 = .ok (.iconst 1, 1) := by decide +kernel
theorem dX1_bearsAs_46 : decode cX1_bearsAs 46 = .ok (.if_icmp .ne 9, 3) := by decide +kernel
theorem dX1_bearsAs_49 : decode cX1_bearsAs 49 = .ok (.ldc2_w 72, 3) := by decide +kernel
theorem dX1_bearsAs_52 : decode cX1_bearsAs 52 = .ok (.goto 6, 3) := by decide +kernel
theorem dX1_bearsAs_55 : decode cX1_bearsAs 55 = .ok (.ldc2_w 61, 3) := by decide +kernel
theorem dX1_bearsAs_58 : decode cX1_bearsAs 58 = .ok (.dstore 4, 2) := by decide +kernel
theorem dX1_bearsAs_60 : decode cX1_bearsAs 60 = .ok (.ldc2_w 74, 3) := by decide +kernel
theorem dX1_bearsAs_63 : decode cX1_bearsAs 63 = .ok (.dload_n 2, 1) := by decide +kernel
theorem dX1_bearsAs_64 : decode cX1_bearsAs 64 = .ok (.dmul, 1) := by decide +kernel
theorem dX1_bearsAs_65 : decode cX1_bearsAs 65 = .ok (.dload_n 2, 1) := by decide +kernel
theorem dX1_bearsAs_66 : decode cX1_bearsAs 66 = .ok (.dmul, 1) := by decide +kernel
theorem dX1_bearsAs_67 : decode cX1_bearsAs 67 = .ok (.dload 4, 2) := by decide +kernel
theorem dX1_bearsAs_69 : decode cX1_bearsAs 69 = .ok (.dmul, 1) := by decide +kernel
theorem dX1_bearsAs_70 : decode cX1_bearsAs 70 = .ok (.d2i, 1) := by decide +kernel
theorem dX1_bearsAs_71 : decode cX1_bearsAs 71 = .ok (.ireturn, 1) := by decide +kernel
theorem dX1_freeze_0 : decode cX1_freeze 0 = .ok (.aload_n 0, 1) := by decide +kernel
theorem dX1_freeze_1 : decode cX1_freeze 1 = .ok (.getfield 52, 3) := by decide +kernel
theorem dX1_freeze_4 : decode cX1_freeze 4 = .ok (.iconst 2, 1) := by decide +kernel
theorem dX1_freeze_5 : decode cX1_freeze 5 = .ok (.if_icmp .ne 4, 3) := by decide +kernel
theorem dX1_freeze_8 : decode cX1_freeze 8 = .ok (.return_, 1) := by decide +kernel
theorem dX1_freeze_9 : decode cX1_freeze 9 = .ok (.aload_n 0, 1) := by decide +kernel
theorem dX1_freeze_10 : decode cX1_freeze 10 = .ok (.getfield 18, 3) := by decide +kernel
theorem dX1_freeze_13 : decode cX1_freeze 13 = .ok (.iconst 2, 1) := by decide +kernel
theorem dX1_freeze_14 : decode cX1_freeze 14 = .ok (.iload_n 1, 1) := by decide +kernel
theorem dX1_freeze_15 : decode cX1_freeze 15 = .ok (.imul, 1) := by decide +kernel
theorem dX1_freeze_16 : decode cX1_freeze 16 = .ok (.invokestatic 76, 3) := by decide +kernel
theorem dX1_freeze_19 : decode cX1_freeze 19 = .ok (.istore_n 2, 1) := by decide +kernel
theorem dX1_freeze_20 : decode cX1_freeze 20 = .ok (.aload_n 0, 1) := by decide +kernel
theorem dX1_freeze_21 : decode cX1_freeze 21 = .ok (.dup, 1) := by decide +kernel
theorem dX1_freeze_22 : decode cX1_freeze 22 = .ok (.getfield 18, 3) := by decide +kernel
theorem dX1_freeze_25 : decode cX1_freeze 25 = .ok (.iload_n 2, 1) := by decide +kernel
theorem dX1_freeze_26 : decode cX1_freeze 26 = .ok (.isub, 1) := by decide +kernel
theorem dX1_freeze_27 : decode cX1_freeze 27 = .ok (.putfield 18, 3) := by decide +kernel
theorem dX1_freeze_30 : decode cX1_freeze 30 = .ok (.aload_n 0, 1) := by decide +kernel
theorem dX1_freeze_31 : decode cX1_freeze 31 = .ok (.dup, 1) := by decide +kernel
theorem dX1_freeze_32 : decode cX1_freeze 32 = .ok (.getfield 15, 3) := by decide +kernel
theorem dX1_freeze_35 : decode cX1_freeze 35 = .ok (.iload_n 2, 1) := by decide +kernel
theorem dX1_freeze_36 : decode cX1_freeze 36 = .ok (.iadd, 1) := by decide +kernel
theorem dX1_freeze_37 : decode cX1_freeze 37 = .ok (.putfield 15, 3) := by decide +kernel
theorem dX1_freeze_40 : decode cX1_freeze 40 = .ok (.aload_n 0, 1) := by decide +kernel
theorem dX1_freeze_41 : decode cX1_freeze 41 = .ok (.getfield 18, 3) := by decide +kernel
theorem dX1_freeze_44 : decode cX1_freeze 44 = .ok (.ifCond .ne 17, 3) := by decide +kernel
theorem dX1_freeze_47 : decode cX1_freeze 47 = .ok (.aload_n 0, 1) := by decide +kernel
theorem dX1_freeze_48 : decode cX1_freeze 48 = .ok (.dup, 1) := by decide +kernel
theorem dX1_freeze_49 : decode cX1_freeze 49 = .ok (.getfield 9, 3) := by decide +kernel
theorem dX1_freeze_52 : decode cX1_freeze 52 = .ok (.aload_n 0, 1) := by decide +kernel
theorem dX1_freeze_53 : decode cX1_freeze 53 = .ok (.iload_n 1, 1) := by decide +kernel
theorem dX1_freeze_54 : decode cX1_freeze 54 = .ok (.invokevirtual 82, 3) := by decide +kernel
theorem dX1_freeze_57 : decode cX1_freeze 57 = .ok (.iadd, 1) := by decide +kernel
theorem dX1_freeze_58 : decode cX1_freeze 58 = .ok (.putfield 9, 3) := by decide +kernel
theorem dX1_freeze_61 : decode cX1_freeze 61 = .ok (.iload_n 1, 1) := by decide +kernel
theorem dX1_freeze_62 : decode cX1_freeze 62 = .ok (.bipush 40, 2) := by decide +kernel
theorem dX1_freeze_64 : decode cX1_freeze 64 = .ok (.if_icmp .lt 25, 3) := by decide +kernel
theorem dX1_freeze_67 : decode cX1_freeze 67 = .ok (.aload_n 0, 1) := by decide +kernel
theorem dX1_freeze_68 : decode cX1_freeze 68 = .ok (.aload_n 0, 1) := by decide +kernel
theorem dX1_freeze_69 : decode cX1_freeze 69 = .ok (.getfield 24, 3) := by decide +kernel
theorem dX1_freeze_72 : decode cX1_freeze 72 = .ok (.ifCond .ne 7, 3) := by decide +kernel
theorem dX1_freeze_75 : decode cX1_freeze 75 = .ok (.iconst 1, 1) := by decide +kernel
theorem dX1_freeze_76 : decode cX1_freeze 76 = .ok (.goto 7, 3) := by decide +kernel
theorem dX1_freeze_79 : decode cX1_freeze 79 = .ok (.aload_n 0, 1) := by decide +kernel
theorem dX1_freeze_80 : decode cX1_freeze 80 = .ok (.getfield 24, 3) := by decide +kernel
theorem dX1_freeze_83 : decode cX1_freeze 83 = .ok (.putfield 24, 3) := by decide +kernel
theorem dX1_freeze_86 : decode cX1_freeze 86 = .ok (.goto 26, 3) := by decide +kernel
theorem dX1_freeze_89 : decode cX1_freeze 89 = .ok (.iload_n 1, 1) := by decide +kernel
theorem dX1_freeze_90 : decode cX1_freeze 90 = .ok (.bipush 10, 2) := by decide +kernel
theorem dX1_freeze_92 : decode cX1_freeze 92 = .ok (.if_icmp .lt 20, 3) := by decide +kernel
theorem dX1_freeze_95 : decode cX1_freeze 95 = .ok (.aload_n 0, 1) := by decide +kernel
theorem dX1_freeze_96 : decode cX1_freeze 96 = .ok (.aload_n 0, 1) := by decide +kernel
theorem dX1_freeze_97 : decode cX1_freeze 97 = .ok (.getfield 24, 3) := by decide +kernel
theorem dX1_freeze_100 : decode cX1_freeze 100 = .ok (.iconst 2, 1) := by decide +kernel
theorem dX1_freeze_101 : decode cX1_freeze 101 = .ok (.if_icmp .ne 7, 3) := by decide +kernel
theorem dX1_freeze_104 : decode cX1_freeze 104 = .ok (.iconst 1, 1) := by decide +kernel
theorem dX1_freeze_105 : decode cX1_freeze 105 = .ok (.goto 4, 3) := by decide +kernel
theorem dX1_freeze_108 : decode cX1_freeze 108 = .ok (.iconst 0, 1) := by decide +kernel
theorem dX1_freeze_109 : decode cX1_freeze 109 = .ok (.putfield 24, 3) := by decide +kernel
theorem dX1_freeze_112 : decode cX1_freeze 112 = .ok (.return_, 1) := by decide +kernel
theorem dX1_growth_0 : decode cX1_growth 0 = .ok (.aload_n 0, 1) := by decide +kernel
theorem dX1_growth_1 : decode cX1_growth 1 = .ok (.getfield 9, 3) := by decide +kernel
theorem dX1_growth_4 : decode cX1_growth 4 = .ok (.aload_n 0, 1) := by decide +kernel
theorem dX1_growth_5 : decode cX1_growth 5 = .ok (.getfield 15, 3) := by decide +kernel
theorem dX1_growth_8 : decode cX1_growth 8 = .ok (.iadd, 1) := by decide +kernel
theorem dX1_growth_9 : decode cX1_growth 9 = .ok (.iconst 4, 1) := by decide +kernel
theorem dX1_growth_10 : decode cX1_growth 10 = .ok (.aload_n 0, 1) := by decide +kernel
theorem dX1_growth_11 : decode cX1_growth 11 = .ok (.getfield 21, 3) := by decide +kernel
theorem dX1_growth_14 : decode cX1_growth 14 = .ok (.imul, 1) := by decide +kernel
theorem dX1_growth_15 : decode cX1_growth 15 = .ok (.iadd, 1) := by decide +kernel
theorem dX1_growth_16 : decode cX1_growth 16 = .ok (.bipush 50, 2) := by decide +kernel
theorem dX1_growth_18 : decode cX1_growth 18 = .ok (.iadd, 1) := by decide +kernel
theorem dX1_growth_19 : decode cX1_growth 19 = .ok (.istore_n 2, 1) := by decide +kernel
theorem dX1_growth_20 : decode cX1_growth 20 = .ok (.iload_n 2, 1) := by decide +kernel
theorem dX1_growth_21 : decode cX1_growth 21 = .ok (.ifCond .gt 5, 3) := by decide +kernel
theorem dX1_growth_24 : decode cX1_growth 24 = .ok (.iconst 0, 1) := by decide +kernel
theorem dX1_growth_25 : decode cX1_growth 25 = .ok (.ireturn, 1) := by decide +kernel
theorem dX1_growth_26 : decode cX1_growth 26 = .ok (.sipush 400, 3) := by decide +kernel
theorem dX1_growth_29 : decode cX1_growth 29 = .ok (.iload_n 1, 1) := by decide +kernel
theorem dX1_growth_30 : decode cX1_growth 30 = .ok (.imul, 1) := by decide +kernel
theorem dX1_growth_31 : decode cX1_growth 31 = .ok (.iload_n 2, 1) := by decide +kernel
theorem dX1_growth_32 : decode cX1_growth 32 = .ok (.idiv, 1) := by decide +kernel
theorem dX1_growth_33 : decode cX1_growth 33 = .ok (.istore_n 3, 1) := by decide +kernel
theorem dX1_growth_34 : decode cX1_growth 34 = .ok (.aload_n 0, 1) := by decide +kernel
theorem dX1_growth_35 : decode cX1_growth 35 = .ok (.getfield 52, 3) := by decide +kernel
theorem dX1_growth_38 : decode cX1_growth 38 = .ok (.iconst 1, 1) := by decide +kernel
theorem dX1_growth_39 : decode cX1_growth 39 = .ok (.if_icmp .ne 13, 3) := by decide +kernel
theorem dX1_growth_42 : decode cX1_growth 42 = .ok (.iconst 0, 1) := by decide +kernel
theorem dX1_growth_43 : decode cX1_growth 43 = .ok (.iload_n 3, 1) := by decide +kernel
theorem dX1_growth_44 : decode cX1_growth 44 = .ok (.iconst 2, 1) := by decide +kernel
theorem dX1_growth_45 : decode cX1_growth 45 = .ok (.isub, 1) := by decide +kernel
theorem dX1_growth_46 : decode cX1_growth 46 = .ok (.invokestatic 86, 3) := by decide +kernel
theorem dX1_growth_49 : decode cX1_growth 49 = .ok (.goto 4, 3) := by decide +kernel
theorem dX1_growth_52 : decode cX1_growth 52 = .ok (.iload_n 3, 1) := by decide +kernel
theorem dX1_growth_53 : decode cX1_growth 53 = .ok (.ireturn, 1) := by decide +kernel
theorem dX1_thaw_0 : decode cX1_thaw 0 = .ok (.bipush 6, 2) := by decide +kernel
theorem dX1_thaw_2 : decode cX1_thaw 2 = .ok (.iload_n 1, 1) := by decide +kernel
theorem dX1_thaw_3 : decode cX1_thaw 3 = .ok (.imul, 1) := by decide +kernel
theorem dX1_thaw_4 : decode cX1_thaw 4 = .ok (.istore_n 2, 1) := by decide +kernel
theorem dX1_thaw_5 : decode cX1_thaw 5 = .ok (.aload_n 0, 1) := by decide +kernel
theorem dX1_thaw_6 : decode cX1_thaw 6 = .ok (.getfield 21, 3) := by decide +kernel
theorem dX1_thaw_9 : decode cX1_thaw 9 = .ok (.iload_n 2, 1) := by decide +kernel
theorem dX1_thaw_10 : decode cX1_thaw 10 = .ok (.invokestatic 76, 3) := by decide +kernel
theorem dX1_thaw_13 : decode cX1_thaw 13 = .ok (.istore_n 3, 1) := by decide +kernel
theorem dX1_thaw_14 : decode cX1_thaw 14 = .ok (.aload_n 0, 1) := by decide +kernel
theorem dX1_thaw_15 : decode cX1_thaw 15 = .ok (.dup, 1) := by decide +kernel
theorem dX1_thaw_16 : decode cX1_thaw 16 = .ok (.getfield 21, 3) := by decide +kernel
theorem dX1_thaw_19 : decode cX1_thaw 19 = .ok (.iload_n 3, 1) := by decide +kernel
theorem dX1_thaw_20 : decode cX1_thaw 20 = .ok (.isub, 1) := by decide +kernel
theorem dX1_thaw_21 : decode cX1_thaw 21 = .ok (.putfield 21, 3) := by decide +kernel
theorem dX1_thaw_24 : decode cX1_thaw 24 = .ok (.iload_n 2, 1) := by decide +kernel
theorem dX1_thaw_25 : decode cX1_thaw 25 = .ok (.iload_n 3, 1) := by decide +kernel
theorem dX1_thaw_26 : decode cX1_thaw 26 = .ok (.isub, 1) := by decide +kernel
theorem dX1_thaw_27 : decode cX1_thaw 27 = .ok (.istore_n 2, 1) := by decide +kernel
theorem dX1_thaw_28 : decode cX1_thaw 28 = .ok (.aload_n 0, 1) := by decide +kernel
theorem dX1_thaw_29 : decode cX1_thaw 29 = .ok (.getfield 15, 3) := by decide +kernel
theorem dX1_thaw_32 : decode cX1_thaw 32 = .ok (.iload_n 2, 1) := by decide +kernel
theorem dX1_thaw_33 : decode cX1_thaw 33 = .ok (.invokestatic 76, 3) := by decide +kernel
theorem dX1_thaw_36 : decode cX1_thaw 36 = .ok (.istore 4, 2) := by decide +kernel
theorem dX1_thaw_38 : decode cX1_thaw 38 = .ok (.aload_n 0, 1) := by decide +kernel
theorem dX1_thaw_39 : decode cX1_thaw 39 = .ok (.dup, 1) := by decide +kernel
theorem dX1_thaw_40 : decode cX1_thaw 40 = .ok (.getfield 15, 3) := by decide +kernel
theorem dX1_thaw_43 : decode cX1_thaw 43 = .ok (.iload 4, 2) := by decide +kernel
theorem dX1_thaw_45 : decode cX1_thaw 45 = .ok (.isub, 1) := by decide +kernel
theorem dX1_thaw_46 : decode cX1_thaw 46 = .ok (.putfield 15, 3) := by decide +kernel
theorem dX1_thaw_49 : decode cX1_thaw 49 = .ok (.iload_n 2, 1) := by decide +kernel
theorem dX1_thaw_50 : decode cX1_thaw 50 = .ok (.iload 4, 2) := by decide +kernel
theorem dX1_thaw_52 : decode cX1_thaw 52 = .ok (.isub, 1) := by decide +kernel
theorem dX1_thaw_53 : decode cX1_thaw 53 = .ok (.istore_n 2, 1) := by decide +kernel
theorem dX1_thaw_54 : decode cX1_thaw 54 = .ok (.aload_n 0, 1) := by decide +kernel
theorem dX1_thaw_55 : decode cX1_thaw 55 = .ok (.getfield 9, 3) := by decide +kernel
theorem dX1_thaw_58 : decode cX1_thaw 58 = .ok (.iload_n 2, 1) := by decide +kernel
theorem dX1_thaw_59 : decode cX1_thaw 59 = .ok (.invokestatic 76, 3) := by decide +kernel
theorem dX1_thaw_62 : decode cX1_thaw 62 = .ok (.istore 5, 2) := by decide +kernel
theorem dX1_thaw_64 : decode cX1_thaw 64 = .ok (.aload_n 0, 1) := by decide +kernel
theorem dX1_thaw_65 : decode cX1_thaw 65 = .ok (.dup, 1) := by decide +kernel
theorem dX1_thaw_66 : decode cX1_thaw 66 = .ok (.getfield 9, 3) := by decide +kernel
theorem dX1_thaw_69 : decode cX1_thaw 69 = .ok (.iload 5, 2) := by decide +kernel
theorem dX1_thaw_71 : decode cX1_thaw 71 = .ok (.isub, 1) := by decide +kernel
theorem dX1_thaw_72 : decode cX1_thaw 72 = .ok (.putfield 9, 3) := by decide +kernel
theorem dX1_thaw_75 : decode cX1_thaw 75 = .ok (.aload_n 0, 1) := by decide +kernel
theorem dX1_thaw_76 : decode cX1_thaw 76 = .ok (.getfield 33, 3) := by decide +kernel
theorem dX1_thaw_79 : decode cX1_thaw 79 = .ok (.iload 5, 2) := by decide +kernel
theorem dX1_thaw_81 : decode cX1_thaw 81 = .ok (.i2d, 1) := by decide +kernel
theorem dX1_thaw_82 : decode cX1_thaw 82 = .ok (.ldc2_w 61, 3) := by decide +kernel
theorem dX1_thaw_85 : decode cX1_thaw 85 = .ok (.iload 4, 2) := by decide +kernel
theorem dX1_thaw_87 : decode cX1_thaw 87 = .ok (.i2d, 1) := by decide +kernel
theorem dX1_thaw_88 : decode cX1_thaw 88 = .ok (.dmul, 1) := by decide +kernel
theorem dX1_thaw_89 : decode cX1_thaw 89 = .ok (.dadd, 1) := by decide +kernel
theorem dX1_thaw_90 : decode cX1_thaw 90 = .ok (.dsub, 1) := by decide +kernel
theorem dX1_thaw_91 : decode cX1_thaw 91 = .ok (.dstore 6, 2) := by decide +kernel
theorem dX1_thaw_93 : decode cX1_thaw 93 = .ok (.aload_n 0, 1) := by decide +kernel
theorem dX1_thaw_94 : decode cX1_thaw 94 = .ok (.dload 6, 2) := by decide +kernel
theorem dX1_thaw_96 : decode cX1_thaw 96 = .ok (.dconst 0, 1) := by decide +kernel
theorem dX1_thaw_97 : decode cX1_thaw 97 = .ok (.dcmp .g, 1) := by decide +kernel
theorem dX1_thaw_98 : decode cX1_thaw 98 = .ok (.ifCond .ge 7, 3) := by decide +kernel
theorem dX1_thaw_101 : decode cX1_thaw 101 = .ok (.dconst 0, 1) := by decide +kernel
theorem dX1_thaw_102 : decode cX1_thaw 102 = .ok (.goto 5, 3) := by decide +kernel
theorem dX1_thaw_105 : decode cX1_thaw 105 = .ok (.dload 6, 2) := by decide +kernel
theorem dX1_thaw_107 : decode cX1_thaw 107 = .ok (.putfield 33, 3) := by decide +kernel
theorem dX1_thaw_110 : decode cX1_thaw 110 = .ok (.aload_n 0, 1) := by decide +kernel
theorem dX1_thaw_111 : decode cX1_thaw 111 = .ok (.getfield 24, 3) := by decide +kernel
theorem dX1_thaw_114 : decode cX1_thaw 114 = .ok (.iconst 1, 1) := by decide +kernel
theorem dX1_thaw_115 : decode cX1_thaw 115 = .ok (.if_icmp .ne 8, 3) := by decide +kernel
theorem dX1_thaw_118 : decode cX1_thaw 118 = .ok (.aload_n 0, 1) := by decide +kernel
theorem dX1_thaw_119 : decode cX1_thaw 119 = .ok (.iconst 2, 1) := by decide +kernel
theorem dX1_thaw_120 : decode cX1_thaw 120 = .ok (.putfield 24, 3) := by decide +kernel
theorem dX1_thaw_123 : decode cX1_thaw 123 = .ok (.return_, 1) := by decide +kernel
theorem dX1_speedOf_0 : decode cX1_speedOf 0 = .ok (.aload_n 1, 1) := by decide +kernel
theorem dX1_speedOf_1 : decode cX1_speedOf 1 = .ok (.getfield 89, 3) := by decide +kernel
theorem dX1_speedOf_4 : decode cX1_speedOf 4 = .ok (.aload_n 0, 1) := by decide +kernel
theorem dX1_speedOf_5 : decode cX1_speedOf 5 = .ok (.getfield 30, 3) := by decide +kernel
theorem dX1_speedOf_8 : decode cX1_speedOf 8 = .ok (.invokestatic 76, 3) := by decide +kernel
theorem dX1_speedOf_11 : decode cX1_speedOf 11 = .ok (.istore_n 2, 1) := by decide +kernel
theorem dX1_speedOf_12 : decode cX1_speedOf 12 = .ok (.ldc2_w 94, 3) := by decide +kernel
theorem dX1_speedOf_15 : decode cX1_speedOf 15 = .ok (.aload_n 0, 1) := by decide +kernel
theorem dX1_speedOf_16 : decode cX1_speedOf 16 = .ok (.getfield 58, 3) := by decide +kernel
theorem dX1_speedOf_19 : decode cX1_speedOf 19 = .ok (.i2d, 1) := by decide +kernel
theorem dX1_speedOf_20 : decode cX1_speedOf 20 = .ok (.dmul, 1) := by decide +kernel
theorem dX1_speedOf_21 : decode cX1_speedOf 21 = .ok (.dstore_n 3, 1) := by decide +kernel
theorem dX1_speedOf_22 : decode cX1_speedOf 22 = .ok (.ldc2_w 96, 3) := by decide +kernel
theorem dX1_speedOf_25 : decode cX1_speedOf 25 = .ok (.aload_n 0, 1) := by decide +kernel
theorem dX1_speedOf_26 : decode cX1_speedOf 26 = .ok (.getfield 58, 3) := by decide +kernel
theorem dX1_speedOf_29 : decode cX1_speedOf 29 = .ok (.i2d, 1) := by decide +kernel
theorem dX1_speedOf_30 : decode cX1_speedOf 30 = .ok (.dmul, 1) := by decide +kernel
theorem dX1_speedOf_31 : decode cX1_speedOf 31 = .ok (.dstore 5, 2) := by decide +kernel
theorem dX1_speedOf_33 : decode cX1_speedOf 33 = .ok (.iload_n 2, 1) := by decide +kernel
theorem dX1_speedOf_34 : decode cX1_speedOf 34 = .ok (.iload_n 2, 1) := by decide +kernel
theorem dX1_speedOf_35 : decode cX1_speedOf 35 = .ok (.imul, 1) := by decide +kernel
theorem dX1_speedOf_36 : decode cX1_speedOf 36 = .ok (.istore 7, 2) := by decide +kernel
theorem dX1_speedOf_38 : decode cX1_speedOf 38 = .ok (.aload_n 0, 1) := by decide +kernel
theorem dX1_speedOf_39 : decode cX1_speedOf 39 = .ok (.getfield 52, 3) := by decide +kernel
theorem dX1_speedOf_42 : decode cX1_speedOf 42 = .ok (.iconst 2, 1) := by decide +kernel
theorem dX1_speedOf_43 : decode cX1_speedOf 43 = .ok (.if_icmp .eq 20, 3) := by decide +kernel
theorem dX1_speedOf_46 : decode cX1_speedOf 46 = .ok (.iload 7, 2) := by decide +kernel
theorem dX1_speedOf_48 : decode cX1_speedOf 48 = .ok (.i2d, 1) := by decide +kernel
theorem dX1_speedOf_49 : decode cX1_speedOf 49 = .ok (.dload_n 3, 1) := by decide +kernel
theorem dX1_speedOf_50 : decode cX1_speedOf 50 = .ok (.dcmp .g, 1) := by decide +kernel
theorem dX1_speedOf_51 : decode cX1_speedOf 51 = .ok (.ifCond .le 12, 3) := by decide +kernel
theorem dX1_speedOf_54 : decode cX1_speedOf 54 = .ok (.iload 7, 2) := by decide +kernel
theorem dX1_speedOf_56 : decode cX1_speedOf 56 = .ok (.i2d, 1) := by decide +kernel
theorem dX1_speedOf_57 : decode cX1_speedOf 57 = .ok (.dload 5, 2) := by decide +kernel
theorem dX1_speedOf_59 : decode cX1_speedOf 59 = .ok (.dcmp .l, 1) := by decide +kernel
theorem dX1_speedOf_60 : decode cX1_speedOf 60 = .ok (.ifCond .lt 5, 3) := by decide +kernel
theorem dX1_speedOf_63 : decode cX1_speedOf 63 = .ok (.iload_n 2, 1) := by decide +kernel
theorem dX1_speedOf_64 : decode cX1_speedOf 64 = .ok (.ireturn, 1) := by decide +kernel
theorem dX1_speedOf_65 : decode cX1_speedOf 65 = .ok (.iload_n 2, 1) := by decide +kernel
theorem dX1_speedOf_66 : decode cX1_speedOf 66 = .ok (.iconst 1, 1) := by decide +kernel
theorem dX1_speedOf_67 : decode cX1_speedOf 67 = .ok (.if_icmp .le 18, 3) := by decide +kernel
theorem dX1_speedOf_70 : decode cX1_speedOf 70 = .ok (.iload_n 2, 1) := by decide +kernel
theorem dX1_speedOf_71 : decode cX1_speedOf 71 = .ok (.iload_n 2, 1) := by decide +kernel
theorem dX1_speedOf_72 : decode cX1_speedOf 72 = .ok (.imul, 1) := by decide +kernel
theorem dX1_speedOf_73 : decode cX1_speedOf 73 = .ok (.i2d, 1) := by decide +kernel
theorem dX1_speedOf_74 : decode cX1_speedOf 74 = .ok (.dload_n 3, 1) := by decide +kernel
theorem dX1_speedOf_75 : decode cX1_speedOf 75 = .ok (.dcmp .l, 1) := by decide +kernel
theorem dX1_speedOf_76 : decode cX1_speedOf 76 = .ok (.ifCond .le 9, 3) := by decide +kernel
theorem dX1_speedOf_79 : decode cX1_speedOf 79 = .ok (.iinc 2 (-1), 3) := by decide +kernel
theorem dX1_speedOf_82 : decode cX1_speedOf 82 = .ok (.goto (-17), 3) := by decide +kernel
theorem dX1_speedOf_85 : decode cX1_speedOf 85 = .ok (.iload_n 2, 1) := by decide +kernel
theorem dX1_speedOf_86 : decode cX1_speedOf 86 = .ok (.ireturn, 1) := by decide +kernel
theorem dX1_minutesOf_0 : decode cX1_minutesOf 0 = .ok (.bipush 6, 2) := by decide +kernel
theorem dX1_minutesOf_2 : decode cX1_minutesOf 2 = .ok (.aload_n 0, 1) := by decide +kernel
theorem dX1_minutesOf_3 : decode cX1_minutesOf 3 = .ok (.aload_n 1, 1) := by decide +kernel
theorem dX1_minutesOf_4 : decode cX1_minutesOf 4 = .ok (.invokevirtual 98, 3) := by decide +kernel
theorem dX1_minutesOf_7 : decode cX1_minutesOf 7 = .ok (.imul, 1) := by decide +kernel
theorem dX1_minutesOf_8 : decode cX1_minutesOf 8 = .ok (.istore_n 2, 1) := by decide +kernel
theorem dX1_minutesOf_9 : decode cX1_minutesOf 9 = .ok (.iload_n 2, 1) := by decide +kernel
theorem dX1_minutesOf_10 : decode cX1_minutesOf 10 = .ok (.ifCond .gt 7, 3) := by decide +kernel
theorem dX1_minutesOf_13 : decode cX1_minutesOf 13 = .ok (.iconst 0, 1) := by decide +kernel
theorem dX1_minutesOf_14 : decode cX1_minutesOf 14 = .ok (.goto 13, 3) := by decide +kernel
theorem dX1_minutesOf_17 : decode cX1_minutesOf 17 = .ok (.aload_n 0, 1) := by decide +kernel
theorem dX1_minutesOf_18 : decode cX1_minutesOf 18 = .ok (.getfield 55, 3) := by decide +kernel
theorem dX1_minutesOf_21 : decode cX1_minutesOf 21 = .ok (.iload_n 2, 1) := by decide +kernel
theorem dX1_minutesOf_22 : decode cX1_minutesOf 22 = .ok (.iadd, 1) := by decide +kernel
theorem dX1_minutesOf_23 : decode cX1_minutesOf 23 = .ok (.iconst 1, 1) := by decide +kernel
theorem dX1_minutesOf_24 : decode cX1_minutesOf 24 = .ok (.isub, 1) := by decide +kernel
theorem dX1_minutesOf_25 : decode cX1_minutesOf 25 = .ok (.iload_n 2, 1) := by decide +kernel
theorem dX1_minutesOf_26 : decode cX1_minutesOf 26 = .ok (.idiv, 1) := by decide +kernel
theorem dX1_minutesOf_27 : decode cX1_minutesOf 27 = .ok (.ireturn, 1) := by decide +kernel
theorem dX1_countOn_0 : decode cX1_countOn 0 = .ok (.iload_n 1, 1) := by decide +kernel
theorem dX1_countOn_1 : decode cX1_countOn 1 = .ok (.ifCond .eq 10, 3) := by decide +kernel
theorem dX1_countOn_4 : decode cX1_countOn 4 = .ok (.aload_n 0, 1) := by decide +kernel
theorem dX1_countOn_5 : decode cX1_countOn 5 = .ok (.getfield 37, 3) := by decide +kernel
theorem dX1_countOn_8 : decode cX1_countOn 8 = .ok (.goto 7, 3) := by decide +kernel
theorem dX1_countOn_11 : decode cX1_countOn 11 = .ok (.aload_n 0, 1) := by decide +kernel
theorem dX1_countOn_12 : decode cX1_countOn 12 = .ok (.getfield 40, 3) := by decide +kernel
theorem dX1_countOn_15 : decode cX1_countOn 15 = .ok (.ireturn, 1) := by decide +kernel
theorem dX1_lastComing_0 : decode cX1_lastComing 0 = .ok (.iload_n 1, 1) := by decide +kernel
theorem dX1_lastComing_1 : decode cX1_lastComing 1 = .ok (.ifCond .eq 10, 3) := by decide +kernel
theorem dX1_lastComing_4 : decode cX1_lastComing 4 = .ok (.aload_n 0, 1) := by decide +kernel
theorem dX1_lastComing_5 : decode cX1_lastComing 5 = .ok (.getfield 46, 3) := by decide +kernel
theorem dX1_lastComing_8 : decode cX1_lastComing 8 = .ok (.goto 7, 3) := by decide +kernel
theorem dX1_lastComing_11 : decode cX1_lastComing 11 = .ok (.aload_n 0, 1) := by decide +kernel
theorem dX1_lastComing_12 : decode cX1_lastComing 12 = .ok (.getfield 49, 3) := by decide +kernel
theorem dX1_lastComing_15 : decode cX1_lastComing 15 = .ok (.ireturn, 1) := by decide +kernel
theorem dX1_noteComing_0 : decode cX1_noteComing 0 = .ok (.iload_n 1, 1) := by decide +kernel
theorem dX1_noteComing_1 : decode cX1_noteComing 1 = .ok (.ifCond .eq 11, 3) := by decide +kernel
theorem dX1_noteComing_4 : decode cX1_noteComing 4 = .ok (.aload_n 0, 1) := by decide +kernel
theorem dX1_noteComing_5 : decode cX1_noteComing 5 = .ok (.iload_n 2, 1) := by decide +kernel
theorem dX1_noteComing_6 : decode cX1_noteComing 6 = .ok (.putfield 46, 3) := by decide +kernel
theorem dX1_noteComing_9 : decode cX1_noteComing 9 = .ok (.goto 8, 3) := by decide +kernel
theorem dX1_noteComing_12 : decode cX1_noteComing 12 = .ok (.aload_n 0, 1) := by decide +kernel
theorem dX1_noteComing_13 : decode cX1_noteComing 13 = .ok (.iload_n 2, 1) := by decide +kernel
theorem dX1_noteComing_14 : decode cX1_noteComing 14 = .ok (.putfield 49, 3) := by decide +kernel
theorem dX1_noteComing_17 : decode cX1_noteComing 17 = .ok (.return_, 1) := by decide +kernel
theorem dX1_takeOn_0 : decode cX1_takeOn 0 = .ok (.aload_n 0, 1) := by decide +kernel
theorem dX1_takeOn_1 : decode cX1_takeOn 1 = .ok (.dup, 1) := by decide +kernel
theorem dX1_takeOn_2 : decode cX1_takeOn 2 = .ok (.getfield 43, 3) := by decide +kernel
theorem dX1_takeOn_5 : decode cX1_takeOn 5 = .ok (.aload_n 1, 1) := by decide +kernel
theorem dX1_takeOn_6 : decode cX1_takeOn 6 = .ok (.invokevirtual 102, 3) := by decide +kernel
theorem dX1_takeOn_9 : decode cX1_takeOn 9 = .ok (.iadd, 1) := by decide +kernel
theorem dX1_takeOn_10 : decode cX1_takeOn 10 = .ok (.putfield 43, 3) := by decide +kernel
theorem dX1_takeOn_13 : decode cX1_takeOn 13 = .ok (.aload_n 1, 1) := by decide +kernel
theorem dX1_takeOn_14 : decode cX1_takeOn 14 = .ok (.getfield 106, 3) := by decide +kernel
theorem dX1_takeOn_17 : decode cX1_takeOn 17 = .ok (.ifCond .eq 16, 3) := by decide +kernel
theorem dX1_takeOn_20 : decode cX1_takeOn 20 = .ok (.aload_n 0, 1) := by decide +kernel
theorem dX1_takeOn_21 : decode cX1_takeOn 21 = .ok (.dup, 1) := by decide +kernel
theorem dX1_takeOn_22 : decode cX1_takeOn 22 = .ok (.getfield 37, 3) := by decide +kernel
theorem dX1_takeOn_25 : decode cX1_takeOn 25 = .ok (.iconst 1, 1) := by decide +kernel
theorem dX1_takeOn_26 : decode cX1_takeOn 26 = .ok (.iadd, 1) := by decide +kernel
theorem dX1_takeOn_27 : decode cX1_takeOn 27 = .ok (.putfield 37, 3) := by decide +kernel
theorem dX1_takeOn_30 : decode cX1_takeOn 30 = .ok (.goto 13, 3) := by decide +kernel
theorem dX1_takeOn_33 : decode cX1_takeOn 33 = .ok (.aload_n 0, 1) := by decide +kernel
theorem dX1_takeOn_34 : decode cX1_takeOn 34 = .ok (.dup, 1) := by decide +kernel
theorem dX1_takeOn_35 : decode cX1_takeOn 35 = .ok (.getfield 40, 3) := by decide +kernel
theorem dX1_takeOn_38 : decode cX1_takeOn 38 = .ok (.iconst 1, 1) := by decide +kernel
theorem dX1_takeOn_39 : decode cX1_takeOn 39 = .ok (.iadd, 1) := by decide +kernel
theorem dX1_takeOn_40 : decode cX1_takeOn 40 = .ok (.putfield 40, 3) := by decide +kernel
theorem dX1_takeOn_43 : decode cX1_takeOn 43 = .ok (.return_, 1) := by decide +kernel
theorem dX1_letOff_0 : decode cX1_letOff 0 = .ok (.aload_n 1, 1) := by decide +kernel
theorem dX1_letOff_1 : decode cX1_letOff 1 = .ok (.invokevirtual 102, 3) := by decide +kernel
theorem dX1_letOff_4 : decode cX1_letOff 4 = .ok (.istore_n 2, 1) := by decide +kernel
theorem dX1_letOff_5 : decode cX1_letOff 5 = .ok (.aload_n 0, 1) := by decide +kernel
theorem dX1_letOff_6 : decode cX1_letOff 6 = .ok (.dup, 1) := by decide +kernel
theorem dX1_letOff_7 : decode cX1_letOff 7 = .ok (.getfield 43, 3) := by decide +kernel
theorem dX1_letOff_10 : decode cX1_letOff 10 = .ok (.iload_n 2, 1) := by decide +kernel
theorem dX1_letOff_11 : decode cX1_letOff 11 = .ok (.isub, 1) := by decide +kernel
theorem dX1_letOff_12 : decode cX1_letOff 12 = .ok (.putfield 43, 3) := by decide +kernel
theorem dX1_letOff_15 : decode cX1_letOff 15 = .ok (.aload_n 1, 1) := by decide +kernel
theorem dX1_letOff_16 : decode cX1_letOff 16 = .ok (.getfield 106, 3) := by decide +kernel
theorem dX1_letOff_19 : decode cX1_letOff 19 = .ok (.ifCond .eq 16, 3) := by decide +kernel
theorem dX1_letOff_22 : decode cX1_letOff 22 = .ok (.aload_n 0, 1) := by decide +kernel
theorem dX1_letOff_23 : decode cX1_letOff 23 = .ok (.dup, 1) := by decide +kernel
theorem dX1_letOff_24 : decode cX1_letOff 24 = .ok (.getfield 37, 3) := by decide +kernel
theorem dX1_letOff_27 : decode cX1_letOff 27 = .ok (.iconst 1, 1) := by decide +kernel
theorem dX1_letOff_28 : decode cX1_letOff 28 = .ok (.isub, 1) := by decide +kernel
theorem dX1_letOff_29 : decode cX1_letOff 29 = .ok (.putfield 37, 3) := by decide +kernel
theorem dX1_letOff_32 : decode cX1_letOff 32 = .ok (.goto 13, 3) := by decide +kernel
theorem dX1_letOff_35 : decode cX1_letOff 35 = .ok (.aload_n 0, 1) := by decide +kernel
theorem dX1_letOff_36 : decode cX1_letOff 36 = .ok (.dup, 1) := by decide +kernel
theorem dX1_letOff_37 : decode cX1_letOff 37 = .ok (.getfield 40, 3) := by decide +kernel
theorem dX1_letOff_40 : decode cX1_letOff 40 = .ok (.iconst 1, 1) := by decide +kernel
theorem dX1_letOff_41 : decode cX1_letOff 41 = .ok (.isub, 1) := by decide +kernel
theorem dX1_letOff_42 : decode cX1_letOff 42 = .ok (.putfield 40, 3) := by decide +kernel
theorem dX1_letOff_45 : decode cX1_letOff 45 = .ok (.aload_n 0, 1) := by decide +kernel
theorem dX1_letOff_46 : decode cX1_letOff 46 = .ok (.invokevirtual 110, 3) := by decide +kernel
theorem dX1_letOff_49 : decode cX1_letOff 49 = .ok (.ifCond .eq 21, 3) := by decide +kernel
theorem dX1_letOff_52 : decode cX1_letOff 52 = .ok (.aload_n 0, 1) := by decide +kernel
theorem dX1_letOff_53 : decode cX1_letOff 53 = .ok (.iconst 0, 1) := by decide +kernel
theorem dX1_letOff_54 : decode cX1_letOff 54 = .ok (.aload_n 0, 1) := by decide +kernel
theorem dX1_letOff_55 : decode cX1_letOff 55 = .ok (.getfield 9, 3) := by decide +kernel
theorem dX1_letOff_58 : decode cX1_letOff 58 = .ok (.iload_n 2, 1) := by decide +kernel
theorem dX1_letOff_59 : decode cX1_letOff 59 = .ok (.sipush 20000, 3) := by decide +kernel
theorem dX1_letOff_62 : decode cX1_letOff 62 = .ok (.idiv, 1) := by decide +kernel
theorem dX1_letOff_63 : decode cX1_letOff 63 = .ok (.isub, 1) := by decide +kernel
theorem dX1_letOff_64 : decode cX1_letOff 64 = .ok (.invokestatic 86, 3) := by decide +kernel
theorem dX1_letOff_67 : decode cX1_letOff 67 = .ok (.putfield 9, 3) := by decide +kernel
theorem dX1_letOff_70 : decode cX1_letOff 70 = .ok (.return_, 1) := by decide +kernel
theorem dX1_breakUp_0 : decode cX1_breakUp 0 = .ok (.aload_n 0, 1) := by decide +kernel
theorem dX1_breakUp_1 : decode cX1_breakUp 1 = .ok (.iconst 0, 1) := by decide +kernel
theorem dX1_breakUp_2 : decode cX1_breakUp 2 = .ok (.putfield 27, 3) := by decide +kernel
theorem dX1_breakUp_5 : decode cX1_breakUp 5 = .ok (.aload_n 0, 1) := by decide +kernel
theorem dX1_breakUp_6 : decode cX1_breakUp 6 = .ok (.invokevirtual 110, 3) := by decide +kernel
theorem dX1_breakUp_9 : decode cX1_breakUp 9 = .ok (.ifCond .eq 8, 3) := by decide +kernel
theorem dX1_breakUp_12 : decode cX1_breakUp 12 = .ok (.aload_n 0, 1) := by decide +kernel
theorem dX1_breakUp_13 : decode cX1_breakUp 13 = .ok (.iconst 2, 1) := by decide +kernel
theorem dX1_breakUp_14 : decode cX1_breakUp 14 = .ok (.putfield 24, 3) := by decide +kernel
theorem dX1_breakUp_17 : decode cX1_breakUp 17 = .ok (.return_, 1) := by decide +kernel
theorem dX2_init_0 : decode cX2_init 0 = .ok (.aload_n 0, 1) := by decide +kernel
theorem dX2_init_1 : decode cX2_init 1 = .ok (.invokespecial 3, 3) := by decide +kernel
theorem dX2_init_4 : decode cX2_init 4 = .ok (.aload_n 0, 1) := by decide +kernel
theorem dX2_init_5 : decode cX2_init 5 = .ok (.iconst 0, 1) := by decide +kernel
theorem dX2_init_6 : decode cX2_init 6 = .ok (.putfield 9, 3) := by decide +kernel
theorem dX2_init_9 : decode cX2_init 9 = .ok (.aload_n 0, 1) := by decide +kernel
theorem dX2_init_10 : decode cX2_init 10 = .ok (.iconst 0, 1) := by decide +kernel
theorem dX2_init_11 : decode cX2_init 11 = .ok (.putfield 15, 3) := by decide +kernel
theorem dX2_init_14 : decode cX2_init 14 = .ok (.aload_n 0, 1) := by decide +kernel
theorem dX2_init_15 : decode cX2_init 15 = .ok (.iconst 0, 1) := by decide +kernel
theorem dX2_init_16 : decode cX2_init 16 = .ok (.putfield 18, 3) := by decide +kernel
theorem dX2_init_19 : decode cX2_init 19 = .ok (.aload_n 0, 1) := by decide +kernel
theorem dX2_init_20 : decode cX2_init 20 = .ok (.iconst (-1), 1) := by decide +kernel
theorem dX2_init_21 : decode cX2_init 21 = .ok (.putfield 22, 3) := by decide +kernel
theorem dX2_init_24 : decode cX2_init 24 = .ok (.aload_n 0, 1) := by decide +kernel
theorem dX2_init_25 : decode cX2_init 25 = .ok (.aconst_null, 1) := by decide +kernel
theorem dX2_init_26 : decode cX2_init 26 = .ok (.putfield 25, 3) := by decide +kernel
theorem dX2_init_29 : decode cX2_init 29 = .ok (.aload_n 0, 1) := by decide +kernel
theorem dX2_init_30 : decode cX2_init 30 = .ok (.iload_n 1, 1) := by decide +kernel
theorem dX2_init_31 : decode cX2_init 31 = .ok (.putfield 29, 3) := by decide +kernel
theorem dX2_init_34 : decode cX2_init 34 = .ok (.aload_n 0, 1) := by decide +kernel
theorem dX2_init_35 : decode cX2_init 35 = .ok (.iload_n 2, 1) := by decide +kernel
theorem dX2_init_36 : decode cX2_init 36 = .ok (.putfield 32, 3) := by decide +kernel
theorem dX2_init_39 : decode cX2_init 39 = .ok (.aload_n 0, 1) := by decide +kernel
theorem dX2_init_40 : decode cX2_init 40 = .ok (.iload_n 3, 1) := by decide +kernel
theorem dX2_init_41 : decode cX2_init 41 = .ok (.putfield 35, 3) := by decide +kernel
theorem dX2_init_44 : decode cX2_init 44 = .ok (.return_, 1) := by decide +kernel
theorem dX2_weight_0 : decode cX2_weight 0 = .ok (.aload_n 0, 1) := by decide +kernel
theorem dX2_weight_1 : decode cX2_weight 1 = .ok (.getfield 25, 3) := by decide +kernel
theorem dX2_weight_4 : decode cX2_weight 4 = .ok (.ifnonnull 10, 3) := by decide +kernel
theorem dX2_weight_7 : decode cX2_weight 7 = .ok (.aload_n 0, 1) := by decide +kernel
theorem dX2_weight_8 : decode cX2_weight 8 = .ok (.getfield 29, 3) := by decide +kernel
theorem dX2_weight_11 : decode cX2_weight 11 = .ok (.goto 15, 3) := by decide +kernel
theorem dX2_weight_14 : decode cX2_weight 14 = .ok (.aload_n 0, 1) := by decide +kernel
theorem dX2_weight_15 : decode cX2_weight 15 = .ok (.getfield 29, 3) := by decide +kernel
theorem dX2_weight_18 : decode cX2_weight 18 = .ok (.aload_n 0, 1) := by decide +kernel
theorem dX2_weight_19 : decode cX2_weight 19 = .ok (.getfield 25, 3) := by decide +kernel
theorem dX2_weight_22 : decode cX2_weight 22 = .ok (.getfield 38, 3) := by decide +kernel
theorem dX2_weight_25 : decode cX2_weight 25 = .ok (.iadd, 1) := by decide +kernel
theorem dX2_weight_26 : decode cX2_weight 26 = .ok (.ireturn, 1) := by decide +kernel
theorem dX3_init_0 : decode cX3_init 0 = .ok (.aload_n 0, 1) := by decide +kernel
theorem dX3_init_1 : decode cX3_init 1 = .ok (.invokespecial 1, 3) := by decide +kernel
theorem dX3_init_4 : decode cX3_init 4 = .ok (.aload_n 0, 1) := by decide +kernel
theorem dX3_init_5 : decode cX3_init 5 = .ok (.new 7, 3) := by decide +kernel
theorem dX3_init_8 : decode cX3_init 8 = .ok (.dup, 1) := by decide +kernel
theorem dX3_init_9 : decode cX3_init 9 = .ok (.invokespecial 9, 3) := by decide +kernel
theorem dX3_init_12 : decode cX3_init 12 = .ok (.putfield 10, 3) := by decide +kernel
theorem dX3_init_15 : decode cX3_init 15 = .ok (.aload_n 0, 1) := by decide +kernel
theorem dX3_init_16 : decode cX3_init 16 = .ok (.new 7, 3) := by decide +kernel
theorem dX3_init_19 : decode cX3_init 19 = .ok (.dup, 1) := by decide +kernel
theorem dX3_init_20 : decode cX3_init 20 = .ok (.invokespecial 9, 3) := by decide +kernel
theorem dX3_init_23 : decode cX3_init 23 = .ok (.putfield 16, 3) := by decide +kernel
theorem dX3_init_26 : decode cX3_init 26 = .ok (.aload_n 0, 1) := by decide +kernel
theorem dX3_init_27 : decode cX3_init 27 = .ok (.new 7, 3) := by decide +kernel
theorem dX3_init_30 : decode cX3_init 30 = .ok (.dup, 1) := by decide +kernel
theorem dX3_init_31 : decode cX3_init 31 = .ok (.invokespecial 9, 3) := by decide +kernel
theorem dX3_init_34 : decode cX3_init 34 = .ok (.putfield 19, 3) := by decide +kernel
theorem dX3_init_37 : decode cX3_init 37 = .ok (.aload_n 0, 1) := by decide +kernel
theorem dX3_init_38 : decode cX3_init 38 = .ok (.iconst 3, 1) := by decide +kernel
theorem dX3_init_39 : decode cX3_init 39 = .ok (.newarray .int, 2) := by decide +kernel
theorem dX3_init_41 : decode cX3_init 41 = .ok (.putfield 22, 3) := by decide +kernel
theorem dX3_init_44 : decode cX3_init 44 = .ok (.aload_n 0, 1) := by decide +kernel
theorem dX3_init_45 : decode cX3_init 45 = .ok (.iconst 3, 1) := by decide +kernel
theorem dX3_init_46 : decode cX3_init 46 = .ok (.newarray .int, 2) := by decide +kernel
theorem dX3_init_48 : decode cX3_init 48 = .ok (.putfield 26, 3) := by decide +kernel
theorem dX3_init_51 : decode cX3_init 51 = .ok (.aload_n 0, 1) := by decide +kernel
theorem dX3_init_52 : decode cX3_init 52 = .ok (.iconst 3, 1) := by decide +kernel
theorem dX3_init_53 : decode cX3_init 53 = .ok (.newarray .int, 2) := by decide +kernel
theorem dX3_init_55 : decode cX3_init 55 = .ok (.putfield 29, 3) := by decide +kernel
theorem dX3_init_58 : decode cX3_init 58 = .ok (.aload_n 0, 1) := by decide +kernel
theorem dX3_init_59 : decode cX3_init 59 = .ok (.iconst 0, 1) := by decide +kernel
theorem dX3_init_60 : decode cX3_init 60 = .ok (.putfield 32, 3) := by decide +kernel
theorem dX3_init_63 : decode cX3_init 63 = .ok (.aload_n 0, 1) := by decide +kernel
theorem dX3_init_64 : decode cX3_init 64 = .ok (.iconst 0, 1) := by decide +kernel
theorem dX3_init_65 : decode cX3_init 65 = .ok (.putfield 36, 3) := by decide +kernel
theorem dX3_init_68 : decode cX3_init 68 = .ok (.aload_n 0, 1) := by decide +kernel
theorem dX3_init_69 : decode cX3_init 69 = .ok (.iconst 5, 1) := by decide +kernel
theorem dX3_init_70 : decode cX3_init 70 = .ok (.putfield 39, 3) := by decide +kernel
theorem dX3_init_73 : decode cX3_init 73 = .ok (.return_, 1) := by decide +kernel
theorem dX3_piece_0 : decode cX3_piece 0 = .ok (.iload_n 1, 1) := by decide +kernel
theorem dX3_piece_1 : decode cX3_piece 1 = .ok (.iconst 0, 1) := by decide +kernel
theorem dX3_piece_2 : decode cX3_piece 2 = .ok (.iconst 2, 1) := by decide +kernel
theorem dX3_piece_3 : decode cX3_piece 3 = .ok (.invokestatic 42, 3) := by decide +kernel
theorem dX3_piece_6 : decode cX3_piece 6 = .ok (.iload_n 2, 1) := by decide +kernel
theorem dX3_piece_7 : decode cX3_piece 7 = .ok (.iconst 1, 1) := by decide +kernel
theorem dX3_piece_8 : decode cX3_piece 8 = .ok (.sipush 20000, 3) := by decide +kernel
theorem dX3_piece_11 : decode cX3_piece 11 = .ok (.invokestatic 42, 3) := by decide +kernel
theorem dX3_piece_14 : decode cX3_piece 14 = .ok (.iload_n 3, 1) := by decide +kernel
theorem dX3_piece_15 : decode cX3_piece 15 = .ok (.iconst 1, 1) := by decide +kernel
theorem dX3_piece_16 : decode cX3_piece 16 = .ok (.sipush 999, 3) := by decide +kernel
theorem dX3_piece_19 : decode cX3_piece 19 = .ok (.invokestatic 42, 3) := by decide +kernel
theorem dX3_piece_22 : decode cX3_piece 22 = .ok (.aload_n 0, 1) := by decide +kernel
theorem dX3_piece_23 : decode cX3_piece 23 = .ok (.getfield 10, 3) := by decide +kernel
theorem dX3_piece_26 : decode cX3_piece 26 = .ok (.invokeinterface 46 1, 5) := by decide +kernel
theorem dX3_piece_31 : decode cX3_piece 31 = .ok (.bipush 10, 2) := by decide +kernel
theorem dX3_piece_33 : decode cX3_piece 33 = .ok (.if_icmp .ge 15, 3) := by decide +kernel
theorem dX3_piece_36 : decode cX3_piece 36 = .ok (.aload_n 0, 1) := by decide +kernel
theorem dX3_piece_37 : decode cX3_piece 37 = .ok (.getfield 16, 3) := by decide +kernel
theorem dX3_piece_40 : decode cX3_piece 40 = .ok (.invokeinterface 52 1, 5) := by decide +kernel
theorem dX3_piece_45 : decode cX3_piece 45 = .ok (.ifCond .ne 13, 3) := by decide +kernel
theorem dX3_piece_48 : decode cX3_piece 48 = .ok (.new 56, 3) := by decide +kernel
theorem dX3_piece_51 : decode cX3_piece 51 = .ok (.dup, 1) := by decide +kernel
theorem dX3_piece_52 : decode cX3_piece 52 = .ok (.ldc 58, 2) := by decide +kernel
theorem dX3_piece_54 : decode cX3_piece 54 = .ok (.invokespecial 60, 3) := by decide +kernel
theorem dX3_piece_57 : decode cX3_piece 57 = .ok (.athrow, 1) := by decide +kernel
theorem dX3_piece_58 : decode cX3_piece 58 = .ok (.aload_n 0, 1) := by decide +kernel
theorem dX3_piece_59 : decode cX3_piece 59 = .ok (.getfield 10, 3) := by decide +kernel
theorem dX3_piece_62 : decode cX3_piece 62 = .ok (.new 63, 3) := by decide +kernel
theorem dX3_piece_65 : decode cX3_piece 65 = .ok (.dup, 1) := by decide +kernel
theorem dX3_piece_66 : decode cX3_piece 66 = .ok (.iload_n 1, 1) := by decide +kernel
theorem dX3_piece_67 : decode cX3_piece 67 = .ok (.iload_n 2, 1) := by decide +kernel
theorem dX3_piece_68 : decode cX3_piece 68 = .ok (.iload_n 3, 1) := by decide +kernel
theorem dX3_piece_69 : decode cX3_piece 69 = .ok (.invokespecial 65, 3) := by decide +kernel
theorem dX3_piece_72 : decode cX3_piece 72 = .ok (.invokeinterface 67 2, 5) := by decide +kernel
theorem dX3_piece_77 : decode cX3_piece 77 = .ok (.pop, 1) := by decide +kernel
theorem dX3_piece_78 : decode cX3_piece 78 = .ok (.aload_n 0, 1) := by decide +kernel
theorem dX3_piece_79 : decode cX3_piece 79 = .ok (.getfield 10, 3) := by decide +kernel
theorem dX3_piece_82 : decode cX3_piece 82 = .ok (.invokeinterface 46 1, 5) := by decide +kernel
theorem dX3_piece_87 : decode cX3_piece 87 = .ok (.iconst 1, 1) := by decide +kernel
theorem dX3_piece_88 : decode cX3_piece 88 = .ok (.isub, 1) := by decide +kernel
theorem dX3_piece_89 : decode cX3_piece 89 = .ok (.ireturn, 1) := by decide +kernel
theorem dX3_weather_0 : decode cX3_weather 0 = .ok (.iload_n 1, 1) := by decide +kernel
theorem dX3_weather_1 : decode cX3_weather 1 = .ok (.bipush (-20), 2) := by decide +kernel
theorem dX3_weather_3 : decode cX3_weather 3 = .ok (.bipush 60, 2) := by decide +kernel
theorem dX3_weather_5 : decode cX3_weather 5 = .ok (.invokestatic 42, 3) := by decide +kernel
theorem dX3_weather_8 : decode cX3_weather 8 = .ok (.aload_n 0, 1) := by decide +kernel
theorem dX3_weather_9 : decode cX3_weather 9 = .ok (.getfield 36, 3) := by decide +kernel
theorem dX3_weather_12 : decode cX3_weather 12 = .ok (.istore_n 2, 1) := by decide +kernel
theorem dX3_weather_13 : decode cX3_weather 13 = .ok (.aload_n 0, 1) := by decide +kernel
theorem dX3_weather_14 : decode cX3_weather 14 = .ok (.iload_n 1, 1) := by decide +kernel
theorem dX3_weather_15 : decode cX3_weather 15 = .ok (.putfield 36, 3) := by decide +kernel
theorem dX3_weather_18 : decode cX3_weather 18 = .ok (.iload_n 2, 1) := by decide +kernel
theorem dX3_weather_19 : decode cX3_weather 19 = .ok (.ireturn, 1) := by decide +kernel
theorem dX3_snow_0 : decode cX3_snow 0 = .ok (.iload_n 1, 1) := by decide +kernel
theorem dX3_snow_1 : decode cX3_snow 1 = .ok (.iconst 1, 1) := by decide +kernel
theorem dX3_snow_2 : decode cX3_snow 2 = .ok (.sipush 500, 3) := by decide +kernel
theorem dX3_snow_5 : decode cX3_snow 5 = .ok (.invokestatic 42, 3) := by decide +kernel
theorem dX3_snow_8 : decode cX3_snow 8 = .ok (.iconst 0, 1) := by decide +kernel
theorem dX3_snow_9 : decode cX3_snow 9 = .ok (.istore_n 2, 1) := by decide +kernel
theorem dX3_snow_10 : decode cX3_snow 10 = .ok (.iload_n 2, 1) := by decide +kernel
theorem dX3_snow_11 : decode cX3_snow 11 = .ok (.aload_n 0, 1) := by decide +kernel
theorem dX3_snow_12 : decode cX3_snow 12 = .ok (.getfield 10, 3) := by decide +kernel
theorem dX3_snow_15 : decode cX3_snow 15 = .ok (.invokeinterface 46 1, 5) := by decide +kernel
theorem dX3_snow_20 : decode cX3_snow 20 = .ok (.if_icmp .ge 31, 3) := by decide +kernel
theorem dX3_snow_23 : decode cX3_snow 23 = .ok (.aload_n 0, 1) := by decide +kernel
theorem dX3_snow_24 : decode cX3_snow 24 = .ok (.getfield 10, 3) := by decide +kernel
theorem dX3_snow_27 : decode cX3_snow 27 = .ok (.iload_n 2, 1) := by decide +kernel
theorem dX3_snow_28 : decode cX3_snow 28 = .ok (.invokeinterface 71 2, 5) := by decide +kernel
theorem dX3_snow_33 : decode cX3_snow 33 = .ok (.checkcast 63, 3) := by decide +kernel
theorem dX3_snow_36 : decode cX3_snow 36 = .ok (.dup, 1) := by decide +kernel
theorem dX3_snow_37 : decode cX3_snow 37 = .ok (.getfield 75, 3) := by decide +kernel
theorem dX3_snow_40 : decode cX3_snow 40 = .ok (.iload_n 1, 1) := by decide +kernel
theorem dX3_snow_41 : decode cX3_snow 41 = .ok (.iadd, 1) := by decide +kernel
theorem dX3_snow_42 : decode cX3_snow 42 = .ok (.putfield 75, 3) := by decide +kernel
theorem dX3_snow_45 : decode cX3_snow 45 = .ok (.iinc 2 1, 3) := by decide +kernel
theorem dX3_snow_48 : decode cX3_snow 48 = .ok (.goto (-38), 3) := by decide +kernel
theorem dX3_snow_51 : decode cX3_snow 51 = .ok (.aload_n 0, 1) := by decide +kernel
theorem dX3_snow_52 : decode cX3_snow 52 = .ok (.getfield 10, 3) := by decide +kernel
theorem dX3_snow_55 : decode cX3_snow 55 = .ok (.invokeinterface 46 1, 5) := by decide +kernel
theorem dX3_snow_60 : decode cX3_snow 60 = .ok (.ireturn, 1) := by decide +kernel
theorem dX3_plough_0 : decode cX3_plough 0 = .ok (.aload_n 0, 1) := by decide +kernel
theorem dX3_plough_1 : decode cX3_plough 1 = .ok (.iload_n 1, 1) := by decide +kernel
theorem dX3_plough_2 : decode cX3_plough 2 = .ok (.invokevirtual 78, 3) := by decide +kernel
theorem dX3_plough_5 : decode cX3_plough 5 = .ok (.astore_n 2, 1) := by decide +kernel
theorem dX3_plough_6 : decode cX3_plough 6 = .ok (.aload_n 2, 1) := by decide +kernel
theorem dX3_plough_7 : decode cX3_plough 7 = .ok (.getfield 75, 3) := by decide +kernel
theorem dX3_plough_10 : decode cX3_plough 10 = .ok (.istore_n 3, 1) := by decide +kernel
theorem dX3_plough_11 : decode cX3_plough 11 = .ok (.aload_n 2, 1) := by decide +kernel
theorem dX3_plough_12 : decode cX3_plough 12 = .ok (.iconst 0, 1) := by decide +kernel
theorem dX3_plough_13 : decode cX3_plough 13 = .ok (.putfield 75, 3) := by decide +kernel
theorem dX3_plough_16 : decode cX3_plough 16 = .ok (.iload_n 3, 1) := by decide +kernel
theorem dX3_plough_17 : decode cX3_plough 17 = .ok (.ireturn, 1) := by decide +kernel
theorem dX3_flood_0 : decode cX3_flood 0 = .ok (.aload_n 0, 1) := by decide +kernel
theorem dX3_flood_1 : decode cX3_flood 1 = .ok (.iload_n 1, 1) := by decide +kernel
theorem dX3_flood_2 : decode cX3_flood 2 = .ok (.invokevirtual 78, 3) := by decide +kernel
theorem dX3_flood_5 : decode cX3_flood 5 = .ok (.astore_n 3, 1) := by decide +kernel
theorem dX3_flood_6 : decode cX3_flood 6 = .ok (.iload_n 2, 1) := by decide +kernel
theorem dX3_flood_7 : decode cX3_flood 7 = .ok (.iconst 1, 1) := by decide +kernel
theorem dX3_flood_8 : decode cX3_flood 8 = .ok (.bipush 100, 2) := by decide +kernel
theorem dX3_flood_10 : decode cX3_flood 10 = .ok (.invokestatic 42, 3) := by decide +kernel
theorem dX3_flood_13 : decode cX3_flood 13 = .ok (.aload_n 3, 1) := by decide +kernel
theorem dX3_flood_14 : decode cX3_flood 14 = .ok (.invokevirtual 82, 3) := by decide +kernel
theorem dX3_flood_17 : decode cX3_flood 17 = .ok (.ifCond .eq 22, 3) := by decide +kernel
theorem dX3_flood_20 : decode cX3_flood 20 = .ok (.aload_n 3, 1) := by decide +kernel
theorem dX3_flood_21 : decode cX3_flood 21 = .ok (.invokevirtual 85, 3) := by decide +kernel
theorem dX3_flood_24 : decode cX3_flood 24 = .ok (.ifCond .eq 15, 3) := by decide +kernel
theorem dX3_flood_27 : decode cX3_flood 27 = .ok (.aload_n 3, 1) := by decide +kernel
theorem dX3_flood_28 : decode cX3_flood 28 = .ok (.getfield 88, 3) := by decide +kernel
theorem dX3_flood_31 : decode cX3_flood 31 = .ok (.iload_n 2, 1) := by decide +kernel
theorem dX3_flood_32 : decode cX3_flood 32 = .ok (.iadd, 1) := by decide +kernel
theorem dX3_flood_33 : decode cX3_flood 33 = .ok (.sipush 500, 3) := by decide +kernel
theorem dX3_flood_36 : decode cX3_flood 36 = .ok (.if_icmp .le 13, 3) := by decide +kernel
theorem dX3_flood_39 : decode cX3_flood 39 = .ok (.new 56, 3) := by decide +kernel
theorem dX3_flood_42 : decode cX3_flood 42 = .ok (.dup, 1) := by decide +kernel
theorem dX3_flood_43 : decode cX3_flood 43 = .ok (.ldc 91, 2) := by decide +kernel
theorem dX3_flood_45 : decode cX3_flood 45 = .ok (.invokespecial 60, 3) := by decide +kernel
theorem dX3_flood_48 : decode cX3_flood 48 = .ok (.athrow, 1) := by decide +kernel
theorem dX3_flood_49 : decode cX3_flood 49 = .ok (.aload_n 3, 1) := by decide +kernel
theorem dX3_flood_50 : decode cX3_flood 50 = .ok (.iconst 0, 1) := by decide +kernel
theorem dX3_flood_51 : decode cX3_flood 51 = .ok (.putfield 75, 3) := by decide +kernel
theorem dX3_flood_54 : decode cX3_flood 54 = .ok (.aload_n 3, 1) := by decide +kernel
theorem dX3_flood_55 : decode cX3_flood 55 = .ok (.dup, 1) := by decide +kernel
theorem dX3_flood_56 : decode cX3_flood 56 = .ok (.getfield 88, 3) := by decide +kernel
theorem dX3_flood_59 : decode cX3_flood 59 = .ok (.iload_n 2, 1) := by decide +kernel
theorem dX3_flood_60 : decode cX3_flood 60 = .ok (.iadd, 1) := by decide +kernel
theorem dX3_flood_61 : decode cX3_flood 61 = .ok (.putfield 88, 3) := by decide +kernel
theorem dX3_flood_64 : decode cX3_flood 64 = .ok (.aload_n 3, 1) := by decide +kernel
theorem dX3_flood_65 : decode cX3_flood 65 = .ok (.getfield 88, 3) := by decide +kernel
theorem dX3_flood_68 : decode cX3_flood 68 = .ok (.ireturn, 1) := by decide +kernel
theorem dX3_drill_0 : decode cX3_drill 0 = .ok (.aload_n 0, 1) := by decide +kernel
theorem dX3_drill_1 : decode cX3_drill 1 = .ok (.iload_n 1, 1) := by decide +kernel
theorem dX3_drill_2 : decode cX3_drill 2 = .ok (.invokevirtual 78, 3) := by decide +kernel
theorem dX3_drill_5 : decode cX3_drill 5 = .ok (.astore_n 2, 1) := by decide +kernel
theorem dX3_drill_6 : decode cX3_drill 6 = .ok (.aload_n 2, 1) := by decide +kernel
theorem dX3_drill_7 : decode cX3_drill 7 = .ok (.aload_n 2, 1) := by decide +kernel
theorem dX3_drill_8 : decode cX3_drill 8 = .ok (.invokevirtual 93, 3) := by decide +kernel
theorem dX3_drill_11 : decode cX3_drill 11 = .ok (.putfield 97, 3) := by decide +kernel
theorem dX3_drill_14 : decode cX3_drill 14 = .ok (.aload_n 2, 1) := by decide +kernel
theorem dX3_drill_15 : decode cX3_drill 15 = .ok (.getfield 97, 3) := by decide +kernel
theorem dX3_drill_18 : decode cX3_drill 18 = .ok (.dreturn, 1) := by decide +kernel
theorem dX3_open_0 : decode cX3_open 0 = .ok (.aload_n 0, 1) := by decide +kernel
theorem dX3_open_1 : decode cX3_open 1 = .ok (.iload_n 1, 1) := by decide +kernel
theorem dX3_open_2 : decode cX3_open 2 = .ok (.invokevirtual 78, 3) := by decide +kernel
theorem dX3_open_5 : decode cX3_open 5 = .ok (.astore_n 3, 1) := by decide +kernel
theorem dX3_open_6 : decode cX3_open 6 = .ok (.iload_n 2, 1) := by decide +kernel
theorem dX3_open_7 : decode cX3_open 7 = .ok (.iconst 0, 1) := by decide +kernel
theorem dX3_open_8 : decode cX3_open 8 = .ok (.iconst 2, 1) := by decide +kernel
theorem dX3_open_9 : decode cX3_open 9 = .ok (.invokestatic 42, 3) := by decide +kernel
theorem dX3_open_12 : decode cX3_open 12 = .ok (.aload_n 3, 1) := by decide +kernel
theorem dX3_open_13 : decode cX3_open 13 = .ok (.getfield 101, 3) := by decide +kernel
theorem dX3_open_16 : decode cX3_open 16 = .ok (.istore 4, 2) := by decide +kernel
theorem dX3_open_18 : decode cX3_open 18 = .ok (.aload_n 3, 1) := by decide +kernel
theorem dX3_open_19 : decode cX3_open 19 = .ok (.iload_n 2, 1) := by decide +kernel
theorem dX3_open_20 : decode cX3_open 20 = .ok (.putfield 101, 3) := by decide +kernel
theorem dX3_open_23 : decode cX3_open 23 = .ok (.iload 4, 2) := by decide +kernel
theorem dX3_open_25 : decode cX3_open 25 = .ok (.ireturn, 1) := by decide +kernel
theorem dX3_limit_0 : decode cX3_limit 0 = .ok (.aload_n 0, 1) := by decide +kernel
theorem dX3_limit_1 : decode cX3_limit 1 = .ok (.iload_n 1, 1) := by decide +kernel
theorem dX3_limit_2 : decode cX3_limit 2 = .ok (.invokevirtual 78, 3) := by decide +kernel
theorem dX3_limit_5 : decode cX3_limit 5 = .ok (.astore_n 3, 1) := by decide +kernel
theorem dX3_limit_6 : decode cX3_limit 6 = .ok (.iload_n 2, 1) := by decide +kernel
theorem dX3_limit_7 : decode cX3_limit 7 = .ok (.iconst 1, 1) := by decide +kernel
theorem dX3_limit_8 : decode cX3_limit 8 = .ok (.sipush 300, 3) := by decide +kernel
theorem dX3_limit_11 : decode cX3_limit 11 = .ok (.invokestatic 42, 3) := by decide +kernel
theorem dX3_limit_14 : decode cX3_limit 14 = .ok (.aload_n 3, 1) := by decide +kernel
theorem dX3_limit_15 : decode cX3_limit 15 = .ok (.getfield 104, 3) := by decide +kernel
theorem dX3_limit_18 : decode cX3_limit 18 = .ok (.istore 4, 2) := by decide +kernel
theorem dX3_limit_20 : decode cX3_limit 20 = .ok (.aload_n 3, 1) := by decide +kernel
theorem dX3_limit_21 : decode cX3_limit 21 = .ok (.iload_n 2, 1) := by decide +kernel
theorem dX3_limit_22 : decode cX3_limit 22 = .ok (.putfield 104, 3) := by decide +kernel
theorem dX3_limit_25 : decode cX3_limit 25 = .ok (.iload 4, 2) := by decide +kernel
theorem dX3_limit_27 : decode cX3_limit 27 = .ok (.ireturn, 1) := by decide +kernel
theorem dX3_gap_0 : decode cX3_gap 0 = .ok (.iload_n 1, 1) := by decide +kernel
theorem dX3_gap_1 : decode cX3_gap 1 = .ok (.iconst 0, 1) := by decide +kernel
theorem dX3_gap_2 : decode cX3_gap 2 = .ok (.bipush 120, 2) := by decide +kernel
theorem dX3_gap_4 : decode cX3_gap 4 = .ok (.invokestatic 42, 3) := by decide +kernel
theorem dX3_gap_7 : decode cX3_gap 7 = .ok (.aload_n 0, 1) := by decide +kernel
theorem dX3_gap_8 : decode cX3_gap 8 = .ok (.getfield 39, 3) := by decide +kernel
theorem dX3_gap_11 : decode cX3_gap 11 = .ok (.istore_n 2, 1) := by decide +kernel
theorem dX3_gap_12 : decode cX3_gap 12 = .ok (.aload_n 0, 1) := by decide +kernel
theorem dX3_gap_13 : decode cX3_gap 13 = .ok (.iload_n 1, 1) := by decide +kernel
theorem dX3_gap_14 : decode cX3_gap 14 = .ok (.putfield 39, 3) := by decide +kernel
theorem dX3_gap_17 : decode cX3_gap 17 = .ok (.iload_n 2, 1) := by decide +kernel
theorem dX3_gap_18 : decode cX3_gap 18 = .ok (.ireturn, 1) := by decide +kernel
theorem dX3_vehicle_0 : decode cX3_vehicle 0 = .ok (.iload_n 1, 1) := by decide +kernel
theorem dX3_vehicle_1 : decode cX3_vehicle 1 = .ok (.sipush 500, 3) := by decide +kernel
theorem dX3_vehicle_4 : decode cX3_vehicle 4 = .ok (.ldc 107, 2) := by decide +kernel
theorem dX3_vehicle_6 : decode cX3_vehicle 6 = .ok (.invokestatic 42, 3) := by decide +kernel
theorem dX3_vehicle_9 : decode cX3_vehicle 9 = .ok (.iload_n 2, 1) := by decide +kernel
theorem dX3_vehicle_10 : decode cX3_vehicle 10 = .ok (.iconst 0, 1) := by decide +kernel
theorem dX3_vehicle_11 : decode cX3_vehicle 11 = .ok (.ldc 108, 2) := by decide +kernel
theorem dX3_vehicle_13 : decode cX3_vehicle 13 = .ok (.invokestatic 42, 3) := by decide +kernel
theorem dX3_vehicle_16 : decode cX3_vehicle 16 = .ok (.iload_n 3, 1) := by decide +kernel
theorem dX3_vehicle_17 : decode cX3_vehicle 17 = .ok (.iconst 1, 1) := by decide +kernel
theorem dX3_vehicle_18 : decode cX3_vehicle 18 = .ok (.sipush 300, 3) := by decide +kernel
theorem dX3_vehicle_21 : decode cX3_vehicle 21 = .ok (.invokestatic 42, 3) := by decide +kernel
theorem dX3_vehicle_24 : decode cX3_vehicle 24 = .ok (.aload_n 0, 1) := by decide +kernel
theorem dX3_vehicle_25 : decode cX3_vehicle 25 = .ok (.getfield 16, 3) := by decide +kernel
theorem dX3_vehicle_28 : decode cX3_vehicle 28 = .ok (.invokeinterface 46 1, 5) := by decide +kernel
theorem dX3_vehicle_33 : decode cX3_vehicle 33 = .ok (.bipush 16, 2) := by decide +kernel
theorem dX3_vehicle_35 : decode cX3_vehicle 35 = .ok (.if_icmp .ge 15, 3) := by decide +kernel
theorem dX3_vehicle_38 : decode cX3_vehicle 38 = .ok (.aload_n 0, 1) := by decide +kernel
theorem dX3_vehicle_39 : decode cX3_vehicle 39 = .ok (.getfield 10, 3) := by decide +kernel
theorem dX3_vehicle_42 : decode cX3_vehicle 42 = .ok (.invokeinterface 52 1, 5) := by decide +kernel
theorem dX3_vehicle_47 : decode cX3_vehicle 47 = .ok (.ifCond .eq 13, 3) := by decide +kernel
theorem dX3_vehicle_50 : decode cX3_vehicle 50 = .ok (.new 56, 3) := by decide +kernel
theorem dX3_vehicle_53 : decode cX3_vehicle 53 = .ok (.dup, 1) := by decide +kernel
theorem dX3_vehicle_54 : decode cX3_vehicle 54 = .ok (.ldc 109, 2) := by decide +kernel
theorem dX3_vehicle_56 : decode cX3_vehicle 56 = .ok (.invokespecial 60, 3) := by decide +kernel
theorem dX3_vehicle_59 : decode cX3_vehicle 59 = .ok (.athrow, 1) := by decide +kernel
theorem dX3_vehicle_60 : decode cX3_vehicle 60 = .ok (.aload_n 0, 1) := by decide +kernel
theorem dX3_vehicle_61 : decode cX3_vehicle 61 = .ok (.getfield 16, 3) := by decide +kernel
theorem dX3_vehicle_64 : decode cX3_vehicle 64 = .ok (.new 111, 3) := by decide +kernel
theorem dX3_vehicle_67 : decode cX3_vehicle 67 = .ok (.dup, 1) := by decide +kernel
theorem dX3_vehicle_68 : decode cX3_vehicle 68 = .ok (.iload_n 1, 1) := by decide +kernel
theorem dX3_vehicle_69 : decode cX3_vehicle 69 = .ok (.iload_n 2, 1) := by decide +kernel
theorem dX3_vehicle_70 : decode cX3_vehicle 70 = .ok (.iload_n 3, 1) := by decide +kernel
theorem dX3_vehicle_71 : decode cX3_vehicle 71 = .ok (.invokespecial 113, 3) := by decide +kernel
theorem dX3_vehicle_74 : decode cX3_vehicle 74 = .ok (.invokeinterface 67 2, 5) := by decide +kernel
theorem dX3_vehicle_79 : decode cX3_vehicle 79 = .ok (.pop, 1) := by decide +kernel
theorem dX3_vehicle_80 : decode cX3_vehicle 80 = .ok (.aload_n 0, 1) := by decide +kernel
theorem dX3_vehicle_81 : decode cX3_vehicle 81 = .ok (.getfield 16, 3) := by decide +kernel
theorem dX3_vehicle_84 : decode cX3_vehicle 84 = .ok (.invokeinterface 46 1, 5) := by decide +kernel
theorem dX3_vehicle_89 : decode cX3_vehicle 89 = .ok (.iconst 1, 1) := by decide +kernel
theorem dX3_vehicle_90 : decode cX3_vehicle 90 = .ok (.isub, 1) := by decide +kernel
theorem dX3_vehicle_91 : decode cX3_vehicle 91 = .ok (.ireturn, 1) := by decide +kernel
theorem dX3_load_0 : decode cX3_load 0 = .ok (.aload_n 0, 1) := by decide +kernel
theorem dX3_load_1 : decode cX3_load 1 = .ok (.iload_n 1, 1) := by decide +kernel
theorem dX3_load_2 : decode cX3_load 2 = .ok (.invokevirtual 114, 3) := by decide +kernel
theorem dX3_load_5 : decode cX3_load 5 = .ok (.astore 4, 2) := by decide +kernel
theorem dX3_load_7 : decode cX3_load 7 = .ok (.iload_n 2, 1) := by decide +kernel
theorem dX3_load_8 : decode cX3_load 8 = .ok (.invokestatic 118, 3) := by decide +kernel
theorem dX3_load_11 : decode cX3_load 11 = .ok (.iload_n 3, 1) := by decide +kernel
theorem dX3_load_12 : decode cX3_load 12 = .ok (.iconst 1, 1) := by decide +kernel
theorem dX3_load_13 : decode cX3_load 13 = .ok (.aload 4, 2) := by decide +kernel
theorem dX3_load_15 : decode cX3_load 15 = .ok (.getfield 122, 3) := by decide +kernel
theorem dX3_load_18 : decode cX3_load 18 = .ok (.invokestatic 42, 3) := by decide +kernel
theorem dX3_load_21 : decode cX3_load 21 = .ok (.aload 4, 2) := by decide +kernel
theorem dX3_load_23 : decode cX3_load 23 = .ok (.getfield 125, 3) := by decide +kernel
theorem dX3_load_26 : decode cX3_load 26 = .ok (.ifCond .ne 26, 3) := by decide +kernel
theorem dX3_load_29 : decode cX3_load 29 = .ok (.aload 4, 2) := by decide +kernel
theorem dX3_load_31 : decode cX3_load 31 = .ok (.getfield 128, 3) := by decide +kernel
theorem dX3_load_34 : decode cX3_load 34 = .ok (.ifnonnull 18, 3) := by decide +kernel
theorem dX3_load_37 : decode cX3_load 37 = .ok (.aload_n 0, 1) := by decide +kernel
theorem dX3_load_38 : decode cX3_load 38 = .ok (.getfield 19, 3) := by decide +kernel
theorem dX3_load_41 : decode cX3_load 41 = .ok (.invokeinterface 46 1, 5) := by decide +kernel
theorem dX3_load_46 : decode cX3_load 46 = .ok (.sipush 512, 3) := by decide +kernel
theorem dX3_load_49 : decode cX3_load 49 = .ok (.if_icmp .lt 13, 3) := by decide +kernel
theorem dX3_load_52 : decode cX3_load 52 = .ok (.new 56, 3) := by decide +kernel
theorem dX3_load_55 : decode cX3_load 55 = .ok (.dup, 1) := by decide +kernel
theorem dX3_load_56 : decode cX3_load 56 = .ok (.ldc 132, 2) := by decide +kernel
theorem dX3_load_58 : decode cX3_load 58 = .ok (.invokespecial 60, 3) := by decide +kernel
theorem dX3_load_61 : decode cX3_load 61 = .ok (.athrow, 1) := by decide +kernel
theorem dX3_load_62 : decode cX3_load 62 = .ok (.new 134, 3) := by decide +kernel
theorem dX3_load_65 : decode cX3_load 65 = .ok (.dup, 1) := by decide +kernel
theorem dX3_load_66 : decode cX3_load 66 = .ok (.iload_n 2, 1) := by decide +kernel
theorem dX3_load_67 : decode cX3_load 67 = .ok (.iload_n 3, 1) := by decide +kernel
theorem dX3_load_68 : decode cX3_load 68 = .ok (.invokespecial 136, 3) := by decide +kernel
theorem dX3_load_71 : decode cX3_load 71 = .ok (.astore 5, 2) := by decide +kernel
theorem dX3_load_73 : decode cX3_load 73 = .ok (.aload_n 0, 1) := by decide +kernel
theorem dX3_load_74 : decode cX3_load 74 = .ok (.getfield 19, 3) := by decide +kernel
theorem dX3_load_77 : decode cX3_load 77 = .ok (.aload 5, 2) := by decide +kernel
theorem dX3_load_79 : decode cX3_load 79 = .ok (.invokeinterface 67 2, 5) := by decide +kernel
theorem dX3_load_84 : decode cX3_load 84 = .ok (.pop, 1) := by decide +kernel
theorem dX3_load_85 : decode cX3_load 85 = .ok (.aload 4, 2) := by decide +kernel
theorem dX3_load_87 : decode cX3_load 87 = .ok (.aload 5, 2) := by decide +kernel
theorem dX3_load_89 : decode cX3_load 89 = .ok (.putfield 128, 3) := by decide +kernel
theorem dX3_load_92 : decode cX3_load 92 = .ok (.aload_n 0, 1) := by decide +kernel
theorem dX3_load_93 : decode cX3_load 93 = .ok (.getfield 22, 3) := by decide +kernel
theorem dX3_load_96 : decode cX3_load 96 = .ok (.iload_n 2, 1) := by decide +kernel
theorem dX3_load_97 : decode cX3_load 97 = .ok (.dup2, 1) := by decide +kernel
theorem dX3_load_98 : decode cX3_load 98 = .ok (.iaload, 1) := by decide +kernel
theorem dX3_load_99 : decode cX3_load 99 = .ok (.iload_n 3, 1) := by decide +kernel
theorem dX3_load_100 : decode cX3_load 100 = .ok (.iadd, 1) := by decide +kernel
theorem dX3_load_101 : decode cX3_load 101 = .ok (.iastore, 1) := by decide +kernel
theorem dX3_load_102 : decode cX3_load 102 = .ok (.aload 4, 2) := by decide +kernel
theorem dX3_load_104 : decode cX3_load 104 = .ok (.invokevirtual 139, 3) := by decide +kernel
theorem dX3_load_107 : decode cX3_load 107 = .ok (.ireturn, 1) := by decide +kernel
theorem dX3_go_0 : decode cX3_go 0 = .ok (.aload_n 0, 1) := by decide +kernel
theorem dX3_go_1 : decode cX3_go 1 = .ok (.iload_n 1, 1) := by decide +kernel
theorem dX3_go_2 : decode cX3_go 2 = .ok (.invokevirtual 114, 3) := by decide +kernel
theorem dX3_go_5 : decode cX3_go 5 = .ok (.astore_n 2, 1) := by decide +kernel
theorem dX3_go_6 : decode cX3_go 6 = .ok (.aload_n 2, 1) := by decide +kernel
theorem dX3_go_7 : decode cX3_go 7 = .ok (.getfield 125, 3) := by decide +kernel
theorem dX3_go_10 : decode cX3_go 10 = .ok (.ifCond .eq 21, 3) := by decide +kernel
theorem dX3_go_13 : decode cX3_go 13 = .ok (.aload_n 2, 1) := by decide +kernel
theorem dX3_go_14 : decode cX3_go 14 = .ok (.getfield 125, 3) := by decide +kernel
theorem dX3_go_17 : decode cX3_go 17 = .ok (.iconst 3, 1) := by decide +kernel
theorem dX3_go_18 : decode cX3_go 18 = .ok (.if_icmp .eq 13, 3) := by decide +kernel
theorem dX3_go_21 : decode cX3_go 21 = .ok (.new 56, 3) := by decide +kernel
theorem dX3_go_24 : decode cX3_go 24 = .ok (.dup, 1) := by decide +kernel
theorem dX3_go_25 : decode cX3_go 25 = .ok (.ldc 142, 2) := by decide +kernel
theorem dX3_go_27 : decode cX3_go 27 = .ok (.invokespecial 60, 3) := by decide +kernel
theorem dX3_go_30 : decode cX3_go 30 = .ok (.athrow, 1) := by decide +kernel
theorem dX3_go_31 : decode cX3_go 31 = .ok (.aload_n 2, 1) := by decide +kernel
theorem dX3_go_32 : decode cX3_go 32 = .ok (.aload_n 2, 1) := by decide +kernel
theorem dX3_go_33 : decode cX3_go 33 = .ok (.getfield 125, 3) := by decide +kernel
theorem dX3_go_36 : decode cX3_go 36 = .ok (.ifCond .ne 7, 3) := by decide +kernel
theorem dX3_go_39 : decode cX3_go 39 = .ok (.iconst 1, 1) := by decide +kernel
theorem dX3_go_40 : decode cX3_go 40 = .ok (.goto 4, 3) := by decide +kernel
theorem dX3_go_43 : decode cX3_go 43 = .ok (.iconst 0, 1) := by decide +kernel
theorem dX3_go_44 : decode cX3_go 44 = .ok (.putfield 144, 3) := by decide +kernel
theorem dX3_go_47 : decode cX3_go 47 = .ok (.aload_n 2, 1) := by decide +kernel
theorem dX3_go_48 : decode cX3_go 48 = .ok (.iconst 2, 1) := by decide +kernel
theorem dX3_go_49 : decode cX3_go 49 = .ok (.putfield 125, 3) := by decide +kernel
theorem dX3_go_52 : decode cX3_go 52 = .ok (.aload_n 2, 1) := by decide +kernel
theorem dX3_go_53 : decode cX3_go 53 = .ok (.getfield 144, 3) := by decide +kernel
theorem dX3_go_56 : decode cX3_go 56 = .ok (.ireturn, 1) := by decide +kernel
theorem dX3_turn_0 : decode cX3_turn 0 = .ok (.aload_n 0, 1) := by decide +kernel
theorem dX3_turn_1 : decode cX3_turn 1 = .ok (.iload_n 1, 1) := by decide +kernel
theorem dX3_turn_2 : decode cX3_turn 2 = .ok (.invokevirtual 114, 3) := by decide +kernel
theorem dX3_turn_5 : decode cX3_turn 5 = .ok (.astore_n 2, 1) := by decide +kernel
theorem dX3_turn_6 : decode cX3_turn 6 = .ok (.aload_n 2, 1) := by decide +kernel
theorem dX3_turn_7 : decode cX3_turn 7 = .ok (.getfield 125, 3) := by decide +kernel
theorem dX3_turn_10 : decode cX3_turn 10 = .ok (.iconst 2, 1) := by decide +kernel
theorem dX3_turn_11 : decode cX3_turn 11 = .ok (.if_icmp .eq 13, 3) := by decide +kernel
theorem dX3_turn_14 : decode cX3_turn 14 = .ok (.new 56, 3) := by decide +kernel
theorem dX3_turn_17 : decode cX3_turn 17 = .ok (.dup, 1) := by decide +kernel
theorem dX3_turn_18 : decode cX3_turn 18 = .ok (.ldc 148, 2) := by decide +kernel
theorem dX3_turn_20 : decode cX3_turn 20 = .ok (.invokespecial 60, 3) := by decide +kernel
theorem dX3_turn_23 : decode cX3_turn 23 = .ok (.athrow, 1) := by decide +kernel
theorem dX3_turn_24 : decode cX3_turn 24 = .ok (.aload_n 2, 1) := by decide +kernel
theorem dX3_turn_25 : decode cX3_turn 25 = .ok (.aload_n 2, 1) := by decide +kernel
theorem dX3_turn_26 : decode cX3_turn 26 = .ok (.getfield 144, 3) := by decide +kernel
theorem dX3_turn_29 : decode cX3_turn 29 = .ok (.ifCond .ne 7, 3) := by decide +kernel
theorem dX3_turn_32 : decode cX3_turn 32 = .ok (.iconst 1, 1) := by decide +kernel
theorem dX3_turn_33 : decode cX3_turn 33 = .ok (.goto 4, 3) := by decide +kernel
theorem dX3_turn_36 : decode cX3_turn 36 = .ok (.iconst 0, 1) := by decide +kernel
theorem dX3_turn_37 : decode cX3_turn 37 = .ok (.putfield 144, 3) := by decide +kernel
theorem dX3_turn_40 : decode cX3_turn 40 = .ok (.aload_n 0, 1) := by decide +kernel
theorem dX3_turn_41 : decode cX3_turn 41 = .ok (.aload_n 2, 1) := by decide +kernel
theorem dX3_turn_42 : decode cX3_turn 42 = .ok (.invokevirtual 150, 3) := by decide +kernel
theorem dX3_turn_45 : decode cX3_turn 45 = .ok (.aload_n 2, 1) := by decide +kernel
theorem dX3_turn_46 : decode cX3_turn 46 = .ok (.getfield 144, 3) := by decide +kernel
theorem dX3_turn_49 : decode cX3_turn 49 = .ok (.ireturn, 1) := by decide +kernel
theorem dX3_order_0 : decode cX3_order 0 = .ok (.iload_n 1, 1) := by decide +kernel
theorem dX3_order_1 : decode cX3_order 1 = .ok (.invokestatic 118, 3) := by decide +kernel
theorem dX3_order_4 : decode cX3_order 4 = .ok (.iload_n 2, 1) := by decide +kernel
theorem dX3_order_5 : decode cX3_order 5 = .ok (.iconst 1, 1) := by decide +kernel
theorem dX3_order_6 : decode cX3_order 6 = .ok (.ldc 154, 2) := by decide +kernel
theorem dX3_order_8 : decode cX3_order 8 = .ok (.invokestatic 42, 3) := by decide +kernel
theorem dX3_order_11 : decode cX3_order 11 = .ok (.aload_n 0, 1) := by decide +kernel
theorem dX3_order_12 : decode cX3_order 12 = .ok (.getfield 29, 3) := by decide +kernel
theorem dX3_order_15 : decode cX3_order 15 = .ok (.iload_n 1, 1) := by decide +kernel
theorem dX3_order_16 : decode cX3_order 16 = .ok (.iaload, 1) := by decide +kernel
theorem dX3_order_17 : decode cX3_order 17 = .ok (.iload_n 2, 1) := by decide +kernel
theorem dX3_order_18 : decode cX3_order 18 = .ok (.iadd, 1) := by decide +kernel
theorem dX3_order_19 : decode cX3_order 19 = .ok (.ldc 155, 2) := by decide +kernel
theorem dX3_order_21 : decode cX3_order 21 = .ok (.if_icmp .le 13, 3) := by decide +kernel
theorem dX3_order_24 : decode cX3_order 24 = .ok (.new 56, 3) := by decide +kernel
theorem dX3_order_27 : decode cX3_order 27 = .ok (.dup, 1) := by decide +kernel
theorem dX3_order_28 : decode cX3_order 28 = .ok (.ldc 156, 2) := by decide +kernel
theorem dX3_order_30 : decode cX3_order 30 = .ok (.invokespecial 60, 3) := by decide +kernel
theorem dX3_order_33 : decode cX3_order 33 = .ok (.athrow, 1) := by decide +kernel
theorem dX3_order_34 : decode cX3_order 34 = .ok (.aload_n 0, 1) := by decide +kernel
theorem dX3_order_35 : decode cX3_order 35 = .ok (.getfield 29, 3) := by decide +kernel
theorem dX3_order_38 : decode cX3_order 38 = .ok (.iload_n 1, 1) := by decide +kernel
theorem dX3_order_39 : decode cX3_order 39 = .ok (.dup2, 1) := by decide +kernel
theorem dX3_order_40 : decode cX3_order 40 = .ok (.iaload, 1) := by decide +kernel
theorem dX3_order_41 : decode cX3_order 41 = .ok (.iload_n 2, 1) := by decide +kernel
theorem dX3_order_42 : decode cX3_order 42 = .ok (.iadd, 1) := by decide +kernel
theorem dX3_order_43 : decode cX3_order 43 = .ok (.iastore, 1) := by decide +kernel
theorem dX3_order_44 : decode cX3_order 44 = .ok (.aload_n 0, 1) := by decide +kernel
theorem dX3_order_45 : decode cX3_order 45 = .ok (.getfield 29, 3) := by decide +kernel
theorem dX3_order_48 : decode cX3_order 48 = .ok (.iload_n 1, 1) := by decide +kernel
theorem dX3_order_49 : decode cX3_order 49 = .ok (.iaload, 1) := by decide +kernel
theorem dX3_order_50 : decode cX3_order 50 = .ok (.ireturn, 1) := by decide +kernel
theorem dX3_pass_0 : decode cX3_pass 0 = .ok (.iload_n 1, 1) := by decide +kernel
theorem dX3_pass_1 : decode cX3_pass 1 = .ok (.iconst 1, 1) := by decide +kernel
theorem dX3_pass_2 : decode cX3_pass 2 = .ok (.sipush 3000, 3) := by decide +kernel
theorem dX3_pass_5 : decode cX3_pass 5 = .ok (.invokestatic 42, 3) := by decide +kernel
theorem dX3_pass_8 : decode cX3_pass 8 = .ok (.aload_n 0, 1) := by decide +kernel
theorem dX3_pass_9 : decode cX3_pass 9 = .ok (.getfield 32, 3) := by decide +kernel
theorem dX3_pass_12 : decode cX3_pass 12 = .ok (.iload_n 1, 1) := by decide +kernel
theorem dX3_pass_13 : decode cX3_pass 13 = .ok (.iadd, 1) := by decide +kernel
theorem dX3_pass_14 : decode cX3_pass 14 = .ok (.ldc 158, 2) := by decide +kernel
theorem dX3_pass_16 : decode cX3_pass 16 = .ok (.if_icmp .le 13, 3) := by decide +kernel
theorem dX3_pass_19 : decode cX3_pass 19 = .ok (.new 56, 3) := by decide +kernel
theorem dX3_pass_22 : decode cX3_pass 22 = .ok (.dup, 1) := by decide +kernel
theorem dX3_pass_23 : decode cX3_pass 23 = .ok (.ldc 159, 2) := by decide +kernel
theorem dX3_pass_25 : decode cX3_pass 25 = .ok (.invokespecial 60, 3) := by decide +kernel
theorem dX3_pass_28 : decode cX3_pass 28 = .ok (.athrow, 1) := by decide +kernel
theorem dX3_pass_29 : decode cX3_pass 29 = .ok (.iconst 0, 1) := by decide +kernel
theorem dX3_pass_30 : decode cX3_pass 30 = .ok (.istore_n 2, 1) := by decide +kernel
theorem dX3_pass_31 : decode cX3_pass 31 = .ok (.iload_n 2, 1) := by decide +kernel
theorem dX3_pass_32 : decode cX3_pass 32 = .ok (.iload_n 1, 1) := by decide +kernel
theorem dX3_pass_33 : decode cX3_pass 33 = .ok (.if_icmp .ge 13, 3) := by decide +kernel
theorem dX3_pass_36 : decode cX3_pass 36 = .ok (.aload_n 0, 1) := by decide +kernel
theorem dX3_pass_37 : decode cX3_pass 37 = .ok (.invokevirtual 161, 3) := by decide +kernel
theorem dX3_pass_40 : decode cX3_pass 40 = .ok (.iinc 2 1, 3) := by decide +kernel
theorem dX3_pass_43 : decode cX3_pass 43 = .ok (.goto (-12), 3) := by decide +kernel
theorem dX3_pass_46 : decode cX3_pass 46 = .ok (.aload_n 0, 1) := by decide +kernel
theorem dX3_pass_47 : decode cX3_pass 47 = .ok (.getfield 32, 3) := by decide +kernel
theorem dX3_pass_50 : decode cX3_pass 50 = .ok (.ireturn, 1) := by decide +kernel
theorem dX3_minute_0 : decode cX3_minute 0 = .ok (.aload_n 0, 1) := by decide +kernel
theorem dX3_minute_1 : decode cX3_minute 1 = .ok (.getfield 32, 3) := by decide +kernel
theorem dX3_minute_4 : decode cX3_minute 4 = .ok (.ireturn, 1) := by decide +kernel
theorem dX3_told_0 : decode cX3_told 0 = .ok (.aload_n 0, 1) := by decide +kernel
theorem dX3_told_1 : decode cX3_told 1 = .ok (.iload_n 1, 1) := by decide +kernel
theorem dX3_told_2 : decode cX3_told 2 = .ok (.invokevirtual 78, 3) := by decide +kernel
theorem dX3_told_5 : decode cX3_told 5 = .ok (.astore_n 3, 1) := by decide +kernel
theorem dX3_told_6 : decode cX3_told 6 = .ok (.iload_n 2, 1) := by decide +kernel
theorem dX3_told_7 : decode cX3_told 7 = .ok (.iconst 0, 1) := by decide +kernel
theorem dX3_told_8 : decode cX3_told 8 = .ok (.bipush 7, 2) := by decide +kernel
theorem dX3_told_10 : decode cX3_told 10 = .ok (.invokestatic 42, 3) := by decide +kernel
theorem dX3_told_13 : decode cX3_told 13 = .ok (.iload_n 2, 1) := by decide +kernel
theorem dX3_told_14 : decode cX3_told 14 = .ok (.tableswitch 77 0 6 #[42, 47, 52, 57, 62, 67, 72], 42) := by decide +kernel
theorem dX3_told_56 : decode cX3_told 56 = .ok (.aload_n 3, 1) := by decide +kernel
theorem dX3_told_57 : decode cX3_told 57 = .ok (.getfield 164, 3) := by decide +kernel
theorem dX3_told_60 : decode cX3_told 60 = .ok (.ireturn, 1) := by decide +kernel
theorem dX3_told_61 : decode cX3_told 61 = .ok (.aload_n 3, 1) := by decide +kernel
theorem dX3_told_62 : decode cX3_told 62 = .ok (.getfield 167, 3) := by decide +kernel
theorem dX3_told_65 : decode cX3_told 65 = .ok (.ireturn, 1) := by decide +kernel
theorem dX3_told_66 : decode cX3_told 66 = .ok (.aload_n 3, 1) := by decide +kernel
theorem dX3_told_67 : decode cX3_told 67 = .ok (.getfield 88, 3) := by decide +kernel
theorem dX3_told_70 : decode cX3_told 70 = .ok (.ireturn, 1) := by decide +kernel
theorem dX3_told_71 : decode cX3_told 71 = .ok (.aload_n 3, 1) := by decide +kernel
theorem dX3_told_72 : decode cX3_told 72 = .ok (.getfield 75, 3) := by decide +kernel
theorem dX3_told_75 : decode cX3_told 75 = .ok (.ireturn, 1) := by decide +kernel
theorem dX3_told_76 : decode cX3_told 76 = .ok (.aload_n 3, 1) := by decide +kernel
theorem dX3_told_77 : decode cX3_told 77 = .ok (.getfield 170, 3) := by decide +kernel
theorem dX3_told_80 : decode cX3_told 80 = .ok (.ireturn, 1) := by decide +kernel
theorem dX3_told_81 : decode cX3_told 81 = .ok (.aload_n 3, 1) := by decide +kernel
theorem dX3_told_82 : decode cX3_told 82 = .ok (.getfield 101, 3) := by decide +kernel
theorem dX3_told_85 : decode cX3_told 85 = .ok (.ireturn, 1) := by decide +kernel
theorem dX3_told_86 : decode cX3_told 86 = .ok (.aload_n 3, 1) := by decide +kernel
theorem dX3_told_87 : decode cX3_told 87 = .ok (.getfield 104, 3) := by decide +kernel
theorem dX3_told_90 : decode cX3_told 90 = .ok (.ireturn, 1) := by decide +kernel
theorem dX3_told_91 : decode cX3_told 91 = .ok (.aload_n 3, 1) := by decide +kernel
theorem dX3_told_92 : decode cX3_told 92 = .ok (.getfield 173, 3) := by decide +kernel
theorem dX3_told_95 : decode cX3_told 95 = .ok (.aload_n 3, 1) := by decide +kernel
theorem dX3_told_96 : decode cX3_told 96 = .ok (.getfield 176, 3) := by decide +kernel
theorem dX3_told_99 : decode cX3_told 99 = .ok (.iadd, 1) := by decide +kernel
theorem dX3_told_100 : decode cX3_told 100 = .ok (.ireturn, 1) := by decide +kernel
theorem dX3_thickness_0 : decode cX3_thickness 0 = .ok (.aload_n 0, 1) := by decide +kernel
theorem dX3_thickness_1 : decode cX3_thickness 1 = .ok (.iload_n 1, 1) := by decide +kernel
theorem dX3_thickness_2 : decode cX3_thickness 2 = .ok (.invokevirtual 78, 3) := by decide +kernel
theorem dX3_thickness_5 : decode cX3_thickness 5 = .ok (.iload_n 2, 1) := by decide +kernel
theorem dX3_thickness_6 : decode cX3_thickness 6 = .ok (.invokevirtual 179, 3) := by decide +kernel
theorem dX3_thickness_9 : decode cX3_thickness 9 = .ok (.dreturn, 1) := by decide +kernel
theorem dX3_bears_0 : decode cX3_bears 0 = .ok (.aload_n 0, 1) := by decide +kernel
theorem dX3_bears_1 : decode cX3_bears 1 = .ok (.iload_n 1, 1) := by decide +kernel
theorem dX3_bears_2 : decode cX3_bears 2 = .ok (.invokevirtual 78, 3) := by decide +kernel
theorem dX3_bears_5 : decode cX3_bears 5 = .ok (.iload_n 2, 1) := by decide +kernel
theorem dX3_bears_6 : decode cX3_bears 6 = .ok (.invokevirtual 183, 3) := by decide +kernel
theorem dX3_bears_9 : decode cX3_bears 9 = .ok (.ireturn, 1) := by decide +kernel
theorem dX3_ofVehicle_0 : decode cX3_ofVehicle 0 = .ok (.aload_n 0, 1) := by decide +kernel
theorem dX3_ofVehicle_1 : decode cX3_ofVehicle 1 = .ok (.iload_n 1, 1) := by decide +kernel
theorem dX3_ofVehicle_2 : decode cX3_ofVehicle 2 = .ok (.invokevirtual 114, 3) := by decide +kernel
theorem dX3_ofVehicle_5 : decode cX3_ofVehicle 5 = .ok (.astore_n 3, 1) := by decide +kernel
theorem dX3_ofVehicle_6 : decode cX3_ofVehicle 6 = .ok (.iload_n 2, 1) := by decide +kernel
theorem dX3_ofVehicle_7 : decode cX3_ofVehicle 7 = .ok (.iconst 0, 1) := by decide +kernel
theorem dX3_ofVehicle_8 : decode cX3_ofVehicle 8 = .ok (.bipush 6, 2) := by decide +kernel
theorem dX3_ofVehicle_10 : decode cX3_ofVehicle 10 = .ok (.invokestatic 42, 3) := by decide +kernel
theorem dX3_ofVehicle_13 : decode cX3_ofVehicle 13 = .ok (.iload_n 2, 1) := by decide +kernel
theorem dX3_ofVehicle_14 : decode cX3_ofVehicle 14 = .ok (.tableswitch 104 0 5 #[38, 43, 48, 67, 86, 91], 38) := by decide +kernel
theorem dX3_ofVehicle_52 : decode cX3_ofVehicle 52 = .ok (.aload_n 3, 1) := by decide +kernel
theorem dX3_ofVehicle_53 : decode cX3_ofVehicle 53 = .ok (.getfield 125, 3) := by decide +kernel
theorem dX3_ofVehicle_56 : decode cX3_ofVehicle 56 = .ok (.ireturn, 1) := by decide +kernel
theorem dX3_ofVehicle_57 : decode cX3_ofVehicle 57 = .ok (.aload_n 3, 1) := by decide +kernel
theorem dX3_ofVehicle_58 : decode cX3_ofVehicle 58 = .ok (.invokevirtual 139, 3) := by decide +kernel
theorem dX3_ofVehicle_61 : decode cX3_ofVehicle 61 = .ok (.ireturn, 1) := by decide +kernel
theorem dX3_ofVehicle_62 : decode cX3_ofVehicle 62 = .ok (.aload_n 3, 1) := by decide +kernel
theorem dX3_ofVehicle_63 : decode cX3_ofVehicle 63 = .ok (.getfield 128, 3) := by decide +kernel
theorem dX3_ofVehicle_66 : decode cX3_ofVehicle 66 = .ok (.ifnonnull 7, 3) := by decide +kernel
theorem dX3_ofVehicle_69 : decode cX3_ofVehicle 69 = .ok (.iconst 0, 1) := by decide +kernel
theorem dX3_ofVehicle_70 : decode cX3_ofVehicle 70 = .ok (.goto 10, 3) := by decide +kernel
theorem dX3_ofVehicle_73 : decode cX3_ofVehicle 73 = .ok (.aload_n 3, 1) := by decide +kernel
theorem dX3_ofVehicle_74 : decode cX3_ofVehicle 74 = .ok (.getfield 128, 3) := by decide +kernel
theorem dX3_ofVehicle_77 : decode cX3_ofVehicle 77 = .ok (.getfield 187, 3) := by decide +kernel
theorem dX3_ofVehicle_80 : decode cX3_ofVehicle 80 = .ok (.ireturn, 1) := by decide +kernel
theorem dX3_ofVehicle_81 : decode cX3_ofVehicle 81 = .ok (.aload_n 3, 1) := by decide +kernel
theorem dX3_ofVehicle_82 : decode cX3_ofVehicle 82 = .ok (.getfield 128, 3) := by decide +kernel
theorem dX3_ofVehicle_85 : decode cX3_ofVehicle 85 = .ok (.ifnonnull 7, 3) := by decide +kernel
theorem dX3_ofVehicle_88 : decode cX3_ofVehicle 88 = .ok (.iconst (-1), 1) := by decide +kernel
theorem dX3_ofVehicle_89 : decode cX3_ofVehicle 89 = .ok (.goto 10, 3) := by decide +kernel
theorem dX3_ofVehicle_92 : decode cX3_ofVehicle 92 = .ok (.aload_n 3, 1) := by decide +kernel
theorem dX3_ofVehicle_93 : decode cX3_ofVehicle 93 = .ok (.getfield 128, 3) := by decide +kernel
theorem dX3_ofVehicle_96 : decode cX3_ofVehicle 96 = .ok (.getfield 190, 3) := by decide +kernel
theorem dX3_ofVehicle_99 : decode cX3_ofVehicle 99 = .ok (.ireturn, 1) := by decide +kernel
theorem dX3_ofVehicle_100 : decode cX3_ofVehicle 100 = .ok (.aload_n 3, 1) := by decide +kernel
theorem dX3_ofVehicle_101 : decode cX3_ofVehicle 101 = .ok (.getfield 193, 3) := by decide +kernel
theorem dX3_ofVehicle_104 : decode cX3_ofVehicle 104 = .ok (.ireturn, 1) := by decide +kernel
theorem dX3_ofVehicle_105 : decode cX3_ofVehicle 105 = .ok (.aload_n 3, 1) := by decide +kernel
theorem dX3_ofVehicle_106 : decode cX3_ofVehicle 106 = .ok (.getfield 144, 3) := by decide +kernel
theorem dX3_ofVehicle_109 : decode cX3_ofVehicle 109 = .ok (.ifCond .eq 7, 3) := by decide +kernel
theorem dX3_ofVehicle_112 : decode cX3_ofVehicle 112 = .ok (.iconst 1, 1) := by decide +kernel
theorem dX3_ofVehicle_113 : decode cX3_ofVehicle 113 = .ok (.goto 4, 3) := by decide +kernel
theorem dX3_ofVehicle_116 : decode cX3_ofVehicle 116 = .ok (.iconst 0, 1) := by decide +kernel
theorem dX3_ofVehicle_117 : decode cX3_ofVehicle 117 = .ok (.ireturn, 1) := by decide +kernel
theorem dX3_ofVehicle_118 : decode cX3_ofVehicle 118 = .ok (.aload_n 3, 1) := by decide +kernel
theorem dX3_ofVehicle_119 : decode cX3_ofVehicle 119 = .ok (.getfield 125, 3) := by decide +kernel
theorem dX3_ofVehicle_122 : decode cX3_ofVehicle 122 = .ok (.iconst 1, 1) := by decide +kernel
theorem dX3_ofVehicle_123 : decode cX3_ofVehicle 123 = .ok (.if_icmp .ne 10, 3) := by decide +kernel
theorem dX3_ofVehicle_126 : decode cX3_ofVehicle 126 = .ok (.aload_n 3, 1) := by decide +kernel
theorem dX3_ofVehicle_127 : decode cX3_ofVehicle 127 = .ok (.getfield 196, 3) := by decide +kernel
theorem dX3_ofVehicle_130 : decode cX3_ofVehicle 130 = .ok (.goto 4, 3) := by decide +kernel
theorem dX3_ofVehicle_133 : decode cX3_ofVehicle 133 = .ok (.iconst (-1), 1) := by decide +kernel
theorem dX3_ofVehicle_134 : decode cX3_ofVehicle 134 = .ok (.ireturn, 1) := by decide +kernel
theorem dX3_why_0 : decode cX3_why 0 = .ok (.aload_n 0, 1) := by decide +kernel
theorem dX3_why_1 : decode cX3_why 1 = .ok (.iload_n 1, 1) := by decide +kernel
theorem dX3_why_2 : decode cX3_why 2 = .ok (.invokevirtual 114, 3) := by decide +kernel
theorem dX3_why_5 : decode cX3_why 5 = .ok (.astore_n 2, 1) := by decide +kernel
theorem dX3_why_6 : decode cX3_why 6 = .ok (.aload_n 2, 1) := by decide +kernel
theorem dX3_why_7 : decode cX3_why 7 = .ok (.getfield 125, 3) := by decide +kernel
theorem dX3_why_10 : decode cX3_why 10 = .ok (.iconst 2, 1) := by decide +kernel
theorem dX3_why_11 : decode cX3_why 11 = .ok (.if_icmp .ne 11, 3) := by decide +kernel
theorem dX3_why_14 : decode cX3_why 14 = .ok (.aload_n 0, 1) := by decide +kernel
theorem dX3_why_15 : decode cX3_why 15 = .ok (.aload_n 2, 1) := by decide +kernel
theorem dX3_why_16 : decode cX3_why 16 = .ok (.invokevirtual 199, 3) := by decide +kernel
theorem dX3_why_19 : decode cX3_why 19 = .ok (.goto 4, 3) := by decide +kernel
theorem dX3_why_22 : decode cX3_why 22 = .ok (.iconst (-1), 1) := by decide +kernel
theorem dX3_why_23 : decode cX3_why 23 = .ok (.ireturn, 1) := by decide +kernel
theorem dX3_speed_0 : decode cX3_speed 0 = .ok (.aload_n 0, 1) := by decide +kernel
theorem dX3_speed_1 : decode cX3_speed 1 = .ok (.iload_n 2, 1) := by decide +kernel
theorem dX3_speed_2 : decode cX3_speed 2 = .ok (.invokevirtual 78, 3) := by decide +kernel
theorem dX3_speed_5 : decode cX3_speed 5 = .ok (.aload_n 0, 1) := by decide +kernel
theorem dX3_speed_6 : decode cX3_speed 6 = .ok (.iload_n 1, 1) := by decide +kernel
theorem dX3_speed_7 : decode cX3_speed 7 = .ok (.invokevirtual 114, 3) := by decide +kernel
theorem dX3_speed_10 : decode cX3_speed 10 = .ok (.invokevirtual 203, 3) := by decide +kernel
theorem dX3_speed_13 : decode cX3_speed 13 = .ok (.ireturn, 1) := by decide +kernel
theorem dX3_minutes_0 : decode cX3_minutes 0 = .ok (.aload_n 0, 1) := by decide +kernel
theorem dX3_minutes_1 : decode cX3_minutes 1 = .ok (.iload_n 2, 1) := by decide +kernel
theorem dX3_minutes_2 : decode cX3_minutes 2 = .ok (.invokevirtual 78, 3) := by decide +kernel
theorem dX3_minutes_5 : decode cX3_minutes 5 = .ok (.aload_n 0, 1) := by decide +kernel
theorem dX3_minutes_6 : decode cX3_minutes 6 = .ok (.iload_n 1, 1) := by decide +kernel
theorem dX3_minutes_7 : decode cX3_minutes 7 = .ok (.invokevirtual 114, 3) := by decide +kernel
theorem dX3_minutes_10 : decode cX3_minutes 10 = .ok (.invokevirtual 206, 3) := by decide +kernel
theorem dX3_minutes_13 : decode cX3_minutes 13 = .ok (.ireturn, 1) := by decide +kernel
theorem dX3_minutesAnew_0 : decode cX3_minutesAnew 0 = .ok (.aload_n 0, 1) := by decide +kernel
theorem dX3_minutesAnew_1 : decode cX3_minutesAnew 1 = .ok (.iload_n 2, 1) := by decide +kernel
theorem dX3_minutesAnew_2 : decode cX3_minutesAnew 2 = .ok (.invokevirtual 78, 3) := by decide +kernel
theorem dX3_minutesAnew_5 : decode cX3_minutesAnew 5 = .ok (.astore_n 3, 1) := by decide +kernel
theorem dX3_minutesAnew_6 : decode cX3_minutesAnew 6 = .ok (.bipush 6, 2) := by decide +kernel
theorem dX3_minutesAnew_8 : decode cX3_minutesAnew 8 = .ok (.aload_n 3, 1) := by decide +kernel
theorem dX3_minutesAnew_9 : decode cX3_minutesAnew 9 = .ok (.aload_n 0, 1) := by decide +kernel
theorem dX3_minutesAnew_10 : decode cX3_minutesAnew 10 = .ok (.iload_n 1, 1) := by decide +kernel
theorem dX3_minutesAnew_11 : decode cX3_minutesAnew 11 = .ok (.invokevirtual 114, 3) := by decide +kernel
theorem dX3_minutesAnew_14 : decode cX3_minutesAnew 14 = .ok (.invokevirtual 203, 3) := by decide +kernel
theorem dX3_minutesAnew_17 : decode cX3_minutesAnew 17 = .ok (.imul, 1) := by decide +kernel
theorem dX3_minutesAnew_18 : decode cX3_minutesAnew 18 = .ok (.istore 4, 2) := by decide +kernel
theorem dX3_minutesAnew_20 : decode cX3_minutesAnew 20 = .ok (.iconst 0, 1) := by decide +kernel
theorem dX3_minutesAnew_21 : decode cX3_minutesAnew 21 = .ok (.istore 5, 2) := by decide +kernel
theorem dX3_minutesAnew_23 : decode cX3_minutesAnew 23 = .ok (.iconst 0, 1) := by decide +kernel
theorem dX3_minutesAnew_24 : decode cX3_minutesAnew 24 = .ok (.istore 6, 2) := by decide +kernel
theorem dX3_minutesAnew_26 : decode cX3_minutesAnew 26 = .ok (.iload 5, 2) := by decide +kernel
theorem dX3_minutesAnew_28 : decode cX3_minutesAnew 28 = .ok (.aload_n 3, 1) := by decide +kernel
theorem dX3_minutesAnew_29 : decode cX3_minutesAnew 29 = .ok (.getfield 209, 3) := by decide +kernel
theorem dX3_minutesAnew_32 : decode cX3_minutesAnew 32 = .ok (.if_icmp .ge 24, 3) := by decide +kernel
theorem dX3_minutesAnew_35 : decode cX3_minutesAnew 35 = .ok (.iload 6, 2) := by decide +kernel
theorem dX3_minutesAnew_37 : decode cX3_minutesAnew 37 = .ok (.sipush 20000, 3) := by decide +kernel
theorem dX3_minutesAnew_40 : decode cX3_minutesAnew 40 = .ok (.if_icmp .ge 16, 3) := by decide +kernel
theorem dX3_minutesAnew_43 : decode cX3_minutesAnew 43 = .ok (.iload 5, 2) := by decide +kernel
theorem dX3_minutesAnew_45 : decode cX3_minutesAnew 45 = .ok (.iload 4, 2) := by decide +kernel
theorem dX3_minutesAnew_47 : decode cX3_minutesAnew 47 = .ok (.iadd, 1) := by decide +kernel
theorem dX3_minutesAnew_48 : decode cX3_minutesAnew 48 = .ok (.istore 5, 2) := by decide +kernel
theorem dX3_minutesAnew_50 : decode cX3_minutesAnew 50 = .ok (.iinc 6 1, 3) := by decide +kernel
theorem dX3_minutesAnew_53 : decode cX3_minutesAnew 53 = .ok (.goto (-27), 3) := by decide +kernel
theorem dX3_minutesAnew_56 : decode cX3_minutesAnew 56 = .ok (.iload 6, 2) := by decide +kernel
theorem dX3_minutesAnew_58 : decode cX3_minutesAnew 58 = .ok (.ireturn, 1) := by decide +kernel
theorem dX3_kilos_0 : decode cX3_kilos 0 = .ok (.iload_n 1, 1) := by decide +kernel
theorem dX3_kilos_1 : decode cX3_kilos 1 = .ok (.invokestatic 118, 3) := by decide +kernel
theorem dX3_kilos_4 : decode cX3_kilos 4 = .ok (.iload_n 2, 1) := by decide +kernel
theorem dX3_kilos_5 : decode cX3_kilos 5 = .ok (.iconst 0, 1) := by decide +kernel
theorem dX3_kilos_6 : decode cX3_kilos 6 = .ok (.iconst 4, 1) := by decide +kernel
theorem dX3_kilos_7 : decode cX3_kilos 7 = .ok (.invokestatic 42, 3) := by decide +kernel
theorem dX3_kilos_10 : decode cX3_kilos 10 = .ok (.iload_n 2, 1) := by decide +kernel
theorem dX3_kilos_11 : decode cX3_kilos 11 = .ok (.tableswitch 57 0 3 #[29, 36, 43, 50], 29) := by decide +kernel
theorem dX3_kilos_40 : decode cX3_kilos 40 = .ok (.aload_n 0, 1) := by decide +kernel
theorem dX3_kilos_41 : decode cX3_kilos 41 = .ok (.getfield 22, 3) := by decide +kernel
theorem dX3_kilos_44 : decode cX3_kilos 44 = .ok (.iload_n 1, 1) := by decide +kernel
theorem dX3_kilos_45 : decode cX3_kilos 45 = .ok (.iaload, 1) := by decide +kernel
theorem dX3_kilos_46 : decode cX3_kilos 46 = .ok (.ireturn, 1) := by decide +kernel
theorem dX3_kilos_47 : decode cX3_kilos 47 = .ok (.aload_n 0, 1) := by decide +kernel
theorem dX3_kilos_48 : decode cX3_kilos 48 = .ok (.getfield 26, 3) := by decide +kernel
theorem dX3_kilos_51 : decode cX3_kilos 51 = .ok (.iload_n 1, 1) := by decide +kernel
theorem dX3_kilos_52 : decode cX3_kilos 52 = .ok (.iaload, 1) := by decide +kernel
theorem dX3_kilos_53 : decode cX3_kilos 53 = .ok (.ireturn, 1) := by decide +kernel
theorem dX3_kilos_54 : decode cX3_kilos 54 = .ok (.aload_n 0, 1) := by decide +kernel
theorem dX3_kilos_55 : decode cX3_kilos 55 = .ok (.iload_n 1, 1) := by decide +kernel
theorem dX3_kilos_56 : decode cX3_kilos 56 = .ok (.iconst 0, 1) := by decide +kernel
theorem dX3_kilos_57 : decode cX3_kilos 57 = .ok (.invokevirtual 212, 3) := by decide +kernel
theorem dX3_kilos_60 : decode cX3_kilos 60 = .ok (.ireturn, 1) := by decide +kernel
theorem dX3_kilos_61 : decode cX3_kilos 61 = .ok (.aload_n 0, 1) := by decide +kernel
theorem dX3_kilos_62 : decode cX3_kilos 62 = .ok (.iload_n 1, 1) := by decide +kernel
theorem dX3_kilos_63 : decode cX3_kilos 63 = .ok (.iconst 1, 1) := by decide +kernel
theorem dX3_kilos_64 : decode cX3_kilos 64 = .ok (.invokevirtual 212, 3) := by decide +kernel
theorem dX3_kilos_67 : decode cX3_kilos 67 = .ok (.ireturn, 1) := by decide +kernel
theorem dX3_kilos_68 : decode cX3_kilos 68 = .ok (.aload_n 0, 1) := by decide +kernel
theorem dX3_kilos_69 : decode cX3_kilos 69 = .ok (.iload_n 1, 1) := by decide +kernel
theorem dX3_kilos_70 : decode cX3_kilos 70 = .ok (.invokevirtual 216, 3) := by decide +kernel
theorem dX3_kilos_73 : decode cX3_kilos 73 = .ok (.ireturn, 1) := by decide +kernel
theorem dX3_kilosAnew_0 : decode cX3_kilosAnew 0 = .ok (.iload_n 1, 1) := by decide +kernel
theorem dX3_kilosAnew_1 : decode cX3_kilosAnew 1 = .ok (.invokestatic 118, 3) := by decide +kernel
theorem dX3_kilosAnew_4 : decode cX3_kilosAnew 4 = .ok (.iconst 0, 1) := by decide +kernel
theorem dX3_kilosAnew_5 : decode cX3_kilosAnew 5 = .ok (.istore_n 2, 1) := by decide +kernel
theorem dX3_kilosAnew_6 : decode cX3_kilosAnew 6 = .ok (.iconst 0, 1) := by decide +kernel
theorem dX3_kilosAnew_7 : decode cX3_kilosAnew 7 = .ok (.istore_n 3, 1) := by decide +kernel
theorem dX3_kilosAnew_8 : decode cX3_kilosAnew 8 = .ok (.iload_n 3, 1) := by decide +kernel
theorem dX3_kilosAnew_9 : decode cX3_kilosAnew 9 = .ok (.aload_n 0, 1) := by decide +kernel
theorem dX3_kilosAnew_10 : decode cX3_kilosAnew 10 = .ok (.getfield 19, 3) := by decide +kernel
theorem dX3_kilosAnew_13 : decode cX3_kilosAnew 13 = .ok (.invokeinterface 46 1, 5) := by decide +kernel
theorem dX3_kilosAnew_18 : decode cX3_kilosAnew 18 = .ok (.if_icmp .ge 49, 3) := by decide +kernel
theorem dX3_kilosAnew_21 : decode cX3_kilosAnew 21 = .ok (.aload_n 0, 1) := by decide +kernel
theorem dX3_kilosAnew_22 : decode cX3_kilosAnew 22 = .ok (.getfield 19, 3) := by decide +kernel
theorem dX3_kilosAnew_25 : decode cX3_kilosAnew 25 = .ok (.iload_n 3, 1) := by decide +kernel
theorem dX3_kilosAnew_26 : decode cX3_kilosAnew 26 = .ok (.invokeinterface 71 2, 5) := by decide +kernel
theorem dX3_kilosAnew_31 : decode cX3_kilosAnew 31 = .ok (.checkcast 134, 3) := by decide +kernel
theorem dX3_kilosAnew_34 : decode cX3_kilosAnew 34 = .ok (.astore 4, 2) := by decide +kernel
theorem dX3_kilosAnew_36 : decode cX3_kilosAnew 36 = .ok (.aload 4, 2) := by decide +kernel
theorem dX3_kilosAnew_38 : decode cX3_kilosAnew 38 = .ok (.getfield 190, 3) := by decide +kernel
theorem dX3_kilosAnew_41 : decode cX3_kilosAnew 41 = .ok (.iload_n 1, 1) := by decide +kernel
theorem dX3_kilosAnew_42 : decode cX3_kilosAnew 42 = .ok (.if_icmp .ne 19, 3) := by decide +kernel
theorem dX3_kilosAnew_45 : decode cX3_kilosAnew 45 = .ok (.aload 4, 2) := by decide +kernel
theorem dX3_kilosAnew_47 : decode cX3_kilosAnew 47 = .ok (.getfield 220, 3) := by decide +kernel
theorem dX3_kilosAnew_50 : decode cX3_kilosAnew 50 = .ok (.ifCond .ne 11, 3) := by decide +kernel
theorem dX3_kilosAnew_53 : decode cX3_kilosAnew 53 = .ok (.iload_n 2, 1) := by decide +kernel
theorem dX3_kilosAnew_54 : decode cX3_kilosAnew 54 = .ok (.aload 4, 2) := by decide +kernel
theorem dX3_kilosAnew_56 : decode cX3_kilosAnew 56 = .ok (.getfield 187, 3) := by decide +kernel
theorem dX3_kilosAnew_59 : decode cX3_kilosAnew 59 = .ok (.iadd, 1) := by decide +kernel
theorem dX3_kilosAnew_60 : decode cX3_kilosAnew 60 = .ok (.istore_n 2, 1) := by decide +kernel
theorem dX3_kilosAnew_61 : decode cX3_kilosAnew 61 = .ok (.iinc 3 1, 3) := by decide +kernel
theorem dX3_kilosAnew_64 : decode cX3_kilosAnew 64 = .ok (.goto (-56), 3) := by decide +kernel
theorem dX3_kilosAnew_67 : decode cX3_kilosAnew 67 = .ok (.iload_n 2, 1) := by decide +kernel
theorem dX3_kilosAnew_68 : decode cX3_kilosAnew 68 = .ok (.ireturn, 1) := by decide +kernel
theorem dX3_bill_0 : decode cX3_bill 0 = .ok (.lconst 0, 1) := by decide +kernel
theorem dX3_bill_1 : decode cX3_bill 1 = .ok (.lstore_n 1, 1) := by decide +kernel
theorem dX3_bill_2 : decode cX3_bill 2 = .ok (.iconst 0, 1) := by decide +kernel
theorem dX3_bill_3 : decode cX3_bill 3 = .ok (.istore_n 3, 1) := by decide +kernel
theorem dX3_bill_4 : decode cX3_bill 4 = .ok (.iload_n 3, 1) := by decide +kernel
theorem dX3_bill_5 : decode cX3_bill 5 = .ok (.iconst 3, 1) := by decide +kernel
theorem dX3_bill_6 : decode cX3_bill 6 = .ok (.if_icmp .ge 30, 3) := by decide +kernel
theorem dX3_bill_9 : decode cX3_bill 9 = .ok (.lload_n 1, 1) := by decide +kernel
theorem dX3_bill_10 : decode cX3_bill 10 = .ok (.aload_n 0, 1) := by decide +kernel
theorem dX3_bill_11 : decode cX3_bill 11 = .ok (.getfield 26, 3) := by decide +kernel
theorem dX3_bill_14 : decode cX3_bill 14 = .ok (.iload_n 3, 1) := by decide +kernel
theorem dX3_bill_15 : decode cX3_bill 15 = .ok (.iaload, 1) := by decide +kernel
theorem dX3_bill_16 : decode cX3_bill 16 = .ok (.i2l, 1) := by decide +kernel
theorem dX3_bill_17 : decode cX3_bill 17 = .ok (.ldc2_w 223, 3) := by decide +kernel
theorem dX3_bill_20 : decode cX3_bill 20 = .ok (.aload_n 0, 1) := by decide +kernel
theorem dX3_bill_21 : decode cX3_bill 21 = .ok (.iload_n 3, 1) := by decide +kernel
theorem dX3_bill_22 : decode cX3_bill 22 = .ok (.invokevirtual 216, 3) := by decide +kernel
theorem dX3_bill_25 : decode cX3_bill 25 = .ok (.i2l, 1) := by decide +kernel
theorem dX3_bill_26 : decode cX3_bill 26 = .ok (.lmul, 1) := by decide +kernel
theorem dX3_bill_27 : decode cX3_bill 27 = .ok (.ladd, 1) := by decide +kernel
theorem dX3_bill_28 : decode cX3_bill 28 = .ok (.ladd, 1) := by decide +kernel
theorem dX3_bill_29 : decode cX3_bill 29 = .ok (.lstore_n 1, 1) := by decide +kernel
theorem dX3_bill_30 : decode cX3_bill 30 = .ok (.iinc 3 1, 3) := by decide +kernel
theorem dX3_bill_33 : decode cX3_bill 33 = .ok (.goto (-29), 3) := by decide +kernel
theorem dX3_bill_36 : decode cX3_bill 36 = .ok (.lload_n 1, 1) := by decide +kernel
theorem dX3_bill_37 : decode cX3_bill 37 = .ok (.lreturn, 1) := by decide +kernel
theorem dX3_needRange_0 : decode cX3_needRange 0 = .ok (.iload_n 0, 1) := by decide +kernel
theorem dX3_needRange_1 : decode cX3_needRange 1 = .ok (.iload_n 1, 1) := by decide +kernel
theorem dX3_needRange_2 : decode cX3_needRange 2 = .ok (.if_icmp .lt 8, 3) := by decide +kernel
theorem dX3_needRange_5 : decode cX3_needRange 5 = .ok (.iload_n 0, 1) := by decide +kernel
theorem dX3_needRange_6 : decode cX3_needRange 6 = .ok (.iload_n 2, 1) := by decide +kernel
theorem dX3_needRange_7 : decode cX3_needRange 7 = .ok (.if_icmp .le 13, 3) := by decide +kernel
theorem dX3_needRange_10 : decode cX3_needRange 10 = .ok (.new 225, 3) := by decide +kernel
theorem dX3_needRange_13 : decode cX3_needRange 13 = .ok (.dup, 1) := by decide +kernel
theorem dX3_needRange_14 : decode cX3_needRange 14 = .ok (.ldc 227, 2) := by decide +kernel
theorem dX3_needRange_16 : decode cX3_needRange 16 = .ok (.invokespecial 229, 3) := by decide +kernel
theorem dX3_needRange_19 : decode cX3_needRange 19 = .ok (.athrow, 1) := by decide +kernel
theorem dX3_needRange_20 : decode cX3_needRange 20 = .ok (.return_, 1) := by decide +kernel
theorem dX3_needGoods_0 : decode cX3_needGoods 0 = .ok (.iload_n 0, 1) := by decide +kernel
theorem dX3_needGoods_1 : decode cX3_needGoods 1 = .ok (.ifCond .lt 8, 3) := by decide +kernel
theorem dX3_needGoods_4 : decode cX3_needGoods 4 = .ok (.iload_n 0, 1) := by decide +kernel
theorem dX3_needGoods_5 : decode cX3_needGoods 5 = .ok (.iconst 3, 1) := by decide +kernel
theorem dX3_needGoods_6 : decode cX3_needGoods 6 = .ok (.if_icmp .lt 13, 3) := by decide +kernel
theorem dX3_needGoods_9 : decode cX3_needGoods 9 = .ok (.new 230, 3) := by decide +kernel
theorem dX3_needGoods_12 : decode cX3_needGoods 12 = .ok (.dup, 1) := by decide +kernel
theorem dX3_needGoods_13 : decode cX3_needGoods 13 = .ok (.ldc 232, 2) := by decide +kernel
theorem dX3_needGoods_15 : decode cX3_needGoods 15 = .ok (.invokespecial 234, 3) := by decide +kernel
theorem dX3_needGoods_18 : decode cX3_needGoods 18 = .ok (.athrow, 1) := by decide +kernel
theorem dX3_needGoods_19 : decode cX3_needGoods 19 = .ok (.return_, 1) := by decide +kernel
theorem dX3_pieceNumbered_0 : decode cX3_pieceNumbered 0 = .ok (.iload_n 1, 1) := by decide +kernel
theorem dX3_pieceNumbered_1 : decode cX3_pieceNumbered 1 = .ok (.ifCond .lt 16, 3) := by decide +kernel
theorem dX3_pieceNumbered_4 : decode cX3_pieceNumbered 4 = .ok (.iload_n 1, 1) := by decide +kernel
theorem dX3_pieceNumbered_5 : decode cX3_pieceNumbered 5 = .ok (.aload_n 0, 1) := by decide +kernel
theorem dX3_pieceNumbered_6 : decode cX3_pieceNumbered 6 = .ok (.getfield 10, 3) := by decide +kernel
theorem dX3_pieceNumbered_9 : decode cX3_pieceNumbered 9 = .ok (.invokeinterface 46 1, 5) := by decide +kernel
theorem dX3_pieceNumbered_14 : decode cX3_pieceNumbered 14 = .ok (.if_icmp .lt 13, 3) := by decide +kernel
theorem dX3_pieceNumbered_17 : decode cX3_pieceNumbered 17 = .ok (.new 230, 3) := by decide +kernel
theorem dX3_pieceNumbered_20 : decode cX3_pieceNumbered 20 = .ok (.dup, 1) := by decide +kernel
theorem dX3_pieceNumbered_21 : decode cX3_pieceNumbered 21 = .ok (.ldc 235, 2) := by decide +kernel
theorem dX3_pieceNumbered_23 : decode cX3_pieceNumbered 23 = .ok (.invokespecial 234, 3) := by decide +kernel
theorem dX3_pieceNumbered_26 : decode cX3_pieceNumbered 26 = .ok (.athrow, 1) := by decide +kernel
theorem dX3_pieceNumbered_27 : decode cX3_pieceNumbered 27 = .ok (.aload_n 0, 1) := by decide +kernel
theorem dX3_pieceNumbered_28 : decode cX3_pieceNumbered 28 = .ok (.getfield 10, 3) := by decide +kernel
theorem dX3_pieceNumbered_31 : decode cX3_pieceNumbered 31 = .ok (.iload_n 1, 1) := by decide +kernel
theorem dX3_pieceNumbered_32 : decode cX3_pieceNumbered 32 = .ok (.invokeinterface 71 2, 5) := by decide +kernel
theorem dX3_pieceNumbered_37 : decode cX3_pieceNumbered 37 = .ok (.checkcast 63, 3) := by decide +kernel
theorem dX3_pieceNumbered_40 : decode cX3_pieceNumbered 40 = .ok (.areturn, 1) := by decide +kernel
theorem dX3_vehicleNumbered_0 : decode cX3_vehicleNumbered 0 = .ok (.iload_n 1, 1) := by decide +kernel
theorem dX3_vehicleNumbered_1 : decode cX3_vehicleNumbered 1 = .ok (.ifCond .lt 16, 3) := by decide +kernel
theorem dX3_vehicleNumbered_4 : decode cX3_vehicleNumbered 4 = .ok (.iload_n 1, 1) := by decide +kernel
theorem dX3_vehicleNumbered_5 : decode cX3_vehicleNumbered 5 = .ok (.aload_n 0, 1) := by decide +kernel
theorem dX3_vehicleNumbered_6 : decode cX3_vehicleNumbered 6 = .ok (.getfield 16, 3) := by decide +kernel
theorem dX3_vehicleNumbered_9 : decode cX3_vehicleNumbered 9 = .ok (.invokeinterface 46 1, 5) := by decide +kernel
theorem dX3_vehicleNumbered_14 : decode cX3_vehicleNumbered 14 = .ok (.if_icmp .lt 13, 3) := by decide +kernel
theorem dX3_vehicleNumbered_17 : decode cX3_vehicleNumbered 17 = .ok (.new 230, 3) := by decide +kernel
theorem dX3_vehicleNumbered_20 : decode cX3_vehicleNumbered 20 = .ok (.dup, 1) := by decide +kernel
theorem dX3_vehicleNumbered_21 : decode cX3_vehicleNumbered 21 = .ok (.ldc 237, 2) := by decide +kernel
theorem dX3_vehicleNumbered_23 : decode cX3_vehicleNumbered 23 = .ok (.invokespecial 234, 3) := by decide +kernel
theorem dX3_vehicleNumbered_26 : decode cX3_vehicleNumbered 26 = .ok (.athrow, 1) := by decide +kernel
theorem dX3_vehicleNumbered_27 : decode cX3_vehicleNumbered 27 = .ok (.aload_n 0, 1) := by decide +kernel
theorem dX3_vehicleNumbered_28 : decode cX3_vehicleNumbered 28 = .ok (.getfield 16, 3) := by decide +kernel
theorem dX3_vehicleNumbered_31 : decode cX3_vehicleNumbered 31 = .ok (.iload_n 1, 1) := by decide +kernel
theorem dX3_vehicleNumbered_32 : decode cX3_vehicleNumbered 32 = .ok (.invokeinterface 71 2, 5) := by decide +kernel
theorem dX3_vehicleNumbered_37 : decode cX3_vehicleNumbered 37 = .ok (.checkcast 111, 3) := by decide +kernel
theorem dX3_vehicleNumbered_40 : decode cX3_vehicleNumbered 40 = .ok (.areturn, 1) := by decide +kernel
theorem dX3_kilosInVehicles_0 : decode cX3_kilosInVehicles 0 = .ok (.iconst 0, 1) := by decide +kernel
theorem dX3_kilosInVehicles_1 : decode cX3_kilosInVehicles 1 = .ok (.istore_n 3, 1) := by decide +kernel
theorem dX3_kilosInVehicles_2 : decode cX3_kilosInVehicles 2 = .ok (.iconst 0, 1) := by decide +kernel
theorem dX3_kilosInVehicles_3 : decode cX3_kilosInVehicles 3 = .ok (.istore 4, 2) := by decide +kernel
theorem dX3_kilosInVehicles_5 : decode cX3_kilosInVehicles 5 = .ok (.iload 4, 2) := by decide +kernel
theorem dX3_kilosInVehicles_7 : decode cX3_kilosInVehicles 7 = .ok (.aload_n 0, 1) := by decide +kernel
theorem dX3_kilosInVehicles_8 : decode cX3_kilosInVehicles 8 = .ok (.getfield 16, 3) := by decide +kernel
theorem dX3_kilosInVehicles_11 : decode cX3_kilosInVehicles 11 = .ok (.invokeinterface 46 1, 5) := by decide +kernel
theorem dX3_kilosInVehicles_16 : decode cX3_kilosInVehicles 16 = .ok (.if_icmp .ge 74, 3) := by decide +kernel
theorem dX3_kilosInVehicles_19 : decode cX3_kilosInVehicles 19 = .ok (.aload_n 0, 1) := by decide +kernel
theorem dX3_kilosInVehicles_20 : decode cX3_kilosInVehicles 20 = .ok (.getfield 16, 3) := by decide +kernel
theorem dX3_kilosInVehicles_23 : decode cX3_kilosInVehicles 23 = .ok (.iload 4, 2) := by decide +kernel
theorem dX3_kilosInVehicles_25 : decode cX3_kilosInVehicles 25 = .ok (.invokeinterface 71 2, 5) := by decide +kernel
theorem dX3_kilosInVehicles_30 : decode cX3_kilosInVehicles 30 = .ok (.checkcast 111, 3) := by decide +kernel
theorem dX3_kilosInVehicles_33 : decode cX3_kilosInVehicles 33 = .ok (.astore 5, 2) := by decide +kernel
theorem dX3_kilosInVehicles_35 : decode cX3_kilosInVehicles 35 = .ok (.aload 5, 2) := by decide +kernel
theorem dX3_kilosInVehicles_37 : decode cX3_kilosInVehicles 37 = .ok (.getfield 128, 3) := by decide +kernel
theorem dX3_kilosInVehicles_40 : decode cX3_kilosInVehicles 40 = .ok (.ifnull 44, 3) := by decide +kernel
theorem dX3_kilosInVehicles_43 : decode cX3_kilosInVehicles 43 = .ok (.aload 5, 2) := by decide +kernel
theorem dX3_kilosInVehicles_45 : decode cX3_kilosInVehicles 45 = .ok (.getfield 128, 3) := by decide +kernel
theorem dX3_kilosInVehicles_48 : decode cX3_kilosInVehicles 48 = .ok (.getfield 190, 3) := by decide +kernel
theorem dX3_kilosInVehicles_51 : decode cX3_kilosInVehicles 51 = .ok (.iload_n 1, 1) := by decide +kernel
theorem dX3_kilosInVehicles_52 : decode cX3_kilosInVehicles 52 = .ok (.if_icmp .ne 32, 3) := by decide +kernel
theorem dX3_kilosInVehicles_55 : decode cX3_kilosInVehicles 55 = .ok (.aload 5, 2) := by decide +kernel
theorem dX3_kilosInVehicles_57 : decode cX3_kilosInVehicles 57 = .ok (.getfield 125, 3) := by decide +kernel
theorem dX3_kilosInVehicles_60 : decode cX3_kilosInVehicles 60 = .ok (.iconst 4, 1) := by decide +kernel
theorem dX3_kilosInVehicles_61 : decode cX3_kilosInVehicles 61 = .ok (.if_icmp .ne 7, 3) := by decide +kernel
theorem dX3_kilosInVehicles_64 : decode cX3_kilosInVehicles 64 = .ok (.iconst 1, 1) := by decide +kernel
theorem dX3_kilosInVehicles_65 : decode cX3_kilosInVehicles 65 = .ok (.goto 4, 3) := by decide +kernel
theorem dX3_kilosInVehicles_68 : decode cX3_kilosInVehicles 68 = .ok (.iconst 0, 1) := by decide +kernel
theorem dX3_kilosInVehicles_69 : decode cX3_kilosInVehicles 69 = .ok (.iload_n 2, 1) := by decide +kernel
theorem dX3_kilosInVehicles_70 : decode cX3_kilosInVehicles 70 = .ok (.if_icmp .ne 14, 3) := by decide +kernel
theorem dX3_kilosInVehicles_73 : decode cX3_kilosInVehicles 73 = .ok (.iload_n 3, 1) := by decide +kernel
theorem dX3_kilosInVehicles_74 : decode cX3_kilosInVehicles 74 = .ok (.aload 5, 2) := by decide +kernel
theorem dX3_kilosInVehicles_76 : decode cX3_kilosInVehicles 76 = .ok (.getfield 128, 3) := by decide +kernel
theorem dX3_kilosInVehicles_79 : decode cX3_kilosInVehicles 79 = .ok (.getfield 187, 3) := by decide +kernel
theorem dX3_kilosInVehicles_82 : decode cX3_kilosInVehicles 82 = .ok (.iadd, 1) := by decide +kernel
theorem dX3_kilosInVehicles_83 : decode cX3_kilosInVehicles 83 = .ok (.istore_n 3, 1) := by decide +kernel
theorem dX3_kilosInVehicles_84 : decode cX3_kilosInVehicles 84 = .ok (.iinc 4 1, 3) := by decide +kernel
theorem dX3_kilosInVehicles_87 : decode cX3_kilosInVehicles 87 = .ok (.goto (-82), 3) := by decide +kernel
theorem dX3_kilosInVehicles_90 : decode cX3_kilosInVehicles 90 = .ok (.iload_n 3, 1) := by decide +kernel
theorem dX3_kilosInVehicles_91 : decode cX3_kilosInVehicles 91 = .ok (.ireturn, 1) := by decide +kernel
theorem dX3_kilosMissing_0 : decode cX3_kilosMissing 0 = .ok (.iload_n 1, 1) := by decide +kernel
theorem dX3_kilosMissing_1 : decode cX3_kilosMissing 1 = .ok (.ifCond .lt 8, 3) := by decide +kernel
theorem dX3_kilosMissing_4 : decode cX3_kilosMissing 4 = .ok (.iload_n 1, 1) := by decide +kernel
theorem dX3_kilosMissing_5 : decode cX3_kilosMissing 5 = .ok (.iconst 3, 1) := by decide +kernel
theorem dX3_kilosMissing_6 : decode cX3_kilosMissing 6 = .ok (.if_icmp .lt 5, 3) := by decide +kernel
theorem dX3_kilosMissing_9 : decode cX3_kilosMissing 9 = .ok (.iconst 0, 1) := by decide +kernel
theorem dX3_kilosMissing_10 : decode cX3_kilosMissing 10 = .ok (.ireturn, 1) := by decide +kernel
theorem dX3_kilosMissing_11 : decode cX3_kilosMissing 11 = .ok (.iconst 0, 1) := by decide +kernel
theorem dX3_kilosMissing_12 : decode cX3_kilosMissing 12 = .ok (.aload_n 0, 1) := by decide +kernel
theorem dX3_kilosMissing_13 : decode cX3_kilosMissing 13 = .ok (.getfield 29, 3) := by decide +kernel
theorem dX3_kilosMissing_16 : decode cX3_kilosMissing 16 = .ok (.iload_n 1, 1) := by decide +kernel
theorem dX3_kilosMissing_17 : decode cX3_kilosMissing 17 = .ok (.iaload, 1) := by decide +kernel
theorem dX3_kilosMissing_18 : decode cX3_kilosMissing 18 = .ok (.aload_n 0, 1) := by decide +kernel
theorem dX3_kilosMissing_19 : decode cX3_kilosMissing 19 = .ok (.getfield 26, 3) := by decide +kernel
theorem dX3_kilosMissing_22 : decode cX3_kilosMissing 22 = .ok (.iload_n 1, 1) := by decide +kernel
theorem dX3_kilosMissing_23 : decode cX3_kilosMissing 23 = .ok (.iaload, 1) := by decide +kernel
theorem dX3_kilosMissing_24 : decode cX3_kilosMissing 24 = .ok (.isub, 1) := by decide +kernel
theorem dX3_kilosMissing_25 : decode cX3_kilosMissing 25 = .ok (.invokestatic 239, 3) := by decide +kernel
theorem dX3_kilosMissing_28 : decode cX3_kilosMissing 28 = .ok (.ireturn, 1) := by decide +kernel
theorem dX3_unload_0 : decode cX3_unload 0 = .ok (.aload_n 1, 1) := by decide +kernel
theorem dX3_unload_1 : decode cX3_unload 1 = .ok (.getfield 128, 3) := by decide +kernel
theorem dX3_unload_4 : decode cX3_unload 4 = .ok (.astore_n 2, 1) := by decide +kernel
theorem dX3_unload_5 : decode cX3_unload 5 = .ok (.aload_n 1, 1) := by decide +kernel
theorem dX3_unload_6 : decode cX3_unload 6 = .ok (.aconst_null, 1) := by decide +kernel
theorem dX3_unload_7 : decode cX3_unload 7 = .ok (.putfield 128, 3) := by decide +kernel
theorem dX3_unload_10 : decode cX3_unload 10 = .ok (.aload_n 2, 1) := by decide +kernel
theorem dX3_unload_11 : decode cX3_unload 11 = .ok (.ifnull 18, 3) := by decide +kernel
theorem dX3_unload_14 : decode cX3_unload 14 = .ok (.aload_n 2, 1) := by decide +kernel
theorem dX3_unload_15 : decode cX3_unload 15 = .ok (.getfield 190, 3) := by decide +kernel
theorem dX3_unload_18 : decode cX3_unload 18 = .ok (.ifCond .lt 11, 3) := by decide +kernel
theorem dX3_unload_21 : decode cX3_unload 21 = .ok (.aload_n 2, 1) := by decide +kernel
theorem dX3_unload_22 : decode cX3_unload 22 = .ok (.getfield 190, 3) := by decide +kernel
theorem dX3_unload_25 : decode cX3_unload 25 = .ok (.iconst 3, 1) := by decide +kernel
theorem dX3_unload_26 : decode cX3_unload 26 = .ok (.if_icmp .lt 4, 3) := by decide +kernel
theorem dX3_unload_29 : decode cX3_unload 29 = .ok (.return_, 1) := by decide +kernel
theorem dX3_unload_30 : decode cX3_unload 30 = .ok (.aload_n 1, 1) := by decide +kernel
theorem dX3_unload_31 : decode cX3_unload 31 = .ok (.getfield 125, 3) := by decide +kernel
theorem dX3_unload_34 : decode cX3_unload 34 = .ok (.iconst 3, 1) := by decide +kernel
theorem dX3_unload_35 : decode cX3_unload 35 = .ok (.if_icmp .ne 22, 3) := by decide +kernel
theorem dX3_unload_38 : decode cX3_unload 38 = .ok (.aload_n 0, 1) := by decide +kernel
theorem dX3_unload_39 : decode cX3_unload 39 = .ok (.getfield 26, 3) := by decide +kernel
theorem dX3_unload_42 : decode cX3_unload 42 = .ok (.aload_n 2, 1) := by decide +kernel
theorem dX3_unload_43 : decode cX3_unload 43 = .ok (.getfield 190, 3) := by decide +kernel
theorem dX3_unload_46 : decode cX3_unload 46 = .ok (.dup2, 1) := by decide +kernel
theorem dX3_unload_47 : decode cX3_unload 47 = .ok (.iaload, 1) := by decide +kernel
theorem dX3_unload_48 : decode cX3_unload 48 = .ok (.aload_n 2, 1) := by decide +kernel
theorem dX3_unload_49 : decode cX3_unload 49 = .ok (.getfield 187, 3) := by decide +kernel
theorem dX3_unload_52 : decode cX3_unload 52 = .ok (.iadd, 1) := by decide +kernel
theorem dX3_unload_53 : decode cX3_unload 53 = .ok (.iastore, 1) := by decide +kernel
theorem dX3_unload_54 : decode cX3_unload 54 = .ok (.goto 24, 3) := by decide +kernel
theorem dX3_unload_57 : decode cX3_unload 57 = .ok (.aload_n 0, 1) := by decide +kernel
theorem dX3_unload_58 : decode cX3_unload 58 = .ok (.getfield 22, 3) := by decide +kernel
theorem dX3_unload_61 : decode cX3_unload 61 = .ok (.aload_n 2, 1) := by decide +kernel
theorem dX3_unload_62 : decode cX3_unload 62 = .ok (.getfield 190, 3) := by decide +kernel
theorem dX3_unload_65 : decode cX3_unload 65 = .ok (.dup2, 1) := by decide +kernel
theorem dX3_unload_66 : decode cX3_unload 66 = .ok (.iaload, 1) := by decide +kernel
theorem dX3_unload_67 : decode cX3_unload 67 = .ok (.aload_n 2, 1) := by decide +kernel
theorem dX3_unload_68 : decode cX3_unload 68 = .ok (.getfield 187, 3) := by decide +kernel
theorem dX3_unload_71 : decode cX3_unload 71 = .ok (.isub, 1) := by decide +kernel
theorem dX3_unload_72 : decode cX3_unload 72 = .ok (.iastore, 1) := by decide +kernel
theorem dX3_unload_73 : decode cX3_unload 73 = .ok (.aload_n 2, 1) := by decide +kernel
theorem dX3_unload_74 : decode cX3_unload 74 = .ok (.iconst 1, 1) := by decide +kernel
theorem dX3_unload_75 : decode cX3_unload 75 = .ok (.putfield 220, 3) := by decide +kernel
theorem dX3_unload_78 : decode cX3_unload 78 = .ok (.return_, 1) := by decide +kernel
theorem dX3_passOneMinute_0 : decode cX3_passOneMinute 0 = .ok (.aload_n 0, 1) := by decide +kernel
theorem dX3_passOneMinute_1 : decode cX3_passOneMinute 1 = .ok (.dup, 1) := by decide +kernel
theorem dX3_passOneMinute_2 : decode cX3_passOneMinute 2 = .ok (.getfield 32, 3) := by decide +kernel
theorem dX3_passOneMinute_5 : decode cX3_passOneMinute 5 = .ok (.iconst 1, 1) := by decide +kernel
theorem dX3_passOneMinute_6 : decode cX3_passOneMinute 6 = .ok (.iadd, 1) := by decide +kernel
theorem dX3_passOneMinute_7 : decode cX3_passOneMinute 7 = .ok (.putfield 32, 3) := by decide +kernel
theorem dX3_passOneMinute_10 : decode cX3_passOneMinute 10 = .ok (.aload_n 0, 1) := by decide +kernel
theorem dX3_passOneMinute_11 : decode cX3_passOneMinute 11 = .ok (.getfield 32, 3) := by decide +kernel
theorem dX3_passOneMinute_14 : decode cX3_passOneMinute 14 = .ok (.sipush 1440, 3) := by decide +kernel
theorem dX3_passOneMinute_17 : decode cX3_passOneMinute 17 = .ok (.irem, 1) := by decide +kernel
theorem dX3_passOneMinute_18 : decode cX3_passOneMinute 18 = .ok (.ifCond .ne 7, 3) := by decide +kernel
theorem dX3_passOneMinute_21 : decode cX3_passOneMinute 21 = .ok (.aload_n 0, 1) := by decide +kernel
theorem dX3_passOneMinute_22 : decode cX3_passOneMinute 22 = .ok (.invokevirtual 245, 3) := by decide +kernel
theorem dX3_passOneMinute_25 : decode cX3_passOneMinute 25 = .ok (.iconst 0, 1) := by decide +kernel
theorem dX3_passOneMinute_26 : decode cX3_passOneMinute 26 = .ok (.istore_n 1, 1) := by decide +kernel
theorem dX3_passOneMinute_27 : decode cX3_passOneMinute 27 = .ok (.iload_n 1, 1) := by decide +kernel
theorem dX3_passOneMinute_28 : decode cX3_passOneMinute 28 = .ok (.aload_n 0, 1) := by decide +kernel
theorem dX3_passOneMinute_29 : decode cX3_passOneMinute 29 = .ok (.getfield 16, 3) := by decide +kernel
theorem dX3_passOneMinute_32 : decode cX3_passOneMinute 32 = .ok (.invokeinterface 46 1, 5) := by decide +kernel
theorem dX3_passOneMinute_37 : decode cX3_passOneMinute 37 = .ok (.if_icmp .ge 26, 3) := by decide +kernel
theorem dX3_passOneMinute_40 : decode cX3_passOneMinute 40 = .ok (.aload_n 0, 1) := by decide +kernel
theorem dX3_passOneMinute_41 : decode cX3_passOneMinute 41 = .ok (.aload_n 0, 1) := by decide +kernel
theorem dX3_passOneMinute_42 : decode cX3_passOneMinute 42 = .ok (.getfield 16, 3) := by decide +kernel
theorem dX3_passOneMinute_45 : decode cX3_passOneMinute 45 = .ok (.iload_n 1, 1) := by decide +kernel
theorem dX3_passOneMinute_46 : decode cX3_passOneMinute 46 = .ok (.invokeinterface 71 2, 5) := by decide +kernel
theorem dX3_passOneMinute_51 : decode cX3_passOneMinute 51 = .ok (.checkcast 111, 3) := by decide +kernel
theorem dX3_passOneMinute_54 : decode cX3_passOneMinute 54 = .ok (.invokevirtual 248, 3) := by decide +kernel
theorem dX3_passOneMinute_57 : decode cX3_passOneMinute 57 = .ok (.iinc 1 1, 3) := by decide +kernel
theorem dX3_passOneMinute_60 : decode cX3_passOneMinute 60 = .ok (.goto (-33), 3) := by decide +kernel
theorem dX3_passOneMinute_63 : decode cX3_passOneMinute 63 = .ok (.return_, 1) := by decide +kernel
theorem dX3_endDay_0 : decode cX3_endDay 0 = .ok (.iconst 0, 1) := by decide +kernel
theorem dX3_endDay_1 : decode cX3_endDay 1 = .ok (.istore_n 1, 1) := by decide +kernel
theorem dX3_endDay_2 : decode cX3_endDay 2 = .ok (.iload_n 1, 1) := by decide +kernel
theorem dX3_endDay_3 : decode cX3_endDay 3 = .ok (.aload_n 0, 1) := by decide +kernel
theorem dX3_endDay_4 : decode cX3_endDay 4 = .ok (.getfield 10, 3) := by decide +kernel
theorem dX3_endDay_7 : decode cX3_endDay 7 = .ok (.invokeinterface 46 1, 5) := by decide +kernel
theorem dX3_endDay_12 : decode cX3_endDay 12 = .ok (.if_icmp .ge 67, 3) := by decide +kernel
theorem dX3_endDay_15 : decode cX3_endDay 15 = .ok (.aload_n 0, 1) := by decide +kernel
theorem dX3_endDay_16 : decode cX3_endDay 16 = .ok (.getfield 36, 3) := by decide +kernel
theorem dX3_endDay_19 : decode cX3_endDay 19 = .ok (.ifCond .le 26, 3) := by decide +kernel
theorem dX3_endDay_22 : decode cX3_endDay 22 = .ok (.aload_n 0, 1) := by decide +kernel
theorem dX3_endDay_23 : decode cX3_endDay 23 = .ok (.getfield 10, 3) := by decide +kernel
theorem dX3_endDay_26 : decode cX3_endDay 26 = .ok (.iload_n 1, 1) := by decide +kernel
theorem dX3_endDay_27 : decode cX3_endDay 27 = .ok (.invokeinterface 71 2, 5) := by decide +kernel
theorem dX3_endDay_32 : decode cX3_endDay 32 = .ok (.checkcast 63, 3) := by decide +kernel
theorem dX3_endDay_35 : decode cX3_endDay 35 = .ok (.aload_n 0, 1) := by decide +kernel
theorem dX3_endDay_36 : decode cX3_endDay 36 = .ok (.getfield 36, 3) := by decide +kernel
theorem dX3_endDay_39 : decode cX3_endDay 39 = .ok (.invokevirtual 251, 3) := by decide +kernel
theorem dX3_endDay_42 : decode cX3_endDay 42 = .ok (.goto 31, 3) := by decide +kernel
theorem dX3_endDay_45 : decode cX3_endDay 45 = .ok (.aload_n 0, 1) := by decide +kernel
theorem dX3_endDay_46 : decode cX3_endDay 46 = .ok (.getfield 36, 3) := by decide +kernel
theorem dX3_endDay_49 : decode cX3_endDay 49 = .ok (.ifCond .ge 24, 3) := by decide +kernel
theorem dX3_endDay_52 : decode cX3_endDay 52 = .ok (.aload_n 0, 1) := by decide +kernel
theorem dX3_endDay_53 : decode cX3_endDay 53 = .ok (.getfield 10, 3) := by decide +kernel
theorem dX3_endDay_56 : decode cX3_endDay 56 = .ok (.iload_n 1, 1) := by decide +kernel
theorem dX3_endDay_57 : decode cX3_endDay 57 = .ok (.invokeinterface 71 2, 5) := by decide +kernel
theorem dX3_endDay_62 : decode cX3_endDay 62 = .ok (.checkcast 63, 3) := by decide +kernel
theorem dX3_endDay_65 : decode cX3_endDay 65 = .ok (.aload_n 0, 1) := by decide +kernel
theorem dX3_endDay_66 : decode cX3_endDay 66 = .ok (.getfield 36, 3) := by decide +kernel
theorem dX3_endDay_69 : decode cX3_endDay 69 = .ok (.ineg, 1) := by decide +kernel
theorem dX3_endDay_70 : decode cX3_endDay 70 = .ok (.invokevirtual 254, 3) := by decide +kernel
theorem dX3_endDay_73 : decode cX3_endDay 73 = .ok (.iinc 1 1, 3) := by decide +kernel
theorem dX3_endDay_76 : decode cX3_endDay 76 = .ok (.goto (-74), 3) := by decide +kernel
theorem dX3_endDay_79 : decode cX3_endDay 79 = .ok (.return_, 1) := by decide +kernel
theorem dX3_moveOn_0 : decode cX3_moveOn 0 = .ok (.aload_n 1, 1) := by decide +kernel
theorem dX3_moveOn_1 : decode cX3_moveOn 1 = .ok (.getfield 125, 3) := by decide +kernel
theorem dX3_moveOn_4 : decode cX3_moveOn 4 = .ok (.iconst 1, 1) := by decide +kernel
theorem dX3_moveOn_5 : decode cX3_moveOn 5 = .ok (.if_icmp .ne 19, 3) := by decide +kernel
theorem dX3_moveOn_8 : decode cX3_moveOn 8 = .ok (.aload_n 1, 1) := by decide +kernel
theorem dX3_moveOn_9 : decode cX3_moveOn 9 = .ok (.getfield 196, 3) := by decide +kernel
theorem dX3_moveOn_12 : decode cX3_moveOn 12 = .ok (.aload_n 0, 1) := by decide +kernel
theorem dX3_moveOn_13 : decode cX3_moveOn 13 = .ok (.getfield 32, 3) := by decide +kernel
theorem dX3_moveOn_16 : decode cX3_moveOn 16 = .ok (.if_icmp .gt 8, 3) := by decide +kernel
theorem dX3_moveOn_19 : decode cX3_moveOn 19 = .ok (.aload_n 0, 1) := by decide +kernel
theorem dX3_moveOn_20 : decode cX3_moveOn 20 = .ok (.aload_n 1, 1) := by decide +kernel
theorem dX3_moveOn_21 : decode cX3_moveOn 21 = .ok (.invokevirtual 257, 3) := by decide +kernel
theorem dX3_moveOn_24 : decode cX3_moveOn 24 = .ok (.aload_n 1, 1) := by decide +kernel
theorem dX3_moveOn_25 : decode cX3_moveOn 25 = .ok (.getfield 125, 3) := by decide +kernel
theorem dX3_moveOn_28 : decode cX3_moveOn 28 = .ok (.iconst 2, 1) := by decide +kernel
theorem dX3_moveOn_29 : decode cX3_moveOn 29 = .ok (.if_icmp .ne 16, 3) := by decide +kernel
theorem dX3_moveOn_32 : decode cX3_moveOn 32 = .ok (.aload_n 0, 1) := by decide +kernel
theorem dX3_moveOn_33 : decode cX3_moveOn 33 = .ok (.aload_n 1, 1) := by decide +kernel
theorem dX3_moveOn_34 : decode cX3_moveOn 34 = .ok (.invokevirtual 199, 3) := by decide +kernel
theorem dX3_moveOn_37 : decode cX3_moveOn 37 = .ok (.ifCond .ne 8, 3) := by decide +kernel
theorem dX3_moveOn_40 : decode cX3_moveOn 40 = .ok (.aload_n 0, 1) := by decide +kernel
theorem dX3_moveOn_41 : decode cX3_moveOn 41 = .ok (.aload_n 1, 1) := by decide +kernel
theorem dX3_moveOn_42 : decode cX3_moveOn 42 = .ok (.invokevirtual 260, 3) := by decide +kernel
theorem dX3_moveOn_45 : decode cX3_moveOn 45 = .ok (.return_, 1) := by decide +kernel
theorem dX3_leave_0 : decode cX3_leave 0 = .ok (.aload_n 1, 1) := by decide +kernel
theorem dX3_leave_1 : decode cX3_leave 1 = .ok (.getfield 193, 3) := by decide +kernel
theorem dX3_leave_4 : decode cX3_leave 4 = .ok (.ifCond .lt 39, 3) := by decide +kernel
theorem dX3_leave_7 : decode cX3_leave 7 = .ok (.aload_n 1, 1) := by decide +kernel
theorem dX3_leave_8 : decode cX3_leave 8 = .ok (.getfield 193, 3) := by decide +kernel
theorem dX3_leave_11 : decode cX3_leave 11 = .ok (.aload_n 0, 1) := by decide +kernel
theorem dX3_leave_12 : decode cX3_leave 12 = .ok (.getfield 10, 3) := by decide +kernel
theorem dX3_leave_15 : decode cX3_leave 15 = .ok (.invokeinterface 46 1, 5) := by decide +kernel
theorem dX3_leave_20 : decode cX3_leave 20 = .ok (.if_icmp .ge 23, 3) := by decide +kernel
theorem dX3_leave_23 : decode cX3_leave 23 = .ok (.aload_n 0, 1) := by decide +kernel
theorem dX3_leave_24 : decode cX3_leave 24 = .ok (.getfield 10, 3) := by decide +kernel
theorem dX3_leave_27 : decode cX3_leave 27 = .ok (.aload_n 1, 1) := by decide +kernel
theorem dX3_leave_28 : decode cX3_leave 28 = .ok (.getfield 193, 3) := by decide +kernel
theorem dX3_leave_31 : decode cX3_leave 31 = .ok (.invokeinterface 71 2, 5) := by decide +kernel
theorem dX3_leave_36 : decode cX3_leave 36 = .ok (.checkcast 63, 3) := by decide +kernel
theorem dX3_leave_39 : decode cX3_leave 39 = .ok (.aload_n 1, 1) := by decide +kernel
theorem dX3_leave_40 : decode cX3_leave 40 = .ok (.invokevirtual 263, 3) := by decide +kernel
theorem dX3_leave_43 : decode cX3_leave 43 = .ok (.aload_n 1, 1) := by decide +kernel
theorem dX3_leave_44 : decode cX3_leave 44 = .ok (.getfield 144, 3) := by decide +kernel
theorem dX3_leave_47 : decode cX3_leave 47 = .ok (.ifCond .eq 13, 3) := by decide +kernel
theorem dX3_leave_50 : decode cX3_leave 50 = .ok (.aload_n 1, 1) := by decide +kernel
theorem dX3_leave_51 : decode cX3_leave 51 = .ok (.dup, 1) := by decide +kernel
theorem dX3_leave_52 : decode cX3_leave 52 = .ok (.getfield 193, 3) := by decide +kernel
theorem dX3_leave_55 : decode cX3_leave 55 = .ok (.iconst 1, 1) := by decide +kernel
theorem dX3_leave_56 : decode cX3_leave 56 = .ok (.iadd, 1) := by decide +kernel
theorem dX3_leave_57 : decode cX3_leave 57 = .ok (.putfield 193, 3) := by decide +kernel
theorem dX3_leave_60 : decode cX3_leave 60 = .ok (.aload_n 1, 1) := by decide +kernel
theorem dX3_leave_61 : decode cX3_leave 61 = .ok (.iconst 2, 1) := by decide +kernel
theorem dX3_leave_62 : decode cX3_leave 62 = .ok (.putfield 125, 3) := by decide +kernel
theorem dX3_leave_65 : decode cX3_leave 65 = .ok (.aload_n 0, 1) := by decide +kernel
theorem dX3_leave_66 : decode cX3_leave 66 = .ok (.aload_n 1, 1) := by decide +kernel
theorem dX3_leave_67 : decode cX3_leave 67 = .ok (.invokevirtual 150, 3) := by decide +kernel
theorem dX3_leave_70 : decode cX3_leave 70 = .ok (.return_, 1) := by decide +kernel
theorem dX3_stopAtEnd_0 : decode cX3_stopAtEnd 0 = .ok (.aload_n 1, 1) := by decide +kernel
theorem dX3_stopAtEnd_1 : decode cX3_stopAtEnd 1 = .ok (.getfield 144, 3) := by decide +kernel
theorem dX3_stopAtEnd_4 : decode cX3_stopAtEnd 4 = .ok (.ifCond .eq 32, 3) := by decide +kernel
theorem dX3_stopAtEnd_7 : decode cX3_stopAtEnd 7 = .ok (.aload_n 1, 1) := by decide +kernel
theorem dX3_stopAtEnd_8 : decode cX3_stopAtEnd 8 = .ok (.getfield 193, 3) := by decide +kernel
theorem dX3_stopAtEnd_11 : decode cX3_stopAtEnd 11 = .ok (.aload_n 0, 1) := by decide +kernel
theorem dX3_stopAtEnd_12 : decode cX3_stopAtEnd 12 = .ok (.getfield 10, 3) := by decide +kernel
theorem dX3_stopAtEnd_15 : decode cX3_stopAtEnd 15 = .ok (.invokeinterface 46 1, 5) := by decide +kernel
theorem dX3_stopAtEnd_20 : decode cX3_stopAtEnd 20 = .ok (.if_icmp .ne 16, 3) := by decide +kernel
theorem dX3_stopAtEnd_23 : decode cX3_stopAtEnd 23 = .ok (.aload_n 1, 1) := by decide +kernel
theorem dX3_stopAtEnd_24 : decode cX3_stopAtEnd 24 = .ok (.iconst 3, 1) := by decide +kernel
theorem dX3_stopAtEnd_25 : decode cX3_stopAtEnd 25 = .ok (.putfield 125, 3) := by decide +kernel
theorem dX3_stopAtEnd_28 : decode cX3_stopAtEnd 28 = .ok (.aload_n 0, 1) := by decide +kernel
theorem dX3_stopAtEnd_29 : decode cX3_stopAtEnd 29 = .ok (.aload_n 1, 1) := by decide +kernel
theorem dX3_stopAtEnd_30 : decode cX3_stopAtEnd 30 = .ok (.invokevirtual 266, 3) := by decide +kernel
theorem dX3_stopAtEnd_33 : decode cX3_stopAtEnd 33 = .ok (.goto 27, 3) := by decide +kernel
theorem dX3_stopAtEnd_36 : decode cX3_stopAtEnd 36 = .ok (.aload_n 1, 1) := by decide +kernel
theorem dX3_stopAtEnd_37 : decode cX3_stopAtEnd 37 = .ok (.getfield 144, 3) := by decide +kernel
theorem dX3_stopAtEnd_40 : decode cX3_stopAtEnd 40 = .ok (.ifCond .ne 20, 3) := by decide +kernel
theorem dX3_stopAtEnd_43 : decode cX3_stopAtEnd 43 = .ok (.aload_n 1, 1) := by decide +kernel
theorem dX3_stopAtEnd_44 : decode cX3_stopAtEnd 44 = .ok (.getfield 193, 3) := by decide +kernel
theorem dX3_stopAtEnd_47 : decode cX3_stopAtEnd 47 = .ok (.ifCond .ne 13, 3) := by decide +kernel
theorem dX3_stopAtEnd_50 : decode cX3_stopAtEnd 50 = .ok (.aload_n 1, 1) := by decide +kernel
theorem dX3_stopAtEnd_51 : decode cX3_stopAtEnd 51 = .ok (.iconst 0, 1) := by decide +kernel
theorem dX3_stopAtEnd_52 : decode cX3_stopAtEnd 52 = .ok (.putfield 125, 3) := by decide +kernel
theorem dX3_stopAtEnd_55 : decode cX3_stopAtEnd 55 = .ok (.aload_n 0, 1) := by decide +kernel
theorem dX3_stopAtEnd_56 : decode cX3_stopAtEnd 56 = .ok (.aload_n 1, 1) := by decide +kernel
theorem dX3_stopAtEnd_57 : decode cX3_stopAtEnd 57 = .ok (.invokevirtual 266, 3) := by decide +kernel
theorem dX3_stopAtEnd_60 : decode cX3_stopAtEnd 60 = .ok (.return_, 1) := by decide +kernel
theorem dX3_comeOnto_0 : decode cX3_comeOnto 0 = .ok (.aload_n 0, 1) := by decide +kernel
theorem dX3_comeOnto_1 : decode cX3_comeOnto 1 = .ok (.aload_n 1, 1) := by decide +kernel
theorem dX3_comeOnto_2 : decode cX3_comeOnto 2 = .ok (.invokevirtual 269, 3) := by decide +kernel
theorem dX3_comeOnto_5 : decode cX3_comeOnto 5 = .ok (.astore_n 2, 1) := by decide +kernel
theorem dX3_comeOnto_6 : decode cX3_comeOnto 6 = .ok (.aload_n 2, 1) := by decide +kernel
theorem dX3_comeOnto_7 : decode cX3_comeOnto 7 = .ok (.ifnonnull 4, 3) := by decide +kernel
theorem dX3_comeOnto_10 : decode cX3_comeOnto 10 = .ok (.return_, 1) := by decide +kernel
theorem dX3_comeOnto_11 : decode cX3_comeOnto 11 = .ok (.aload_n 1, 1) := by decide +kernel
theorem dX3_comeOnto_12 : decode cX3_comeOnto 12 = .ok (.getfield 144, 3) := by decide +kernel
theorem dX3_comeOnto_15 : decode cX3_comeOnto 15 = .ok (.ifCond .ne 13, 3) := by decide +kernel
theorem dX3_comeOnto_18 : decode cX3_comeOnto 18 = .ok (.aload_n 1, 1) := by decide +kernel
theorem dX3_comeOnto_19 : decode cX3_comeOnto 19 = .ok (.dup, 1) := by decide +kernel
theorem dX3_comeOnto_20 : decode cX3_comeOnto 20 = .ok (.getfield 193, 3) := by decide +kernel
theorem dX3_comeOnto_23 : decode cX3_comeOnto 23 = .ok (.iconst 1, 1) := by decide +kernel
theorem dX3_comeOnto_24 : decode cX3_comeOnto 24 = .ok (.isub, 1) := by decide +kernel
theorem dX3_comeOnto_25 : decode cX3_comeOnto 25 = .ok (.putfield 193, 3) := by decide +kernel
theorem dX3_comeOnto_28 : decode cX3_comeOnto 28 = .ok (.aload_n 2, 1) := by decide +kernel
theorem dX3_comeOnto_29 : decode cX3_comeOnto 29 = .ok (.aload_n 1, 1) := by decide +kernel
theorem dX3_comeOnto_30 : decode cX3_comeOnto 30 = .ok (.getfield 144, 3) := by decide +kernel
theorem dX3_comeOnto_33 : decode cX3_comeOnto 33 = .ok (.aload_n 0, 1) := by decide +kernel
theorem dX3_comeOnto_34 : decode cX3_comeOnto 34 = .ok (.getfield 32, 3) := by decide +kernel
theorem dX3_comeOnto_37 : decode cX3_comeOnto 37 = .ok (.invokevirtual 273, 3) := by decide +kernel
theorem dX3_comeOnto_40 : decode cX3_comeOnto 40 = .ok (.aload_n 2, 1) := by decide +kernel
theorem dX3_comeOnto_41 : decode cX3_comeOnto 41 = .ok (.getfield 277, 3) := by decide +kernel
theorem dX3_comeOnto_44 : decode cX3_comeOnto 44 = .ok (.aload_n 1, 1) := by decide +kernel
theorem dX3_comeOnto_45 : decode cX3_comeOnto 45 = .ok (.invokevirtual 139, 3) := by decide +kernel
theorem dX3_comeOnto_48 : decode cX3_comeOnto 48 = .ok (.iadd, 1) := by decide +kernel
theorem dX3_comeOnto_49 : decode cX3_comeOnto 49 = .ok (.aload_n 2, 1) := by decide +kernel
theorem dX3_comeOnto_50 : decode cX3_comeOnto 50 = .ok (.iconst 0, 1) := by decide +kernel
theorem dX3_comeOnto_51 : decode cX3_comeOnto 51 = .ok (.invokevirtual 183, 3) := by decide +kernel
theorem dX3_comeOnto_54 : decode cX3_comeOnto 54 = .ok (.if_icmp .le 15, 3) := by decide +kernel
theorem dX3_comeOnto_57 : decode cX3_comeOnto 57 = .ok (.aload_n 1, 1) := by decide +kernel
theorem dX3_comeOnto_58 : decode cX3_comeOnto 58 = .ok (.iconst 4, 1) := by decide +kernel
theorem dX3_comeOnto_59 : decode cX3_comeOnto 59 = .ok (.putfield 125, 3) := by decide +kernel
theorem dX3_comeOnto_62 : decode cX3_comeOnto 62 = .ok (.aload_n 2, 1) := by decide +kernel
theorem dX3_comeOnto_63 : decode cX3_comeOnto 63 = .ok (.invokevirtual 280, 3) := by decide +kernel
theorem dX3_comeOnto_66 : decode cX3_comeOnto 66 = .ok (.goto 27, 3) := by decide +kernel
theorem dX3_comeOnto_69 : decode cX3_comeOnto 69 = .ok (.aload_n 1, 1) := by decide +kernel
theorem dX3_comeOnto_70 : decode cX3_comeOnto 70 = .ok (.iconst 1, 1) := by decide +kernel
theorem dX3_comeOnto_71 : decode cX3_comeOnto 71 = .ok (.putfield 125, 3) := by decide +kernel
theorem dX3_comeOnto_74 : decode cX3_comeOnto 74 = .ok (.aload_n 1, 1) := by decide +kernel
theorem dX3_comeOnto_75 : decode cX3_comeOnto 75 = .ok (.aload_n 0, 1) := by decide +kernel
theorem dX3_comeOnto_76 : decode cX3_comeOnto 76 = .ok (.getfield 32, 3) := by decide +kernel
theorem dX3_comeOnto_79 : decode cX3_comeOnto 79 = .ok (.aload_n 2, 1) := by decide +kernel
theorem dX3_comeOnto_80 : decode cX3_comeOnto 80 = .ok (.aload_n 1, 1) := by decide +kernel
theorem dX3_comeOnto_81 : decode cX3_comeOnto 81 = .ok (.invokevirtual 206, 3) := by decide +kernel
theorem dX3_comeOnto_84 : decode cX3_comeOnto 84 = .ok (.iadd, 1) := by decide +kernel
theorem dX3_comeOnto_85 : decode cX3_comeOnto 85 = .ok (.putfield 196, 3) := by decide +kernel
theorem dX3_comeOnto_88 : decode cX3_comeOnto 88 = .ok (.aload_n 2, 1) := by decide +kernel
theorem dX3_comeOnto_89 : decode cX3_comeOnto 89 = .ok (.aload_n 1, 1) := by decide +kernel
theorem dX3_comeOnto_90 : decode cX3_comeOnto 90 = .ok (.invokevirtual 283, 3) := by decide +kernel
theorem dX3_comeOnto_93 : decode cX3_comeOnto 93 = .ok (.return_, 1) := by decide +kernel
theorem dX3_pieceAhead_0 : decode cX3_pieceAhead 0 = .ok (.aload_n 1, 1) := by decide +kernel
theorem dX3_pieceAhead_1 : decode cX3_pieceAhead 1 = .ok (.getfield 144, 3) := by decide +kernel
theorem dX3_pieceAhead_4 : decode cX3_pieceAhead 4 = .ok (.ifCond .eq 10, 3) := by decide +kernel
theorem dX3_pieceAhead_7 : decode cX3_pieceAhead 7 = .ok (.aload_n 1, 1) := by decide +kernel
theorem dX3_pieceAhead_8 : decode cX3_pieceAhead 8 = .ok (.getfield 193, 3) := by decide +kernel
theorem dX3_pieceAhead_11 : decode cX3_pieceAhead 11 = .ok (.goto 9, 3) := by decide +kernel
theorem dX3_pieceAhead_14 : decode cX3_pieceAhead 14 = .ok (.aload_n 1, 1) := by decide +kernel
theorem dX3_pieceAhead_15 : decode cX3_pieceAhead 15 = .ok (.getfield 193, 3) := by decide +kernel
theorem dX3_pieceAhead_18 : decode cX3_pieceAhead 18 = .ok (.iconst 1, 1) := by decide +kernel
theorem dX3_pieceAhead_19 : decode cX3_pieceAhead 19 = .ok (.isub, 1) := by decide +kernel
theorem dX3_pieceAhead_20 : decode cX3_pieceAhead 20 = .ok (.istore_n 2, 1) := by decide +kernel
theorem dX3_pieceAhead_21 : decode cX3_pieceAhead 21 = .ok (.iload_n 2, 1) := by decide +kernel
theorem dX3_pieceAhead_22 : decode cX3_pieceAhead 22 = .ok (.ifCond .lt 16, 3) := by decide +kernel
theorem dX3_pieceAhead_25 : decode cX3_pieceAhead 25 = .ok (.iload_n 2, 1) := by decide +kernel
theorem dX3_pieceAhead_26 : decode cX3_pieceAhead 26 = .ok (.aload_n 0, 1) := by decide +kernel
theorem dX3_pieceAhead_27 : decode cX3_pieceAhead 27 = .ok (.getfield 10, 3) := by decide +kernel
theorem dX3_pieceAhead_30 : decode cX3_pieceAhead 30 = .ok (.invokeinterface 46 1, 5) := by decide +kernel
theorem dX3_pieceAhead_35 : decode cX3_pieceAhead 35 = .ok (.if_icmp .lt 7, 3) := by decide +kernel
theorem dX3_pieceAhead_38 : decode cX3_pieceAhead 38 = .ok (.aconst_null, 1) := by decide +kernel
theorem dX3_pieceAhead_39 : decode cX3_pieceAhead 39 = .ok (.goto 16, 3) := by decide +kernel
theorem dX3_pieceAhead_42 : decode cX3_pieceAhead 42 = .ok (.aload_n 0, 1) := by decide +kernel
theorem dX3_pieceAhead_43 : decode cX3_pieceAhead 43 = .ok (.getfield 10, 3) := by decide +kernel
theorem dX3_pieceAhead_46 : decode cX3_pieceAhead 46 = .ok (.iload_n 2, 1) := by decide +kernel
theorem dX3_pieceAhead_47 : decode cX3_pieceAhead 47 = .ok (.invokeinterface 71 2, 5) := by decide +kernel
theorem dX3_pieceAhead_52 : decode cX3_pieceAhead 52 = .ok (.checkcast 63, 3) := by decide +kernel
theorem dX3_pieceAhead_55 : decode cX3_pieceAhead 55 = .ok (.areturn, 1) := by decide +kernel
theorem dX3_whatIsAgainst_0 : decode cX3_whatIsAgainst 0 = .ok (.aload_n 0, 1) := by decide +kernel
theorem dX3_whatIsAgainst_1 : decode cX3_whatIsAgainst 1 = .ok (.aload_n 1, 1) := by decide +kernel
theorem dX3_whatIsAgainst_2 : decode cX3_whatIsAgainst 2 = .ok (.invokevirtual 269, 3) := by decide +kernel
theorem dX3_whatIsAgainst_5 : decode cX3_whatIsAgainst 5 = .ok (.astore_n 2, 1) := by decide +kernel
theorem dX3_whatIsAgainst_6 : decode cX3_whatIsAgainst 6 = .ok (.aload_n 2, 1) := by decide +kernel
theorem dX3_whatIsAgainst_7 : decode cX3_whatIsAgainst 7 = .ok (.ifnull 10, 3) := by decide +kernel
theorem dX3_whatIsAgainst_10 : decode cX3_whatIsAgainst 10 = .ok (.aload_n 2, 1) := by decide +kernel
theorem dX3_whatIsAgainst_11 : decode cX3_whatIsAgainst 11 = .ok (.getfield 101, 3) := by decide +kernel
theorem dX3_whatIsAgainst_14 : decode cX3_whatIsAgainst 14 = .ok (.ifCond .ne 5, 3) := by decide +kernel
theorem dX3_whatIsAgainst_17 : decode cX3_whatIsAgainst 17 = .ok (.iconst 1, 1) := by decide +kernel
theorem dX3_whatIsAgainst_18 : decode cX3_whatIsAgainst 18 = .ok (.ireturn, 1) := by decide +kernel
theorem dX3_whatIsAgainst_19 : decode cX3_whatIsAgainst 19 = .ok (.aload_n 0, 1) := by decide +kernel
theorem dX3_whatIsAgainst_20 : decode cX3_whatIsAgainst 20 = .ok (.getfield 32, 3) := by decide +kernel
theorem dX3_whatIsAgainst_23 : decode cX3_whatIsAgainst 23 = .ok (.sipush 1440, 3) := by decide +kernel
theorem dX3_whatIsAgainst_26 : decode cX3_whatIsAgainst 26 = .ok (.irem, 1) := by decide +kernel
theorem dX3_whatIsAgainst_27 : decode cX3_whatIsAgainst 27 = .ok (.istore_n 3, 1) := by decide +kernel
theorem dX3_whatIsAgainst_28 : decode cX3_whatIsAgainst 28 = .ok (.aload_n 2, 1) := by decide +kernel
theorem dX3_whatIsAgainst_29 : decode cX3_whatIsAgainst 29 = .ok (.invokevirtual 82, 3) := by decide +kernel
theorem dX3_whatIsAgainst_32 : decode cX3_whatIsAgainst 32 = .ok (.ifCond .eq 26, 3) := by decide +kernel
theorem dX3_whatIsAgainst_35 : decode cX3_whatIsAgainst 35 = .ok (.aload_n 0, 1) := by decide +kernel
theorem dX3_whatIsAgainst_36 : decode cX3_whatIsAgainst 36 = .ok (.getfield 36, 3) := by decide +kernel
theorem dX3_whatIsAgainst_39 : decode cX3_whatIsAgainst 39 = .ok (.ifCond .ge 19, 3) := by decide +kernel
theorem dX3_whatIsAgainst_42 : decode cX3_whatIsAgainst 42 = .ok (.iload_n 3, 1) := by decide +kernel
theorem dX3_whatIsAgainst_43 : decode cX3_whatIsAgainst 43 = .ok (.sipush 480, 3) := by decide +kernel
theorem dX3_whatIsAgainst_46 : decode cX3_whatIsAgainst 46 = .ok (.if_icmp .lt 12, 3) := by decide +kernel
theorem dX3_whatIsAgainst_49 : decode cX3_whatIsAgainst 49 = .ok (.iload_n 3, 1) := by decide +kernel
theorem dX3_whatIsAgainst_50 : decode cX3_whatIsAgainst 50 = .ok (.sipush 1199, 3) := by decide +kernel
theorem dX3_whatIsAgainst_53 : decode cX3_whatIsAgainst 53 = .ok (.if_icmp .gt 5, 3) := by decide +kernel
theorem dX3_whatIsAgainst_56 : decode cX3_whatIsAgainst 56 = .ok (.iconst 2, 1) := by decide +kernel
theorem dX3_whatIsAgainst_57 : decode cX3_whatIsAgainst 57 = .ok (.ireturn, 1) := by decide +kernel
theorem dX3_whatIsAgainst_58 : decode cX3_whatIsAgainst 58 = .ok (.aload_n 1, 1) := by decide +kernel
theorem dX3_whatIsAgainst_59 : decode cX3_whatIsAgainst 59 = .ok (.invokevirtual 139, 3) := by decide +kernel
theorem dX3_whatIsAgainst_62 : decode cX3_whatIsAgainst 62 = .ok (.istore 4, 2) := by decide +kernel
theorem dX3_whatIsAgainst_64 : decode cX3_whatIsAgainst 64 = .ok (.aload_n 2, 1) := by decide +kernel
theorem dX3_whatIsAgainst_65 : decode cX3_whatIsAgainst 65 = .ok (.getfield 101, 3) := by decide +kernel
theorem dX3_whatIsAgainst_68 : decode cX3_whatIsAgainst 68 = .ok (.iconst 1, 1) := by decide +kernel
theorem dX3_whatIsAgainst_69 : decode cX3_whatIsAgainst 69 = .ok (.if_icmp .ne 13, 3) := by decide +kernel
theorem dX3_whatIsAgainst_72 : decode cX3_whatIsAgainst 72 = .ok (.iload 4, 2) := by decide +kernel
theorem dX3_whatIsAgainst_74 : decode cX3_whatIsAgainst 74 = .ok (.sipush 5000, 3) := by decide +kernel
theorem dX3_whatIsAgainst_77 : decode cX3_whatIsAgainst 77 = .ok (.if_icmp .le 5, 3) := by decide +kernel
theorem dX3_whatIsAgainst_80 : decode cX3_whatIsAgainst 80 = .ok (.iconst 3, 1) := by decide +kernel
theorem dX3_whatIsAgainst_81 : decode cX3_whatIsAgainst 81 = .ok (.ireturn, 1) := by decide +kernel
theorem dX3_whatIsAgainst_82 : decode cX3_whatIsAgainst 82 = .ok (.aload_n 0, 1) := by decide +kernel
theorem dX3_whatIsAgainst_83 : decode cX3_whatIsAgainst 83 = .ok (.getfield 32, 3) := by decide +kernel
theorem dX3_whatIsAgainst_86 : decode cX3_whatIsAgainst 86 = .ok (.aload_n 2, 1) := by decide +kernel
theorem dX3_whatIsAgainst_87 : decode cX3_whatIsAgainst 87 = .ok (.aload_n 1, 1) := by decide +kernel
theorem dX3_whatIsAgainst_88 : decode cX3_whatIsAgainst 88 = .ok (.getfield 144, 3) := by decide +kernel
theorem dX3_whatIsAgainst_91 : decode cX3_whatIsAgainst 91 = .ok (.invokevirtual 286, 3) := by decide +kernel
theorem dX3_whatIsAgainst_94 : decode cX3_whatIsAgainst 94 = .ok (.isub, 1) := by decide +kernel
theorem dX3_whatIsAgainst_95 : decode cX3_whatIsAgainst 95 = .ok (.aload_n 0, 1) := by decide +kernel
theorem dX3_whatIsAgainst_96 : decode cX3_whatIsAgainst 96 = .ok (.getfield 39, 3) := by decide +kernel
theorem dX3_whatIsAgainst_99 : decode cX3_whatIsAgainst 99 = .ok (.if_icmp .ge 5, 3) := by decide +kernel
theorem dX3_whatIsAgainst_102 : decode cX3_whatIsAgainst 102 = .ok (.iconst 4, 1) := by decide +kernel
theorem dX3_whatIsAgainst_103 : decode cX3_whatIsAgainst 103 = .ok (.ireturn, 1) := by decide +kernel
theorem dX3_whatIsAgainst_104 : decode cX3_whatIsAgainst 104 = .ok (.aload_n 2, 1) := by decide +kernel
theorem dX3_whatIsAgainst_105 : decode cX3_whatIsAgainst 105 = .ok (.getfield 289, 3) := by decide +kernel
theorem dX3_whatIsAgainst_108 : decode cX3_whatIsAgainst 108 = .ok (.ifCond .eq 24, 3) := by decide +kernel
theorem dX3_whatIsAgainst_111 : decode cX3_whatIsAgainst 111 = .ok (.aload_n 2, 1) := by decide +kernel
theorem dX3_whatIsAgainst_112 : decode cX3_whatIsAgainst 112 = .ok (.aload_n 1, 1) := by decide +kernel
theorem dX3_whatIsAgainst_113 : decode cX3_whatIsAgainst 113 = .ok (.getfield 144, 3) := by decide +kernel
theorem dX3_whatIsAgainst_116 : decode cX3_whatIsAgainst 116 = .ok (.ifCond .ne 7, 3) := by decide +kernel
theorem dX3_whatIsAgainst_119 : decode cX3_whatIsAgainst 119 = .ok (.iconst 1, 1) := by decide +kernel
theorem dX3_whatIsAgainst_120 : decode cX3_whatIsAgainst 120 = .ok (.goto 4, 3) := by decide +kernel
theorem dX3_whatIsAgainst_123 : decode cX3_whatIsAgainst 123 = .ok (.iconst 0, 1) := by decide +kernel
theorem dX3_whatIsAgainst_124 : decode cX3_whatIsAgainst 124 = .ok (.invokevirtual 292, 3) := by decide +kernel
theorem dX3_whatIsAgainst_127 : decode cX3_whatIsAgainst 127 = .ok (.ifCond .le 5, 3) := by decide +kernel
theorem dX3_whatIsAgainst_130 : decode cX3_whatIsAgainst 130 = .ok (.iconst 5, 1) := by decide +kernel
theorem dX3_whatIsAgainst_131 : decode cX3_whatIsAgainst 131 = .ok (.ireturn, 1) := by decide +kernel
theorem dX3_whatIsAgainst_132 : decode cX3_whatIsAgainst 132 = .ok (.aload_n 2, 1) := by decide +kernel
theorem dX3_whatIsAgainst_133 : decode cX3_whatIsAgainst 133 = .ok (.getfield 277, 3) := by decide +kernel
theorem dX3_whatIsAgainst_136 : decode cX3_whatIsAgainst 136 = .ok (.iload 4, 2) := by decide +kernel
theorem dX3_whatIsAgainst_138 : decode cX3_whatIsAgainst 138 = .ok (.iadd, 1) := by decide +kernel
theorem dX3_whatIsAgainst_139 : decode cX3_whatIsAgainst 139 = .ok (.aload_n 2, 1) := by decide +kernel
theorem dX3_whatIsAgainst_140 : decode cX3_whatIsAgainst 140 = .ok (.iconst 1, 1) := by decide +kernel
theorem dX3_whatIsAgainst_141 : decode cX3_whatIsAgainst 141 = .ok (.invokevirtual 183, 3) := by decide +kernel
theorem dX3_whatIsAgainst_144 : decode cX3_whatIsAgainst 144 = .ok (.if_icmp .le 8, 3) := by decide +kernel
theorem dX3_whatIsAgainst_147 : decode cX3_whatIsAgainst 147 = .ok (.bipush 6, 2) := by decide +kernel
theorem dX3_whatIsAgainst_149 : decode cX3_whatIsAgainst 149 = .ok (.goto 4, 3) := by decide +kernel
theorem dX3_whatIsAgainst_152 : decode cX3_whatIsAgainst 152 = .ok (.iconst 0, 1) := by decide +kernel
theorem dX3_whatIsAgainst_153 : decode cX3_whatIsAgainst 153 = .ok (.ireturn, 1) := by decide +kernel
