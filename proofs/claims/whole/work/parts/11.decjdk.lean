theorem d_aL_init_0 : decode y_aL_init.2.1 0 = .ok (.aload_n 0, 1) := by decide +kernel
theorem d_aL_init_1 : decode y_aL_init.2.1 1 = .ok (.invokespecial 1, 3) := by decide +kernel
theorem d_aL_init_4 : decode y_aL_init.2.1 4 = .ok (.aload_n 0, 1) := by decide +kernel
theorem d_aL_init_5 : decode y_aL_init.2.1 5 = .ok (.getstatic 39, 3) := by decide +kernel
theorem d_aL_init_8 : decode y_aL_init.2.1 8 = .ok (.putfield 9, 3) := by decide +kernel
theorem d_aL_init_11 : decode y_aL_init.2.1 11 = .ok (.return_, 1) := by decide +kernel
theorem d_aB_init_0 : decode y_aB_init.2.1 0 = .ok (.aload_n 0, 1) := by decide +kernel
theorem d_aB_init_1 : decode y_aB_init.2.1 1 = .ok (.invokespecial 1, 3) := by decide +kernel
theorem d_aB_init_4 : decode y_aB_init.2.1 4 = .ok (.aload_n 0, 1) := by decide +kernel
theorem d_aB_init_5 : decode y_aB_init.2.1 5 = .ok (.iconst 0, 1) := by decide +kernel
theorem d_aB_init_6 : decode y_aB_init.2.1 6 = .ok (.putfield 7, 3) := by decide +kernel
theorem d_aB_init_9 : decode y_aB_init.2.1 9 = .ok (.return_, 1) := by decide +kernel
theorem d_aC_init_0 : decode y_aC_init.2.1 0 = .ok (.aload_n 0, 1) := by decide +kernel
theorem d_aC_init_1 : decode y_aC_init.2.1 1 = .ok (.invokespecial 1, 3) := by decide +kernel
theorem d_aC_init_4 : decode y_aC_init.2.1 4 = .ok (.return_, 1) := by decide +kernel
theorem d_aL_size_0 : decode y_aL_size.2.1 0 = .ok (.aload_n 0, 1) := by decide +kernel
theorem d_aL_size_1 : decode y_aL_size.2.1 1 = .ok (.getfield 48, 3) := by decide +kernel
theorem d_aL_size_4 : decode y_aL_size.2.1 4 = .ok (.ireturn, 1) := by decide +kernel
theorem d_aL_add1_0 : decode y_aL_add1.2.1 0 = .ok (.aload_n 0, 1) := by decide +kernel
theorem d_aL_add1_1 : decode y_aL_add1.2.1 1 = .ok (.dup, 1) := by decide +kernel
theorem d_aL_add1_2 : decode y_aL_add1.2.1 2 = .ok (.getfield 63, 3) := by decide +kernel
theorem d_aL_add1_5 : decode y_aL_add1.2.1 5 = .ok (.iconst 1, 1) := by decide +kernel
theorem d_aL_add1_6 : decode y_aL_add1.2.1 6 = .ok (.iadd, 1) := by decide +kernel
theorem d_aL_add1_7 : decode y_aL_add1.2.1 7 = .ok (.putfield 63, 3) := by decide +kernel
theorem d_aL_add1_10 : decode y_aL_add1.2.1 10 = .ok (.aload_n 0, 1) := by decide +kernel
theorem d_aL_add1_11 : decode y_aL_add1.2.1 11 = .ok (.aload_n 1, 1) := by decide +kernel
theorem d_aL_add1_12 : decode y_aL_add1.2.1 12 = .ok (.aload_n 0, 1) := by decide +kernel
theorem d_aL_add1_13 : decode y_aL_add1.2.1 13 = .ok (.getfield 9, 3) := by decide +kernel
theorem d_aL_add1_16 : decode y_aL_add1.2.1 16 = .ok (.aload_n 0, 1) := by decide +kernel
theorem d_aL_add1_17 : decode y_aL_add1.2.1 17 = .ok (.getfield 48, 3) := by decide +kernel
theorem d_aL_add1_20 : decode y_aL_add1.2.1 20 = .ok (.invokevirtual 131, 3) := by decide +kernel
theorem d_aL_add1_23 : decode y_aL_add1.2.1 23 = .ok (.iconst 1, 1) := by decide +kernel
theorem d_aL_add1_24 : decode y_aL_add1.2.1 24 = .ok (.ireturn, 1) := by decide +kernel
theorem d_aL_add3_0 : decode y_aL_add3.2.1 0 = .ok (.iload_n 3, 1) := by decide +kernel
theorem d_aL_add3_1 : decode y_aL_add3.2.1 1 = .ok (.aload_n 2, 1) := by decide +kernel
theorem d_aL_add3_2 : decode y_aL_add3.2.1 2 = .ok (.arraylength, 1) := by decide +kernel
theorem d_aL_add3_3 : decode y_aL_add3.2.1 3 = .ok (.if_icmp .ne 8, 3) := by decide +kernel
theorem d_aL_add3_6 : decode y_aL_add3.2.1 6 = .ok (.aload_n 0, 1) := by decide +kernel
theorem d_aL_add3_7 : decode y_aL_add3.2.1 7 = .ok (.invokevirtual 129, 3) := by decide +kernel
theorem d_aL_add3_10 : decode y_aL_add3.2.1 10 = .ok (.astore_n 2, 1) := by decide +kernel
theorem d_aL_add3_11 : decode y_aL_add3.2.1 11 = .ok (.aload_n 2, 1) := by decide +kernel
theorem d_aL_add3_12 : decode y_aL_add3.2.1 12 = .ok (.iload_n 3, 1) := by decide +kernel
theorem d_aL_add3_13 : decode y_aL_add3.2.1 13 = .ok (.aload_n 1, 1) := by decide +kernel
theorem d_aL_add3_14 : decode y_aL_add3.2.1 14 = .ok (.aastore, 1) := by decide +kernel
theorem d_aL_add3_15 : decode y_aL_add3.2.1 15 = .ok (.aload_n 0, 1) := by decide +kernel
theorem d_aL_add3_16 : decode y_aL_add3.2.1 16 = .ok (.iload_n 3, 1) := by decide +kernel
theorem d_aL_add3_17 : decode y_aL_add3.2.1 17 = .ok (.iconst 1, 1) := by decide +kernel
theorem d_aL_add3_18 : decode y_aL_add3.2.1 18 = .ok (.iadd, 1) := by decide +kernel
theorem d_aL_add3_19 : decode y_aL_add3.2.1 19 = .ok (.putfield 48, 3) := by decide +kernel
theorem d_aL_add3_22 : decode y_aL_add3.2.1 22 = .ok (.return_, 1) := by decide +kernel
theorem d_aL_grow0_0 : decode y_aL_grow0.2.1 0 = .ok (.aload_n 0, 1) := by decide +kernel
theorem d_aL_grow0_1 : decode y_aL_grow0.2.1 1 = .ok (.aload_n 0, 1) := by decide +kernel
theorem d_aL_grow0_2 : decode y_aL_grow0.2.1 2 = .ok (.getfield 48, 3) := by decide +kernel
theorem d_aL_grow0_5 : decode y_aL_grow0.2.1 5 = .ok (.iconst 1, 1) := by decide +kernel
theorem d_aL_grow0_6 : decode y_aL_grow0.2.1 6 = .ok (.iadd, 1) := by decide +kernel
theorem d_aL_grow0_7 : decode y_aL_grow0.2.1 7 = .ok (.invokevirtual 69, 3) := by decide +kernel
theorem d_aL_grow0_10 : decode y_aL_grow0.2.1 10 = .ok (.areturn, 1) := by decide +kernel
theorem d_aL_grow1_0 : decode y_aL_grow1.2.1 0 = .ok (.aload_n 0, 1) := by decide +kernel
theorem d_aL_grow1_1 : decode y_aL_grow1.2.1 1 = .ok (.getfield 9, 3) := by decide +kernel
theorem d_aL_grow1_4 : decode y_aL_grow1.2.1 4 = .ok (.arraylength, 1) := by decide +kernel
theorem d_aL_grow1_5 : decode y_aL_grow1.2.1 5 = .ok (.istore_n 2, 1) := by decide +kernel
theorem d_aL_grow1_6 : decode y_aL_grow1.2.1 6 = .ok (.iload_n 2, 1) := by decide +kernel
theorem d_aL_grow1_7 : decode y_aL_grow1.2.1 7 = .ok (.ifCond .gt 13, 3) := by decide +kernel
theorem d_aL_grow1_10 : decode y_aL_grow1.2.1 10 = .ok (.aload_n 0, 1) := by decide +kernel
theorem d_aL_grow1_11 : decode y_aL_grow1.2.1 11 = .ok (.getfield 9, 3) := by decide +kernel
theorem d_aL_grow1_14 : decode y_aL_grow1.2.1 14 = .ok (.getstatic 39, 3) := by decide +kernel
theorem d_aL_grow1_17 : decode y_aL_grow1.2.1 17 = .ok (.if_acmp .eq 28, 3) := by decide +kernel
theorem d_aL_grow1_20 : decode y_aL_grow1.2.1 20 = .ok (.iload_n 2, 1) := by decide +kernel
theorem d_aL_grow1_21 : decode y_aL_grow1.2.1 21 = .ok (.iload_n 1, 1) := by decide +kernel
theorem d_aL_grow1_22 : decode y_aL_grow1.2.1 22 = .ok (.iload_n 2, 1) := by decide +kernel
theorem d_aL_grow1_23 : decode y_aL_grow1.2.1 23 = .ok (.isub, 1) := by decide +kernel
theorem d_aL_grow1_24 : decode y_aL_grow1.2.1 24 = .ok (.iload_n 2, 1) := by decide +kernel
theorem d_aL_grow1_25 : decode y_aL_grow1.2.1 25 = .ok (.iconst 1, 1) := by decide +kernel
theorem d_aL_grow1_26 : decode y_aL_grow1.2.1 26 = .ok (.ishr, 1) := by decide +kernel
theorem d_aL_grow1_27 : decode y_aL_grow1.2.1 27 = .ok (.invokestatic 73, 3) := by decide +kernel
theorem d_aL_grow1_30 : decode y_aL_grow1.2.1 30 = .ok (.istore_n 3, 1) := by decide +kernel
theorem d_aL_grow1_31 : decode y_aL_grow1.2.1 31 = .ok (.aload_n 0, 1) := by decide +kernel
theorem d_aL_grow1_32 : decode y_aL_grow1.2.1 32 = .ok (.aload_n 0, 1) := by decide +kernel
theorem d_aL_grow1_33 : decode y_aL_grow1.2.1 33 = .ok (.getfield 9, 3) := by decide +kernel
theorem d_aL_grow1_36 : decode y_aL_grow1.2.1 36 = .ok (.iload_n 3, 1) := by decide +kernel
theorem d_aL_grow1_37 : decode y_aL_grow1.2.1 37 = .ok (.invokestatic 66, 3) := by decide +kernel
theorem d_aL_grow1_40 : decode y_aL_grow1.2.1 40 = .ok (.dup_x1, 1) := by decide +kernel
theorem d_aL_grow1_41 : decode y_aL_grow1.2.1 41 = .ok (.putfield 9, 3) := by decide +kernel
theorem d_aL_grow1_44 : decode y_aL_grow1.2.1 44 = .ok (.areturn, 1) := by decide +kernel
theorem d_aL_grow1_45 : decode y_aL_grow1.2.1 45 = .ok (.aload_n 0, 1) := by decide +kernel
theorem d_aL_grow1_46 : decode y_aL_grow1.2.1 46 = .ok (.bipush 10, 2) := by decide +kernel
theorem d_aL_grow1_48 : decode y_aL_grow1.2.1 48 = .ok (.iload_n 1, 1) := by decide +kernel
theorem d_aL_grow1_49 : decode y_aL_grow1.2.1 49 = .ok (.invokestatic 79, 3) := by decide +kernel
theorem d_aL_grow1_52 : decode y_aL_grow1.2.1 52 = .ok (.anewarray 7, 3) := by decide +kernel
theorem d_aL_grow1_55 : decode y_aL_grow1.2.1 55 = .ok (.dup_x1, 1) := by decide +kernel
theorem d_aL_grow1_56 : decode y_aL_grow1.2.1 56 = .ok (.putfield 9, 3) := by decide +kernel
theorem d_aL_grow1_59 : decode y_aL_grow1.2.1 59 = .ok (.areturn, 1) := by decide +kernel
theorem d_aS_newLength_0 : decode y_aS_newLength.2.1 0 = .ok (.iload_n 0, 1) := by decide +kernel
theorem d_aS_newLength_1 : decode y_aS_newLength.2.1 1 = .ok (.iload_n 1, 1) := by decide +kernel
theorem d_aS_newLength_2 : decode y_aS_newLength.2.1 2 = .ok (.iload_n 2, 1) := by decide +kernel
theorem d_aS_newLength_3 : decode y_aS_newLength.2.1 3 = .ok (.invokestatic 194, 3) := by decide +kernel
theorem d_aS_newLength_6 : decode y_aS_newLength.2.1 6 = .ok (.iadd, 1) := by decide +kernel
theorem d_aS_newLength_7 : decode y_aS_newLength.2.1 7 = .ok (.istore_n 3, 1) := by decide +kernel
theorem d_aS_newLength_8 : decode y_aS_newLength.2.1 8 = .ok (.iconst 0, 1) := by decide +kernel
theorem d_aS_newLength_9 : decode y_aS_newLength.2.1 9 = .ok (.iload_n 3, 1) := by decide +kernel
theorem d_aS_newLength_10 : decode y_aS_newLength.2.1 10 = .ok (.if_icmp .ge 11, 3) := by decide +kernel
theorem d_aS_newLength_13 : decode y_aS_newLength.2.1 13 = .ok (.iload_n 3, 1) := by decide +kernel
theorem d_aS_newLength_14 : decode y_aS_newLength.2.1 14 = .ok (.ldc 200, 2) := by decide +kernel
theorem d_aS_newLength_16 : decode y_aS_newLength.2.1 16 = .ok (.if_icmp .gt 5, 3) := by decide +kernel
theorem d_aS_newLength_19 : decode y_aS_newLength.2.1 19 = .ok (.iload_n 3, 1) := by decide +kernel
theorem d_aS_newLength_20 : decode y_aS_newLength.2.1 20 = .ok (.ireturn, 1) := by decide +kernel
theorem d_aS_newLength_21 : decode y_aS_newLength.2.1 21 = .ok (.iload_n 0, 1) := by decide +kernel
theorem d_aS_newLength_22 : decode y_aS_newLength.2.1 22 = .ok (.iload_n 1, 1) := by decide +kernel
theorem d_aS_newLength_23 : decode y_aS_newLength.2.1 23 = .ok (.invokestatic 201, 3) := by decide +kernel
theorem d_aS_newLength_26 : decode y_aS_newLength.2.1 26 = .ok (.ireturn, 1) := by decide +kernel
theorem d_aM_max_0 : decode y_aM_max.2.1 0 = .ok (.iload_n 0, 1) := by decide +kernel
theorem d_aM_max_1 : decode y_aM_max.2.1 1 = .ok (.iload_n 1, 1) := by decide +kernel
theorem d_aM_max_2 : decode y_aM_max.2.1 2 = .ok (.if_icmp .lt 7, 3) := by decide +kernel
theorem d_aM_max_5 : decode y_aM_max.2.1 5 = .ok (.iload_n 0, 1) := by decide +kernel
theorem d_aM_max_6 : decode y_aM_max.2.1 6 = .ok (.goto 4, 3) := by decide +kernel
theorem d_aM_max_9 : decode y_aM_max.2.1 9 = .ok (.iload_n 1, 1) := by decide +kernel
theorem d_aM_max_10 : decode y_aM_max.2.1 10 = .ok (.ireturn, 1) := by decide +kernel
theorem d_aS_hugeLength_0 : decode y_aS_hugeLength.2.1 0 = .ok (.iload_n 0, 1) := by decide +kernel
theorem d_aS_hugeLength_1 : decode y_aS_hugeLength.2.1 1 = .ok (.iload_n 1, 1) := by decide +kernel
theorem d_aS_hugeLength_2 : decode y_aS_hugeLength.2.1 2 = .ok (.iadd, 1) := by decide +kernel
theorem d_aS_hugeLength_3 : decode y_aS_hugeLength.2.1 3 = .ok (.istore_n 2, 1) := by decide +kernel
theorem d_aS_hugeLength_4 : decode y_aS_hugeLength.2.1 4 = .ok (.iload_n 2, 1) := by decide +kernel
theorem d_aS_hugeLength_5 : decode y_aS_hugeLength.2.1 5 = .ok (.ifCond .ge 44, 3) := by decide +kernel
theorem d_aS_hugeLength_8 : decode y_aS_hugeLength.2.1 8 = .ok (.new 204, 3) := by decide +kernel
theorem d_aS_hugeLength_11 : decode y_aS_hugeLength.2.1 11 = .ok (.dup, 1) := by decide +kernel
theorem d_aS_hugeLength_12 : decode y_aS_hugeLength.2.1 12 = .ok (.new 89, 3) := by decide +kernel
theorem d_aS_hugeLength_15 : decode y_aS_hugeLength.2.1 15 = .ok (.dup, 1) := by decide +kernel
theorem d_aS_hugeLength_16 : decode y_aS_hugeLength.2.1 16 = .ok (.invokespecial 91, 3) := by decide +kernel
theorem d_aS_hugeLength_19 : decode y_aS_hugeLength.2.1 19 = .ok (.ldc 206, 2) := by decide +kernel
theorem d_aS_hugeLength_21 : decode y_aS_hugeLength.2.1 21 = .ok (.invokevirtual 94, 3) := by decide +kernel
theorem d_aS_hugeLength_24 : decode y_aS_hugeLength.2.1 24 = .ok (.iload_n 0, 1) := by decide +kernel
theorem d_aS_hugeLength_25 : decode y_aS_hugeLength.2.1 25 = .ok (.invokevirtual 98, 3) := by decide +kernel
theorem d_aS_hugeLength_28 : decode y_aS_hugeLength.2.1 28 = .ok (.ldc 208, 2) := by decide +kernel
theorem d_aS_hugeLength_30 : decode y_aS_hugeLength.2.1 30 = .ok (.invokevirtual 94, 3) := by decide +kernel
theorem d_aS_hugeLength_33 : decode y_aS_hugeLength.2.1 33 = .ok (.iload_n 1, 1) := by decide +kernel
theorem d_aS_hugeLength_34 : decode y_aS_hugeLength.2.1 34 = .ok (.invokevirtual 98, 3) := by decide +kernel
theorem d_aS_hugeLength_37 : decode y_aS_hugeLength.2.1 37 = .ok (.ldc 210, 2) := by decide +kernel
theorem d_aS_hugeLength_39 : decode y_aS_hugeLength.2.1 39 = .ok (.invokevirtual 94, 3) := by decide +kernel
theorem d_aS_hugeLength_42 : decode y_aS_hugeLength.2.1 42 = .ok (.invokevirtual 101, 3) := by decide +kernel
theorem d_aS_hugeLength_45 : decode y_aS_hugeLength.2.1 45 = .ok (.invokespecial 212, 3) := by decide +kernel
theorem d_aS_hugeLength_48 : decode y_aS_hugeLength.2.1 48 = .ok (.athrow, 1) := by decide +kernel
theorem d_aS_hugeLength_49 : decode y_aS_hugeLength.2.1 49 = .ok (.iload_n 2, 1) := by decide +kernel
theorem d_aS_hugeLength_50 : decode y_aS_hugeLength.2.1 50 = .ok (.ldc 200, 2) := by decide +kernel
theorem d_aS_hugeLength_52 : decode y_aS_hugeLength.2.1 52 = .ok (.if_icmp .gt 6, 3) := by decide +kernel
theorem d_aS_hugeLength_55 : decode y_aS_hugeLength.2.1 55 = .ok (.ldc 200, 2) := by decide +kernel
theorem d_aS_hugeLength_57 : decode y_aS_hugeLength.2.1 57 = .ok (.ireturn, 1) := by decide +kernel
theorem d_aS_hugeLength_58 : decode y_aS_hugeLength.2.1 58 = .ok (.iload_n 2, 1) := by decide +kernel
theorem d_aS_hugeLength_59 : decode y_aS_hugeLength.2.1 59 = .ok (.ireturn, 1) := by decide +kernel
theorem d_aR_copyOf2_0 : decode y_aR_copyOf2.2.1 0 = .ok (.aload_n 0, 1) := by decide +kernel
theorem d_aR_copyOf2_1 : decode y_aR_copyOf2.2.1 1 = .ok (.iload_n 1, 1) := by decide +kernel
theorem d_aR_copyOf2_2 : decode y_aR_copyOf2.2.1 2 = .ok (.aload_n 0, 1) := by decide +kernel
theorem d_aR_copyOf2_3 : decode y_aR_copyOf2.2.1 3 = .ok (.invokevirtual 86, 3) := by decide +kernel
theorem d_aR_copyOf2_6 : decode y_aR_copyOf2.2.1 6 = .ok (.invokestatic 300, 3) := by decide +kernel
theorem d_aR_copyOf2_9 : decode y_aR_copyOf2.2.1 9 = .ok (.areturn, 1) := by decide +kernel
theorem d_aR_copyOf3_0 : decode y_aR_copyOf3.2.1 0 = .ok (.aload_n 2, 1) := by decide +kernel
theorem d_aR_copyOf3_1 : decode y_aR_copyOf3.2.1 1 = .ok (.ldc 110, 2) := by decide +kernel
theorem d_aR_copyOf3_3 : decode y_aR_copyOf3.2.1 3 = .ok (.if_acmp .ne 10, 3) := by decide +kernel
theorem d_aR_copyOf3_6 : decode y_aR_copyOf3.2.1 6 = .ok (.iload_n 1, 1) := by decide +kernel
theorem d_aR_copyOf3_7 : decode y_aR_copyOf3.2.1 7 = .ok (.anewarray 2, 3) := by decide +kernel
theorem d_aR_copyOf3_10 : decode y_aR_copyOf3.2.1 10 = .ok (.goto 14, 3) := by decide +kernel
theorem d_aR_copyOf3_13 : decode y_aR_copyOf3.2.1 13 = .ok (.aload_n 2, 1) := by decide +kernel
theorem d_aR_copyOf3_14 : decode y_aR_copyOf3.2.1 14 = .ok (.invokevirtual 90, 3) := by decide +kernel
theorem d_aR_copyOf3_17 : decode y_aR_copyOf3.2.1 17 = .ok (.iload_n 1, 1) := by decide +kernel
theorem d_aR_copyOf3_18 : decode y_aR_copyOf3.2.1 18 = .ok (.invokestatic 95, 3) := by decide +kernel
theorem d_aR_copyOf3_21 : decode y_aR_copyOf3.2.1 21 = .ok (.checkcast 110, 3) := by decide +kernel
theorem d_aR_copyOf3_24 : decode y_aR_copyOf3.2.1 24 = .ok (.astore_n 3, 1) := by decide +kernel
theorem d_aR_copyOf3_25 : decode y_aR_copyOf3.2.1 25 = .ok (.aload_n 0, 1) := by decide +kernel
theorem d_aR_copyOf3_26 : decode y_aR_copyOf3.2.1 26 = .ok (.iconst 0, 1) := by decide +kernel
theorem d_aR_copyOf3_27 : decode y_aR_copyOf3.2.1 27 = .ok (.aload_n 3, 1) := by decide +kernel
theorem d_aR_copyOf3_28 : decode y_aR_copyOf3.2.1 28 = .ok (.iconst 0, 1) := by decide +kernel
theorem d_aR_copyOf3_29 : decode y_aR_copyOf3.2.1 29 = .ok (.aload_n 0, 1) := by decide +kernel
theorem d_aR_copyOf3_30 : decode y_aR_copyOf3.2.1 30 = .ok (.arraylength, 1) := by decide +kernel
theorem d_aR_copyOf3_31 : decode y_aR_copyOf3.2.1 31 = .ok (.iload_n 1, 1) := by decide +kernel
theorem d_aR_copyOf3_32 : decode y_aR_copyOf3.2.1 32 = .ok (.invokestatic 304, 3) := by decide +kernel
theorem d_aR_copyOf3_35 : decode y_aR_copyOf3.2.1 35 = .ok (.invokestatic 150, 3) := by decide +kernel
theorem d_aR_copyOf3_38 : decode y_aR_copyOf3.2.1 38 = .ok (.aload_n 3, 1) := by decide +kernel
theorem d_aR_copyOf3_39 : decode y_aR_copyOf3.2.1 39 = .ok (.areturn, 1) := by decide +kernel
theorem d_aM_min_0 : decode y_aM_min.2.1 0 = .ok (.iload_n 0, 1) := by decide +kernel
theorem d_aM_min_1 : decode y_aM_min.2.1 1 = .ok (.iload_n 1, 1) := by decide +kernel
theorem d_aM_min_2 : decode y_aM_min.2.1 2 = .ok (.if_icmp .gt 7, 3) := by decide +kernel
theorem d_aM_min_5 : decode y_aM_min.2.1 5 = .ok (.iload_n 0, 1) := by decide +kernel
theorem d_aM_min_6 : decode y_aM_min.2.1 6 = .ok (.goto 4, 3) := by decide +kernel
theorem d_aM_min_9 : decode y_aM_min.2.1 9 = .ok (.iload_n 1, 1) := by decide +kernel
theorem d_aM_min_10 : decode y_aM_min.2.1 10 = .ok (.ireturn, 1) := by decide +kernel
theorem d_aL_get_0 : decode y_aL_get.2.1 0 = .ok (.iload_n 1, 1) := by decide +kernel
theorem d_aL_get_1 : decode y_aL_get.2.1 1 = .ok (.aload_n 0, 1) := by decide +kernel
theorem d_aL_get_2 : decode y_aL_get.2.1 2 = .ok (.getfield 48, 3) := by decide +kernel
theorem d_aL_get_5 : decode y_aL_get.2.1 5 = .ok (.invokestatic 118, 3) := by decide +kernel
theorem d_aL_get_8 : decode y_aL_get.2.1 8 = .ok (.pop, 1) := by decide +kernel
theorem d_aL_get_9 : decode y_aL_get.2.1 9 = .ok (.aload_n 0, 1) := by decide +kernel
theorem d_aL_get_10 : decode y_aL_get.2.1 10 = .ok (.iload_n 1, 1) := by decide +kernel
theorem d_aL_get_11 : decode y_aL_get.2.1 11 = .ok (.invokevirtual 123, 3) := by decide +kernel
theorem d_aL_get_14 : decode y_aL_get.2.1 14 = .ok (.areturn, 1) := by decide +kernel
theorem d_aO_checkIndex_0 : decode y_aO_checkIndex.2.1 0 = .ok (.iload_n 0, 1) := by decide +kernel
theorem d_aO_checkIndex_1 : decode y_aO_checkIndex.2.1 1 = .ok (.iload_n 1, 1) := by decide +kernel
theorem d_aO_checkIndex_2 : decode y_aO_checkIndex.2.1 2 = .ok (.aconst_null, 1) := by decide +kernel
theorem d_aO_checkIndex_3 : decode y_aO_checkIndex.2.1 3 = .ok (.invokestatic 105, 3) := by decide +kernel
theorem d_aO_checkIndex_6 : decode y_aO_checkIndex.2.1 6 = .ok (.ireturn, 1) := by decide +kernel
theorem d_aP_checkIndex_0 : decode y_aP_checkIndex.2.1 0 = .ok (.iload_n 0, 1) := by decide +kernel
theorem d_aP_checkIndex_1 : decode y_aP_checkIndex.2.1 1 = .ok (.ifCond .lt 8, 3) := by decide +kernel
theorem d_aP_checkIndex_4 : decode y_aP_checkIndex.2.1 4 = .ok (.iload_n 0, 1) := by decide +kernel
theorem d_aP_checkIndex_5 : decode y_aP_checkIndex.2.1 5 = .ok (.iload_n 1, 1) := by decide +kernel
theorem d_aP_checkIndex_6 : decode y_aP_checkIndex.2.1 6 = .ok (.if_icmp .lt 10, 3) := by decide +kernel
theorem d_aP_checkIndex_9 : decode y_aP_checkIndex.2.1 9 = .ok (.aload_n 2, 1) := by decide +kernel
theorem d_aP_checkIndex_10 : decode y_aP_checkIndex.2.1 10 = .ok (.iload_n 0, 1) := by decide +kernel
theorem d_aP_checkIndex_11 : decode y_aP_checkIndex.2.1 11 = .ok (.iload_n 1, 1) := by decide +kernel
theorem d_aP_checkIndex_12 : decode y_aP_checkIndex.2.1 12 = .ok (.invokestatic 95, 3) := by decide +kernel
theorem d_aP_checkIndex_15 : decode y_aP_checkIndex.2.1 15 = .ok (.athrow, 1) := by decide +kernel
theorem d_aP_checkIndex_16 : decode y_aP_checkIndex.2.1 16 = .ok (.iload_n 0, 1) := by decide +kernel
theorem d_aP_checkIndex_17 : decode y_aP_checkIndex.2.1 17 = .ok (.ireturn, 1) := by decide +kernel
theorem d_aL_elementData_0 : decode y_aL_elementData.2.1 0 = .ok (.aload_n 0, 1) := by decide +kernel
theorem d_aL_elementData_1 : decode y_aL_elementData.2.1 1 = .ok (.getfield 9, 3) := by decide +kernel
theorem d_aL_elementData_4 : decode y_aL_elementData.2.1 4 = .ok (.iload_n 1, 1) := by decide +kernel
theorem d_aL_elementData_5 : decode y_aL_elementData.2.1 5 = .ok (.aaload, 1) := by decide +kernel
theorem d_aL_elementData_6 : decode y_aL_elementData.2.1 6 = .ok (.areturn, 1) := by decide +kernel
theorem d_aL_clear_0 : decode y_aL_clear.2.1 0 = .ok (.aload_n 0, 1) := by decide +kernel
theorem d_aL_clear_1 : decode y_aL_clear.2.1 1 = .ok (.dup, 1) := by decide +kernel
theorem d_aL_clear_2 : decode y_aL_clear.2.1 2 = .ok (.getfield 63, 3) := by decide +kernel
theorem d_aL_clear_5 : decode y_aL_clear.2.1 5 = .ok (.iconst 1, 1) := by decide +kernel
theorem d_aL_clear_6 : decode y_aL_clear.2.1 6 = .ok (.iadd, 1) := by decide +kernel
theorem d_aL_clear_7 : decode y_aL_clear.2.1 7 = .ok (.putfield 63, 3) := by decide +kernel
theorem d_aL_clear_10 : decode y_aL_clear.2.1 10 = .ok (.aload_n 0, 1) := by decide +kernel
theorem d_aL_clear_11 : decode y_aL_clear.2.1 11 = .ok (.getfield 9, 3) := by decide +kernel
theorem d_aL_clear_14 : decode y_aL_clear.2.1 14 = .ok (.astore_n 1, 1) := by decide +kernel
theorem d_aL_clear_15 : decode y_aL_clear.2.1 15 = .ok (.aload_n 0, 1) := by decide +kernel
theorem d_aL_clear_16 : decode y_aL_clear.2.1 16 = .ok (.getfield 48, 3) := by decide +kernel
theorem d_aL_clear_19 : decode y_aL_clear.2.1 19 = .ok (.istore_n 2, 1) := by decide +kernel
theorem d_aL_clear_20 : decode y_aL_clear.2.1 20 = .ok (.aload_n 0, 1) := by decide +kernel
theorem d_aL_clear_21 : decode y_aL_clear.2.1 21 = .ok (.iconst 0, 1) := by decide +kernel
theorem d_aL_clear_22 : decode y_aL_clear.2.1 22 = .ok (.dup_x1, 1) := by decide +kernel
theorem d_aL_clear_23 : decode y_aL_clear.2.1 23 = .ok (.putfield 48, 3) := by decide +kernel
theorem d_aL_clear_26 : decode y_aL_clear.2.1 26 = .ok (.istore_n 3, 1) := by decide +kernel
theorem d_aL_clear_27 : decode y_aL_clear.2.1 27 = .ok (.iload_n 3, 1) := by decide +kernel
theorem d_aL_clear_28 : decode y_aL_clear.2.1 28 = .ok (.iload_n 2, 1) := by decide +kernel
theorem d_aL_clear_29 : decode y_aL_clear.2.1 29 = .ok (.if_icmp .ge 13, 3) := by decide +kernel
theorem d_aL_clear_32 : decode y_aL_clear.2.1 32 = .ok (.aload_n 1, 1) := by decide +kernel
theorem d_aL_clear_33 : decode y_aL_clear.2.1 33 = .ok (.iload_n 3, 1) := by decide +kernel
theorem d_aL_clear_34 : decode y_aL_clear.2.1 34 = .ok (.aconst_null, 1) := by decide +kernel
theorem d_aL_clear_35 : decode y_aL_clear.2.1 35 = .ok (.aastore, 1) := by decide +kernel
theorem d_aL_clear_36 : decode y_aL_clear.2.1 36 = .ok (.iinc 3 1, 3) := by decide +kernel
theorem d_aL_clear_39 : decode y_aL_clear.2.1 39 = .ok (.goto (-12), 3) := by decide +kernel
theorem d_aL_clear_42 : decode y_aL_clear.2.1 42 = .ok (.return_, 1) := by decide +kernel
