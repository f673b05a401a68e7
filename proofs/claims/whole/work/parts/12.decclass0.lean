theorem d_J_init_0 : decode y_J_init.2.1 0 = .ok (.aload_n 0, 1) := by decide +kernel
theorem d_J_init_1 : decode y_J_init.2.1 1 = .ok (.invokespecial 1, 3) := by decide +kernel
theorem d_J_init_4 : decode y_J_init.2.1 4 = .ok (.aload_n 0, 1) := by decide +kernel
theorem d_J_init_5 : decode y_J_init.2.1 5 = .ok (.new 7, 3) := by decide +kernel
theorem d_J_init_8 : decode y_J_init.2.1 8 = .ok (.dup, 1) := by decide +kernel
theorem d_J_init_9 : decode y_J_init.2.1 9 = .ok (.invokespecial 9, 3) := by decide +kernel
theorem d_J_init_12 : decode y_J_init.2.1 12 = .ok (.putfield 10, 3) := by decide +kernel
theorem d_J_init_15 : decode y_J_init.2.1 15 = .ok (.aload_n 0, 1) := by decide +kernel
theorem d_J_init_16 : decode y_J_init.2.1 16 = .ok (.new 16, 3) := by decide +kernel
theorem d_J_init_19 : decode y_J_init.2.1 19 = .ok (.dup, 1) := by decide +kernel
theorem d_J_init_20 : decode y_J_init.2.1 20 = .ok (.aload_n 0, 1) := by decide +kernel
theorem d_J_init_21 : decode y_J_init.2.1 21 = .ok (.getfield 10, 3) := by decide +kernel
theorem d_J_init_24 : decode y_J_init.2.1 24 = .ok (.invokespecial 18, 3) := by decide +kernel
theorem d_J_init_27 : decode y_J_init.2.1 27 = .ok (.putfield 21, 3) := by decide +kernel
theorem d_J_init_30 : decode y_J_init.2.1 30 = .ok (.aload_n 0, 1) := by decide +kernel
theorem d_J_init_31 : decode y_J_init.2.1 31 = .ok (.new 25, 3) := by decide +kernel
theorem d_J_init_34 : decode y_J_init.2.1 34 = .ok (.dup, 1) := by decide +kernel
theorem d_J_init_35 : decode y_J_init.2.1 35 = .ok (.invokespecial 27, 3) := by decide +kernel
theorem d_J_init_38 : decode y_J_init.2.1 38 = .ok (.putfield 28, 3) := by decide +kernel
theorem d_J_init_41 : decode y_J_init.2.1 41 = .ok (.aload_n 0, 1) := by decide +kernel
theorem d_J_init_42 : decode y_J_init.2.1 42 = .ok (.new 32, 3) := by decide +kernel
theorem d_J_init_45 : decode y_J_init.2.1 45 = .ok (.dup, 1) := by decide +kernel
theorem d_J_init_46 : decode y_J_init.2.1 46 = .ok (.aload_n 0, 1) := by decide +kernel
theorem d_J_init_47 : decode y_J_init.2.1 47 = .ok (.getfield 10, 3) := by decide +kernel
theorem d_J_init_50 : decode y_J_init.2.1 50 = .ok (.aload_n 0, 1) := by decide +kernel
theorem d_J_init_51 : decode y_J_init.2.1 51 = .ok (.getfield 21, 3) := by decide +kernel
theorem d_J_init_54 : decode y_J_init.2.1 54 = .ok (.aload_n 0, 1) := by decide +kernel
theorem d_J_init_55 : decode y_J_init.2.1 55 = .ok (.getfield 28, 3) := by decide +kernel
theorem d_J_init_58 : decode y_J_init.2.1 58 = .ok (.invokespecial 34, 3) := by decide +kernel
theorem d_J_init_61 : decode y_J_init.2.1 61 = .ok (.putfield 37, 3) := by decide +kernel
theorem d_J_init_64 : decode y_J_init.2.1 64 = .ok (.return_, 1) := by decide +kernel
theorem d_Cs_init_0 : decode y_Cs_init.2.1 0 = .ok (.aload_n 0, 1) := by decide +kernel
theorem d_Cs_init_1 : decode y_Cs_init.2.1 1 = .ok (.invokespecial 3, 3) := by decide +kernel
theorem d_Cs_init_4 : decode y_Cs_init.2.1 4 = .ok (.aload_n 0, 1) := by decide +kernel
theorem d_Cs_init_5 : decode y_Cs_init.2.1 5 = .ok (.bipush 40, 2) := by decide +kernel
theorem d_Cs_init_7 : decode y_Cs_init.2.1 7 = .ok (.anewarray 9, 3) := by decide +kernel
theorem d_Cs_init_10 : decode y_Cs_init.2.1 10 = .ok (.putfield 11, 3) := by decide +kernel
theorem d_Cs_init_13 : decode y_Cs_init.2.1 13 = .ok (.return_, 1) := by decide +kernel
theorem d_G_init_0 : decode y_G_init.2.1 0 = .ok (.aload_n 0, 1) := by decide +kernel
theorem d_G_init_1 : decode y_G_init.2.1 1 = .ok (.invokespecial 3, 3) := by decide +kernel
theorem d_G_init_4 : decode y_G_init.2.1 4 = .ok (.aload_n 0, 1) := by decide +kernel
theorem d_G_init_5 : decode y_G_init.2.1 5 = .ok (.bipush 61, 2) := by decide +kernel
theorem d_G_init_7 : decode y_G_init.2.1 7 = .ok (.newarray .int, 2) := by decide +kernel
theorem d_G_init_9 : decode y_G_init.2.1 9 = .ok (.putfield 9, 3) := by decide +kernel
theorem d_G_init_12 : decode y_G_init.2.1 12 = .ok (.aload_n 0, 1) := by decide +kernel
theorem d_G_init_13 : decode y_G_init.2.1 13 = .ok (.bipush 12, 2) := by decide +kernel
theorem d_G_init_15 : decode y_G_init.2.1 15 = .ok (.newarray .int, 2) := by decide +kernel
theorem d_G_init_17 : decode y_G_init.2.1 17 = .ok (.putfield 15, 3) := by decide +kernel
theorem d_G_init_20 : decode y_G_init.2.1 20 = .ok (.aload_n 0, 1) := by decide +kernel
theorem d_G_init_21 : decode y_G_init.2.1 21 = .ok (.bipush 40, 2) := by decide +kernel
theorem d_G_init_23 : decode y_G_init.2.1 23 = .ok (.newarray .int, 2) := by decide +kernel
theorem d_G_init_25 : decode y_G_init.2.1 25 = .ok (.putfield 18, 3) := by decide +kernel
theorem d_G_init_28 : decode y_G_init.2.1 28 = .ok (.aload_n 0, 1) := by decide +kernel
theorem d_G_init_29 : decode y_G_init.2.1 29 = .ok (.bipush 40, 2) := by decide +kernel
theorem d_G_init_31 : decode y_G_init.2.1 31 = .ok (.newarray .boolean, 2) := by decide +kernel
theorem d_G_init_33 : decode y_G_init.2.1 33 = .ok (.putfield 21, 3) := by decide +kernel
theorem d_G_init_36 : decode y_G_init.2.1 36 = .ok (.aload_n 0, 1) := by decide +kernel
theorem d_G_init_37 : decode y_G_init.2.1 37 = .ok (.aload_n 1, 1) := by decide +kernel
theorem d_G_init_38 : decode y_G_init.2.1 38 = .ok (.putfield 25, 3) := by decide +kernel
theorem d_G_init_41 : decode y_G_init.2.1 41 = .ok (.return_, 1) := by decide +kernel
theorem d_H_init_0 : decode y_H_init.2.1 0 = .ok (.aload_n 0, 1) := by decide +kernel
theorem d_H_init_1 : decode y_H_init.2.1 1 = .ok (.invokespecial 3, 3) := by decide +kernel
theorem d_H_init_4 : decode y_H_init.2.1 4 = .ok (.aload_n 0, 1) := by decide +kernel
theorem d_H_init_5 : decode y_H_init.2.1 5 = .ok (.sipush 2000, 3) := by decide +kernel
theorem d_H_init_8 : decode y_H_init.2.1 8 = .ok (.anewarray 9, 3) := by decide +kernel
theorem d_H_init_11 : decode y_H_init.2.1 11 = .ok (.putfield 11, 3) := by decide +kernel
theorem d_H_init_14 : decode y_H_init.2.1 14 = .ok (.aload_n 0, 1) := by decide +kernel
theorem d_H_init_15 : decode y_H_init.2.1 15 = .ok (.iconst 4, 1) := by decide +kernel
theorem d_H_init_16 : decode y_H_init.2.1 16 = .ok (.newarray .int, 2) := by decide +kernel
theorem d_H_init_18 : decode y_H_init.2.1 18 = .ok (.putfield 17, 3) := by decide +kernel
theorem d_H_init_21 : decode y_H_init.2.1 21 = .ok (.return_, 1) := by decide +kernel
theorem d_M_init_0 : decode y_M_init.2.1 0 = .ok (.aload_n 0, 1) := by decide +kernel
theorem d_M_init_1 : decode y_M_init.2.1 1 = .ok (.invokespecial 3, 3) := by decide +kernel
theorem d_M_init_4 : decode y_M_init.2.1 4 = .ok (.aload_n 0, 1) := by decide +kernel
theorem d_M_init_5 : decode y_M_init.2.1 5 = .ok (.bipush 8, 2) := by decide +kernel
theorem d_M_init_7 : decode y_M_init.2.1 7 = .ok (.anewarray 9, 3) := by decide +kernel
theorem d_M_init_10 : decode y_M_init.2.1 10 = .ok (.putfield 11, 3) := by decide +kernel
theorem d_M_init_13 : decode y_M_init.2.1 13 = .ok (.aload_n 0, 1) := by decide +kernel
theorem d_M_init_14 : decode y_M_init.2.1 14 = .ok (.aload_n 1, 1) := by decide +kernel
theorem d_M_init_15 : decode y_M_init.2.1 15 = .ok (.putfield 17, 3) := by decide +kernel
theorem d_M_init_18 : decode y_M_init.2.1 18 = .ok (.aload_n 0, 1) := by decide +kernel
theorem d_M_init_19 : decode y_M_init.2.1 19 = .ok (.aload_n 2, 1) := by decide +kernel
theorem d_M_init_20 : decode y_M_init.2.1 20 = .ok (.putfield 21, 3) := by decide +kernel
theorem d_M_init_23 : decode y_M_init.2.1 23 = .ok (.aload_n 0, 1) := by decide +kernel
theorem d_M_init_24 : decode y_M_init.2.1 24 = .ok (.aload_n 3, 1) := by decide +kernel
theorem d_M_init_25 : decode y_M_init.2.1 25 = .ok (.putfield 25, 3) := by decide +kernel
theorem d_M_init_28 : decode y_M_init.2.1 28 = .ok (.return_, 1) := by decide +kernel
theorem d_J_code_0 : decode y_J_code.2.1 0 = .ok (.iload_n 1, 1) := by decide +kernel
theorem d_J_code_1 : decode y_J_code.2.1 1 = .ok (.iconst 0, 1) := by decide +kernel
theorem d_J_code_2 : decode y_J_code.2.1 2 = .ok (.bipush 8, 2) := by decide +kernel
theorem d_J_code_4 : decode y_J_code.2.1 4 = .ok (.invokestatic 41, 3) := by decide +kernel
theorem d_J_code_7 : decode y_J_code.2.1 7 = .ok (.ifCond .eq 22, 3) := by decide +kernel
theorem d_J_code_10 : decode y_J_code.2.1 10 = .ok (.iload_n 2, 1) := by decide +kernel
theorem d_J_code_11 : decode y_J_code.2.1 11 = .ok (.iconst 0, 1) := by decide +kernel
theorem d_J_code_12 : decode y_J_code.2.1 12 = .ok (.iconst 2, 1) := by decide +kernel
theorem d_J_code_13 : decode y_J_code.2.1 13 = .ok (.invokestatic 41, 3) := by decide +kernel
theorem d_J_code_16 : decode y_J_code.2.1 16 = .ok (.ifCond .eq 13, 3) := by decide +kernel
theorem d_J_code_19 : decode y_J_code.2.1 19 = .ok (.aload_n 0, 1) := by decide +kernel
theorem d_J_code_20 : decode y_J_code.2.1 20 = .ok (.getfield 37, 3) := by decide +kernel
theorem d_J_code_23 : decode y_J_code.2.1 23 = .ok (.invokevirtual 45, 3) := by decide +kernel
theorem d_J_code_26 : decode y_J_code.2.1 26 = .ok (.ifCond .eq 5, 3) := by decide +kernel
theorem d_J_code_29 : decode y_J_code.2.1 29 = .ok (.iconst (-1), 1) := by decide +kernel
theorem d_J_code_30 : decode y_J_code.2.1 30 = .ok (.ireturn, 1) := by decide +kernel
theorem d_J_code_31 : decode y_J_code.2.1 31 = .ok (.aload_n 0, 1) := by decide +kernel
theorem d_J_code_32 : decode y_J_code.2.1 32 = .ok (.getfield 10, 3) := by decide +kernel
theorem d_J_code_35 : decode y_J_code.2.1 35 = .ok (.iload_n 1, 1) := by decide +kernel
theorem d_J_code_36 : decode y_J_code.2.1 36 = .ok (.iload_n 2, 1) := by decide +kernel
theorem d_J_code_37 : decode y_J_code.2.1 37 = .ok (.invokevirtual 49, 3) := by decide +kernel
theorem d_J_code_40 : decode y_J_code.2.1 40 = .ok (.ireturn, 1) := by decide +kernel
theorem d_J_isWithin_0 : decode y_J_isWithin.2.1 0 = .ok (.iload_n 0, 1) := by decide +kernel
theorem d_J_isWithin_1 : decode y_J_isWithin.2.1 1 = .ok (.iload_n 1, 1) := by decide +kernel
theorem d_J_isWithin_2 : decode y_J_isWithin.2.1 2 = .ok (.if_icmp .lt 12, 3) := by decide +kernel
theorem d_J_isWithin_5 : decode y_J_isWithin.2.1 5 = .ok (.iload_n 0, 1) := by decide +kernel
theorem d_J_isWithin_6 : decode y_J_isWithin.2.1 6 = .ok (.iload_n 2, 1) := by decide +kernel
theorem d_J_isWithin_7 : decode y_J_isWithin.2.1 7 = .ok (.if_icmp .gt 7, 3) := by decide +kernel
theorem d_J_isWithin_10 : decode y_J_isWithin.2.1 10 = .ok (.iconst 1, 1) := by decide +kernel
theorem d_J_isWithin_11 : decode y_J_isWithin.2.1 11 = .ok (.goto 4, 3) := by decide +kernel
theorem d_J_isWithin_14 : decode y_J_isWithin.2.1 14 = .ok (.iconst 0, 1) := by decide +kernel
theorem d_J_isWithin_15 : decode y_J_isWithin.2.1 15 = .ok (.ireturn, 1) := by decide +kernel
theorem d_M_hasStrands_0 : decode y_M_hasStrands.2.1 0 = .ok (.aload_n 0, 1) := by decide +kernel
theorem d_M_hasStrands_1 : decode y_M_hasStrands.2.1 1 = .ok (.getfield 29, 3) := by decide +kernel
theorem d_M_hasStrands_4 : decode y_M_hasStrands.2.1 4 = .ok (.ifCond .le 7, 3) := by decide +kernel
theorem d_M_hasStrands_7 : decode y_M_hasStrands.2.1 7 = .ok (.iconst 1, 1) := by decide +kernel
theorem d_M_hasStrands_8 : decode y_M_hasStrands.2.1 8 = .ok (.goto 4, 3) := by decide +kernel
theorem d_M_hasStrands_11 : decode y_M_hasStrands.2.1 11 = .ok (.iconst 0, 1) := by decide +kernel
theorem d_M_hasStrands_12 : decode y_M_hasStrands.2.1 12 = .ok (.ireturn, 1) := by decide +kernel
theorem d_Cs_begin_0 : decode y_Cs_begin.2.1 0 = .ok (.aload_n 0, 1) := by decide +kernel
theorem d_Cs_begin_1 : decode y_Cs_begin.2.1 1 = .ok (.getfield 17, 3) := by decide +kernel
theorem d_Cs_begin_4 : decode y_Cs_begin.2.1 4 = .ok (.bipush 40, 2) := by decide +kernel
theorem d_Cs_begin_6 : decode y_Cs_begin.2.1 6 = .ok (.if_icmp .lt 6, 3) := by decide +kernel
theorem d_Cs_begin_9 : decode y_Cs_begin.2.1 9 = .ok (.bipush (-12), 2) := by decide +kernel
theorem d_Cs_begin_11 : decode y_Cs_begin.2.1 11 = .ok (.ireturn, 1) := by decide +kernel
theorem d_Cs_begin_12 : decode y_Cs_begin.2.1 12 = .ok (.aload_n 0, 1) := by decide +kernel
theorem d_Cs_begin_13 : decode y_Cs_begin.2.1 13 = .ok (.new 9, 3) := by decide +kernel
theorem d_Cs_begin_16 : decode y_Cs_begin.2.1 16 = .ok (.dup, 1) := by decide +kernel
theorem d_Cs_begin_17 : decode y_Cs_begin.2.1 17 = .ok (.aload_n 0, 1) := by decide +kernel
theorem d_Cs_begin_18 : decode y_Cs_begin.2.1 18 = .ok (.getfield 17, 3) := by decide +kernel
theorem d_Cs_begin_21 : decode y_Cs_begin.2.1 21 = .ok (.iload_n 1, 1) := by decide +kernel
theorem d_Cs_begin_22 : decode y_Cs_begin.2.1 22 = .ok (.iload_n 2, 1) := by decide +kernel
theorem d_Cs_begin_23 : decode y_Cs_begin.2.1 23 = .ok (.invokespecial 21, 3) := by decide +kernel
theorem d_Cs_begin_26 : decode y_Cs_begin.2.1 26 = .ok (.putfield 24, 3) := by decide +kernel
theorem d_Cs_begin_29 : decode y_Cs_begin.2.1 29 = .ok (.aload_n 0, 1) := by decide +kernel
theorem d_Cs_begin_30 : decode y_Cs_begin.2.1 30 = .ok (.getfield 11, 3) := by decide +kernel
theorem d_Cs_begin_33 : decode y_Cs_begin.2.1 33 = .ok (.aload_n 0, 1) := by decide +kernel
theorem d_Cs_begin_34 : decode y_Cs_begin.2.1 34 = .ok (.getfield 17, 3) := by decide +kernel
theorem d_Cs_begin_37 : decode y_Cs_begin.2.1 37 = .ok (.aload_n 0, 1) := by decide +kernel
theorem d_Cs_begin_38 : decode y_Cs_begin.2.1 38 = .ok (.getfield 24, 3) := by decide +kernel
theorem d_Cs_begin_41 : decode y_Cs_begin.2.1 41 = .ok (.aastore, 1) := by decide +kernel
theorem d_Cs_begin_42 : decode y_Cs_begin.2.1 42 = .ok (.aload_n 0, 1) := by decide +kernel
theorem d_Cs_begin_43 : decode y_Cs_begin.2.1 43 = .ok (.dup, 1) := by decide +kernel
theorem d_Cs_begin_44 : decode y_Cs_begin.2.1 44 = .ok (.getfield 17, 3) := by decide +kernel
theorem d_Cs_begin_47 : decode y_Cs_begin.2.1 47 = .ok (.iconst 1, 1) := by decide +kernel
theorem d_Cs_begin_48 : decode y_Cs_begin.2.1 48 = .ok (.iadd, 1) := by decide +kernel
theorem d_Cs_begin_49 : decode y_Cs_begin.2.1 49 = .ok (.putfield 17, 3) := by decide +kernel
theorem d_Cs_begin_52 : decode y_Cs_begin.2.1 52 = .ok (.aload_n 0, 1) := by decide +kernel
theorem d_Cs_begin_53 : decode y_Cs_begin.2.1 53 = .ok (.getfield 17, 3) := by decide +kernel
theorem d_Cs_begin_56 : decode y_Cs_begin.2.1 56 = .ok (.iconst 1, 1) := by decide +kernel
theorem d_Cs_begin_57 : decode y_Cs_begin.2.1 57 = .ok (.isub, 1) := by decide +kernel
theorem d_Cs_begin_58 : decode y_Cs_begin.2.1 58 = .ok (.ireturn, 1) := by decide +kernel
theorem d_C_init_0 : decode y_C_init.2.1 0 = .ok (.aload_n 0, 1) := by decide +kernel
theorem d_C_init_1 : decode y_C_init.2.1 1 = .ok (.invokespecial 3, 3) := by decide +kernel
theorem d_C_init_4 : decode y_C_init.2.1 4 = .ok (.aload_n 0, 1) := by decide +kernel
theorem d_C_init_5 : decode y_C_init.2.1 5 = .ok (.bipush 8, 2) := by decide +kernel
theorem d_C_init_7 : decode y_C_init.2.1 7 = .ok (.newarray .int, 2) := by decide +kernel
theorem d_C_init_9 : decode y_C_init.2.1 9 = .ok (.putfield 9, 3) := by decide +kernel
theorem d_C_init_12 : decode y_C_init.2.1 12 = .ok (.aload_n 0, 1) := by decide +kernel
theorem d_C_init_13 : decode y_C_init.2.1 13 = .ok (.bipush 60, 2) := by decide +kernel
theorem d_C_init_15 : decode y_C_init.2.1 15 = .ok (.newarray .int, 2) := by decide +kernel
theorem d_C_init_17 : decode y_C_init.2.1 17 = .ok (.putfield 15, 3) := by decide +kernel
theorem d_C_init_20 : decode y_C_init.2.1 20 = .ok (.aload_n 0, 1) := by decide +kernel
theorem d_C_init_21 : decode y_C_init.2.1 21 = .ok (.bipush 60, 2) := by decide +kernel
theorem d_C_init_23 : decode y_C_init.2.1 23 = .ok (.newarray .int, 2) := by decide +kernel
theorem d_C_init_25 : decode y_C_init.2.1 25 = .ok (.putfield 18, 3) := by decide +kernel
theorem d_C_init_28 : decode y_C_init.2.1 28 = .ok (.aload_n 0, 1) := by decide +kernel
theorem d_C_init_29 : decode y_C_init.2.1 29 = .ok (.bipush 20, 2) := by decide +kernel
theorem d_C_init_31 : decode y_C_init.2.1 31 = .ok (.anewarray 21, 3) := by decide +kernel
theorem d_C_init_34 : decode y_C_init.2.1 34 = .ok (.putfield 23, 3) := by decide +kernel
theorem d_C_init_37 : decode y_C_init.2.1 37 = .ok (.aload_n 0, 1) := by decide +kernel
theorem d_C_init_38 : decode y_C_init.2.1 38 = .ok (.iload_n 1, 1) := by decide +kernel
theorem d_C_init_39 : decode y_C_init.2.1 39 = .ok (.putfield 27, 3) := by decide +kernel
theorem d_C_init_42 : decode y_C_init.2.1 42 = .ok (.aload_n 0, 1) := by decide +kernel
theorem d_C_init_43 : decode y_C_init.2.1 43 = .ok (.iload_n 2, 1) := by decide +kernel
theorem d_C_init_44 : decode y_C_init.2.1 44 = .ok (.putfield 31, 3) := by decide +kernel
theorem d_C_init_47 : decode y_C_init.2.1 47 = .ok (.aload_n 0, 1) := by decide +kernel
theorem d_C_init_48 : decode y_C_init.2.1 48 = .ok (.iload_n 3, 1) := by decide +kernel
theorem d_C_init_49 : decode y_C_init.2.1 49 = .ok (.putfield 34, 3) := by decide +kernel
theorem d_C_init_52 : decode y_C_init.2.1 52 = .ok (.return_, 1) := by decide +kernel
theorem d_J_local_0 : decode y_J_local.2.1 0 = .ok (.aload_n 0, 1) := by decide +kernel
theorem d_J_local_1 : decode y_J_local.2.1 1 = .ok (.getfield 10, 3) := by decide +kernel
theorem d_J_local_4 : decode y_J_local.2.1 4 = .ok (.invokevirtual 53, 3) := by decide +kernel
theorem d_J_local_7 : decode y_J_local.2.1 7 = .ok (.astore_n 2, 1) := by decide +kernel
theorem d_J_local_8 : decode y_J_local.2.1 8 = .ok (.aload_n 2, 1) := by decide +kernel
theorem d_J_local_9 : decode y_J_local.2.1 9 = .ok (.ifnonnull 6, 3) := by decide +kernel
theorem d_J_local_12 : decode y_J_local.2.1 12 = .ok (.bipush (-14), 2) := by decide +kernel
theorem d_J_local_14 : decode y_J_local.2.1 14 = .ok (.ireturn, 1) := by decide +kernel
theorem d_J_local_15 : decode y_J_local.2.1 15 = .ok (.iload_n 1, 1) := by decide +kernel
theorem d_J_local_16 : decode y_J_local.2.1 16 = .ok (.iconst 1, 1) := by decide +kernel
theorem d_J_local_17 : decode y_J_local.2.1 17 = .ok (.iconst 2, 1) := by decide +kernel
theorem d_J_local_18 : decode y_J_local.2.1 18 = .ok (.invokestatic 41, 3) := by decide +kernel
theorem d_J_local_21 : decode y_J_local.2.1 21 = .ok (.ifCond .eq 11, 3) := by decide +kernel
theorem d_J_local_24 : decode y_J_local.2.1 24 = .ok (.aload_n 2, 1) := by decide +kernel
theorem d_J_local_25 : decode y_J_local.2.1 25 = .ok (.iload_n 1, 1) := by decide +kernel
theorem d_J_local_26 : decode y_J_local.2.1 26 = .ok (.invokevirtual 57, 3) := by decide +kernel
theorem d_J_local_29 : decode y_J_local.2.1 29 = .ok (.goto 4, 3) := by decide +kernel
theorem d_J_local_32 : decode y_J_local.2.1 32 = .ok (.iconst (-1), 1) := by decide +kernel
theorem d_J_local_33 : decode y_J_local.2.1 33 = .ok (.ireturn, 1) := by decide +kernel
theorem d_Cs_open_0 : decode y_Cs_open.2.1 0 = .ok (.aload_n 0, 1) := by decide +kernel
theorem d_Cs_open_1 : decode y_Cs_open.2.1 1 = .ok (.getfield 24, 3) := by decide +kernel
theorem d_Cs_open_4 : decode y_Cs_open.2.1 4 = .ok (.areturn, 1) := by decide +kernel
theorem d_C_tellLocal_0 : decode y_C_tellLocal.2.1 0 = .ok (.aload_n 0, 1) := by decide +kernel
theorem d_C_tellLocal_1 : decode y_C_tellLocal.2.1 1 = .ok (.getfield 37, 3) := by decide +kernel
theorem d_C_tellLocal_4 : decode y_C_tellLocal.2.1 4 = .ok (.bipush 8, 2) := by decide +kernel
theorem d_C_tellLocal_6 : decode y_C_tellLocal.2.1 6 = .ok (.if_icmp .lt 6, 3) := by decide +kernel
theorem d_C_tellLocal_9 : decode y_C_tellLocal.2.1 9 = .ok (.bipush (-12), 2) := by decide +kernel
theorem d_C_tellLocal_11 : decode y_C_tellLocal.2.1 11 = .ok (.ireturn, 1) := by decide +kernel
theorem d_C_tellLocal_12 : decode y_C_tellLocal.2.1 12 = .ok (.aload_n 0, 1) := by decide +kernel
theorem d_C_tellLocal_13 : decode y_C_tellLocal.2.1 13 = .ok (.getfield 9, 3) := by decide +kernel
theorem d_C_tellLocal_16 : decode y_C_tellLocal.2.1 16 = .ok (.aload_n 0, 1) := by decide +kernel
theorem d_C_tellLocal_17 : decode y_C_tellLocal.2.1 17 = .ok (.getfield 37, 3) := by decide +kernel
theorem d_C_tellLocal_20 : decode y_C_tellLocal.2.1 20 = .ok (.iload_n 1, 1) := by decide +kernel
theorem d_C_tellLocal_21 : decode y_C_tellLocal.2.1 21 = .ok (.iastore, 1) := by decide +kernel
theorem d_C_tellLocal_22 : decode y_C_tellLocal.2.1 22 = .ok (.aload_n 0, 1) := by decide +kernel
theorem d_C_tellLocal_23 : decode y_C_tellLocal.2.1 23 = .ok (.dup, 1) := by decide +kernel
theorem d_C_tellLocal_24 : decode y_C_tellLocal.2.1 24 = .ok (.getfield 37, 3) := by decide +kernel
theorem d_C_tellLocal_27 : decode y_C_tellLocal.2.1 27 = .ok (.iconst 1, 1) := by decide +kernel
theorem d_C_tellLocal_28 : decode y_C_tellLocal.2.1 28 = .ok (.iadd, 1) := by decide +kernel
theorem d_C_tellLocal_29 : decode y_C_tellLocal.2.1 29 = .ok (.putfield 37, 3) := by decide +kernel
theorem d_C_tellLocal_32 : decode y_C_tellLocal.2.1 32 = .ok (.aload_n 0, 1) := by decide +kernel
theorem d_C_tellLocal_33 : decode y_C_tellLocal.2.1 33 = .ok (.getfield 37, 3) := by decide +kernel
theorem d_C_tellLocal_36 : decode y_C_tellLocal.2.1 36 = .ok (.ireturn, 1) := by decide +kernel
theorem d_J_add_0 : decode y_J_add.2.1 0 = .ok (.aload_n 0, 1) := by decide +kernel
theorem d_J_add_1 : decode y_J_add.2.1 1 = .ok (.getfield 10, 3) := by decide +kernel
theorem d_J_add_4 : decode y_J_add.2.1 4 = .ok (.invokevirtual 53, 3) := by decide +kernel
theorem d_J_add_7 : decode y_J_add.2.1 7 = .ok (.astore_n 3, 1) := by decide +kernel
theorem d_J_add_8 : decode y_J_add.2.1 8 = .ok (.aload_n 3, 1) := by decide +kernel
theorem d_J_add_9 : decode y_J_add.2.1 9 = .ok (.ifnonnull 6, 3) := by decide +kernel
theorem d_J_add_12 : decode y_J_add.2.1 12 = .ok (.bipush (-14), 2) := by decide +kernel
theorem d_J_add_14 : decode y_J_add.2.1 14 = .ok (.ireturn, 1) := by decide +kernel
theorem d_J_add_15 : decode y_J_add.2.1 15 = .ok (.iload_n 1, 1) := by decide +kernel
theorem d_J_add_16 : decode y_J_add.2.1 16 = .ok (.iload_n 2, 1) := by decide +kernel
theorem d_J_add_17 : decode y_J_add.2.1 17 = .ok (.invokestatic 63, 3) := by decide +kernel
theorem d_J_add_20 : decode y_J_add.2.1 20 = .ok (.ifCond .eq 12, 3) := by decide +kernel
theorem d_J_add_23 : decode y_J_add.2.1 23 = .ok (.aload_n 3, 1) := by decide +kernel
theorem d_J_add_24 : decode y_J_add.2.1 24 = .ok (.iload_n 1, 1) := by decide +kernel
theorem d_J_add_25 : decode y_J_add.2.1 25 = .ok (.iload_n 2, 1) := by decide +kernel
theorem d_J_add_26 : decode y_J_add.2.1 26 = .ok (.invokevirtual 67, 3) := by decide +kernel
theorem d_J_add_29 : decode y_J_add.2.1 29 = .ok (.goto 4, 3) := by decide +kernel
theorem d_J_add_32 : decode y_J_add.2.1 32 = .ok (.iconst (-1), 1) := by decide +kernel
theorem d_J_add_33 : decode y_J_add.2.1 33 = .ok (.ireturn, 1) := by decide +kernel
theorem d_J_fits_0 : decode y_J_fits.2.1 0 = .ok (.iload_n 0, 1) := by decide +kernel
theorem d_J_fits_1 : decode y_J_fits.2.1 1 = .ok (.tableswitch 105 14 26 #[67, 67, 77, 77, 105, 105, 105, 105, 105, 86, 86, 96, 96], 67) := by decide +kernel
theorem d_J_fits_68 : decode y_J_fits.2.1 68 = .ok (.iload_n 1, 1) := by decide +kernel
theorem d_J_fits_69 : decode y_J_fits.2.1 69 = .ok (.iconst 0, 1) := by decide +kernel
theorem d_J_fits_70 : decode y_J_fits.2.1 70 = .ok (.bipush 9, 2) := by decide +kernel
theorem d_J_fits_72 : decode y_J_fits.2.1 72 = .ok (.invokestatic 41, 3) := by decide +kernel
theorem d_J_fits_75 : decode y_J_fits.2.1 75 = .ok (.goto 38, 3) := by decide +kernel
theorem d_J_fits_78 : decode y_J_fits.2.1 78 = .ok (.iload_n 1, 1) := by decide +kernel
theorem d_J_fits_79 : decode y_J_fits.2.1 79 = .ok (.iconst 0, 1) := by decide +kernel
theorem d_J_fits_80 : decode y_J_fits.2.1 80 = .ok (.iconst 3, 1) := by decide +kernel
theorem d_J_fits_81 : decode y_J_fits.2.1 81 = .ok (.invokestatic 41, 3) := by decide +kernel
theorem d_J_fits_84 : decode y_J_fits.2.1 84 = .ok (.goto 29, 3) := by decide +kernel
theorem d_J_fits_87 : decode y_J_fits.2.1 87 = .ok (.iload_n 1, 1) := by decide +kernel
theorem d_J_fits_88 : decode y_J_fits.2.1 88 = .ok (.iconst 4, 1) := by decide +kernel
theorem d_J_fits_89 : decode y_J_fits.2.1 89 = .ok (.bipush 7, 2) := by decide +kernel
theorem d_J_fits_91 : decode y_J_fits.2.1 91 = .ok (.invokestatic 41, 3) := by decide +kernel
theorem d_J_fits_94 : decode y_J_fits.2.1 94 = .ok (.goto 19, 3) := by decide +kernel
theorem d_J_fits_97 : decode y_J_fits.2.1 97 = .ok (.iload_n 1, 1) := by decide +kernel
theorem d_J_fits_98 : decode y_J_fits.2.1 98 = .ok (.iconst 0, 1) := by decide +kernel
theorem d_J_fits_99 : decode y_J_fits.2.1 99 = .ok (.iconst 3, 1) := by decide +kernel
theorem d_J_fits_100 : decode y_J_fits.2.1 100 = .ok (.invokestatic 41, 3) := by decide +kernel
theorem d_J_fits_103 : decode y_J_fits.2.1 103 = .ok (.goto 10, 3) := by decide +kernel
theorem d_J_fits_106 : decode y_J_fits.2.1 106 = .ok (.iload_n 0, 1) := by decide +kernel
theorem d_J_fits_107 : decode y_J_fits.2.1 107 = .ok (.iconst 0, 1) := by decide +kernel
theorem d_J_fits_108 : decode y_J_fits.2.1 108 = .ok (.bipush 26, 2) := by decide +kernel
theorem d_J_fits_110 : decode y_J_fits.2.1 110 = .ok (.invokestatic 41, 3) := by decide +kernel
theorem d_J_fits_113 : decode y_J_fits.2.1 113 = .ok (.ireturn, 1) := by decide +kernel
theorem d_C_tellInstruction_0 : decode y_C_tellInstruction.2.1 0 = .ok (.aload_n 0, 1) := by decide +kernel
theorem d_C_tellInstruction_1 : decode y_C_tellInstruction.2.1 1 = .ok (.getfield 40, 3) := by decide +kernel
theorem d_C_tellInstruction_4 : decode y_C_tellInstruction.2.1 4 = .ok (.bipush 60, 2) := by decide +kernel
theorem d_C_tellInstruction_6 : decode y_C_tellInstruction.2.1 6 = .ok (.if_icmp .lt 6, 3) := by decide +kernel
theorem d_C_tellInstruction_9 : decode y_C_tellInstruction.2.1 9 = .ok (.bipush (-12), 2) := by decide +kernel
theorem d_C_tellInstruction_11 : decode y_C_tellInstruction.2.1 11 = .ok (.ireturn, 1) := by decide +kernel
theorem d_C_tellInstruction_12 : decode y_C_tellInstruction.2.1 12 = .ok (.aload_n 0, 1) := by decide +kernel
theorem d_C_tellInstruction_13 : decode y_C_tellInstruction.2.1 13 = .ok (.getfield 15, 3) := by decide +kernel
theorem d_C_tellInstruction_16 : decode y_C_tellInstruction.2.1 16 = .ok (.aload_n 0, 1) := by decide +kernel
theorem d_C_tellInstruction_17 : decode y_C_tellInstruction.2.1 17 = .ok (.getfield 40, 3) := by decide +kernel
theorem d_C_tellInstruction_20 : decode y_C_tellInstruction.2.1 20 = .ok (.iload_n 1, 1) := by decide +kernel
theorem d_C_tellInstruction_21 : decode y_C_tellInstruction.2.1 21 = .ok (.iastore, 1) := by decide +kernel
theorem d_C_tellInstruction_22 : decode y_C_tellInstruction.2.1 22 = .ok (.aload_n 0, 1) := by decide +kernel
theorem d_C_tellInstruction_23 : decode y_C_tellInstruction.2.1 23 = .ok (.getfield 18, 3) := by decide +kernel
theorem d_C_tellInstruction_26 : decode y_C_tellInstruction.2.1 26 = .ok (.aload_n 0, 1) := by decide +kernel
theorem d_C_tellInstruction_27 : decode y_C_tellInstruction.2.1 27 = .ok (.getfield 40, 3) := by decide +kernel
theorem d_C_tellInstruction_30 : decode y_C_tellInstruction.2.1 30 = .ok (.iload_n 2, 1) := by decide +kernel
theorem d_C_tellInstruction_31 : decode y_C_tellInstruction.2.1 31 = .ok (.iastore, 1) := by decide +kernel
theorem d_C_tellInstruction_32 : decode y_C_tellInstruction.2.1 32 = .ok (.aload_n 0, 1) := by decide +kernel
theorem d_C_tellInstruction_33 : decode y_C_tellInstruction.2.1 33 = .ok (.dup, 1) := by decide +kernel
theorem d_C_tellInstruction_34 : decode y_C_tellInstruction.2.1 34 = .ok (.getfield 40, 3) := by decide +kernel
theorem d_C_tellInstruction_37 : decode y_C_tellInstruction.2.1 37 = .ok (.iconst 1, 1) := by decide +kernel
theorem d_C_tellInstruction_38 : decode y_C_tellInstruction.2.1 38 = .ok (.iadd, 1) := by decide +kernel
theorem d_C_tellInstruction_39 : decode y_C_tellInstruction.2.1 39 = .ok (.putfield 40, 3) := by decide +kernel
theorem d_C_tellInstruction_42 : decode y_C_tellInstruction.2.1 42 = .ok (.aload_n 0, 1) := by decide +kernel
theorem d_C_tellInstruction_43 : decode y_C_tellInstruction.2.1 43 = .ok (.getfield 40, 3) := by decide +kernel
theorem d_C_tellInstruction_46 : decode y_C_tellInstruction.2.1 46 = .ok (.iconst 1, 1) := by decide +kernel
theorem d_C_tellInstruction_47 : decode y_C_tellInstruction.2.1 47 = .ok (.isub, 1) := by decide +kernel
theorem d_C_tellInstruction_48 : decode y_C_tellInstruction.2.1 48 = .ok (.ireturn, 1) := by decide +kernel
theorem d_J_row_0 : decode y_J_row.2.1 0 = .ok (.aload_n 0, 1) := by decide +kernel
theorem d_J_row_1 : decode y_J_row.2.1 1 = .ok (.getfield 10, 3) := by decide +kernel
theorem d_J_row_4 : decode y_J_row.2.1 4 = .ok (.invokevirtual 53, 3) := by decide +kernel
theorem d_J_row_7 : decode y_J_row.2.1 7 = .ok (.astore 5, 2) := by decide +kernel
theorem d_J_row_9 : decode y_J_row.2.1 9 = .ok (.aload 5, 2) := by decide +kernel
theorem d_J_row_11 : decode y_J_row.2.1 11 = .ok (.ifnonnull 6, 3) := by decide +kernel
theorem d_J_row_14 : decode y_J_row.2.1 14 = .ok (.bipush (-14), 2) := by decide +kernel
theorem d_J_row_16 : decode y_J_row.2.1 16 = .ok (.ireturn, 1) := by decide +kernel
theorem d_J_row_17 : decode y_J_row.2.1 17 = .ok (.iload_n 1, 1) := by decide +kernel
theorem d_J_row_18 : decode y_J_row.2.1 18 = .ok (.iconst 0, 1) := by decide +kernel
theorem d_J_row_19 : decode y_J_row.2.1 19 = .ok (.bipush 60, 2) := by decide +kernel
theorem d_J_row_21 : decode y_J_row.2.1 21 = .ok (.invokestatic 41, 3) := by decide +kernel
theorem d_J_row_24 : decode y_J_row.2.1 24 = .ok (.ifCond .eq 38, 3) := by decide +kernel
theorem d_J_row_27 : decode y_J_row.2.1 27 = .ok (.iload_n 2, 1) := by decide +kernel
theorem d_J_row_28 : decode y_J_row.2.1 28 = .ok (.iconst 0, 1) := by decide +kernel
theorem d_J_row_29 : decode y_J_row.2.1 29 = .ok (.bipush 60, 2) := by decide +kernel
theorem d_J_row_31 : decode y_J_row.2.1 31 = .ok (.invokestatic 41, 3) := by decide +kernel
theorem d_J_row_34 : decode y_J_row.2.1 34 = .ok (.ifCond .eq 28, 3) := by decide +kernel
theorem d_J_row_37 : decode y_J_row.2.1 37 = .ok (.iload_n 3, 1) := by decide +kernel
theorem d_J_row_38 : decode y_J_row.2.1 38 = .ok (.iconst 0, 1) := by decide +kernel
theorem d_J_row_39 : decode y_J_row.2.1 39 = .ok (.bipush 60, 2) := by decide +kernel
theorem d_J_row_41 : decode y_J_row.2.1 41 = .ok (.invokestatic 41, 3) := by decide +kernel
theorem d_J_row_44 : decode y_J_row.2.1 44 = .ok (.ifCond .eq 18, 3) := by decide +kernel
theorem d_J_row_47 : decode y_J_row.2.1 47 = .ok (.iload 4, 2) := by decide +kernel
theorem d_J_row_49 : decode y_J_row.2.1 49 = .ok (.iconst 0, 1) := by decide +kernel
theorem d_J_row_50 : decode y_J_row.2.1 50 = .ok (.bipush 10, 2) := by decide +kernel
theorem d_J_row_52 : decode y_J_row.2.1 52 = .ok (.invokestatic 41, 3) := by decide +kernel
theorem d_J_row_55 : decode y_J_row.2.1 55 = .ok (.ifCond .eq 7, 3) := by decide +kernel
theorem d_J_row_58 : decode y_J_row.2.1 58 = .ok (.iconst 1, 1) := by decide +kernel
theorem d_J_row_59 : decode y_J_row.2.1 59 = .ok (.goto 4, 3) := by decide +kernel
theorem d_J_row_62 : decode y_J_row.2.1 62 = .ok (.iconst 0, 1) := by decide +kernel
theorem d_J_row_63 : decode y_J_row.2.1 63 = .ok (.istore 6, 2) := by decide +kernel
theorem d_J_row_65 : decode y_J_row.2.1 65 = .ok (.iload 6, 2) := by decide +kernel
theorem d_J_row_67 : decode y_J_row.2.1 67 = .ok (.ifCond .eq 16, 3) := by decide +kernel
theorem d_J_row_70 : decode y_J_row.2.1 70 = .ok (.aload 5, 2) := by decide +kernel
theorem d_J_row_72 : decode y_J_row.2.1 72 = .ok (.iload_n 1, 1) := by decide +kernel
theorem d_J_row_73 : decode y_J_row.2.1 73 = .ok (.iload_n 2, 1) := by decide +kernel
theorem d_J_row_74 : decode y_J_row.2.1 74 = .ok (.iload_n 3, 1) := by decide +kernel
theorem d_J_row_75 : decode y_J_row.2.1 75 = .ok (.iload 4, 2) := by decide +kernel
theorem d_J_row_77 : decode y_J_row.2.1 77 = .ok (.invokevirtual 70, 3) := by decide +kernel
theorem d_J_row_80 : decode y_J_row.2.1 80 = .ok (.goto 4, 3) := by decide +kernel
theorem d_J_row_83 : decode y_J_row.2.1 83 = .ok (.iconst (-1), 1) := by decide +kernel
theorem d_J_row_84 : decode y_J_row.2.1 84 = .ok (.ireturn, 1) := by decide +kernel
theorem d_C_tellRow_0 : decode y_C_tellRow.2.1 0 = .ok (.aload_n 0, 1) := by decide +kernel
theorem d_C_tellRow_1 : decode y_C_tellRow.2.1 1 = .ok (.getfield 43, 3) := by decide +kernel
theorem d_C_tellRow_4 : decode y_C_tellRow.2.1 4 = .ok (.bipush 20, 2) := by decide +kernel
theorem d_C_tellRow_6 : decode y_C_tellRow.2.1 6 = .ok (.if_icmp .lt 6, 3) := by decide +kernel
theorem d_C_tellRow_9 : decode y_C_tellRow.2.1 9 = .ok (.bipush (-12), 2) := by decide +kernel
theorem d_C_tellRow_11 : decode y_C_tellRow.2.1 11 = .ok (.ireturn, 1) := by decide +kernel
theorem d_C_tellRow_12 : decode y_C_tellRow.2.1 12 = .ok (.aload_n 0, 1) := by decide +kernel
theorem d_C_tellRow_13 : decode y_C_tellRow.2.1 13 = .ok (.getfield 23, 3) := by decide +kernel
theorem d_C_tellRow_16 : decode y_C_tellRow.2.1 16 = .ok (.aload_n 0, 1) := by decide +kernel
theorem d_C_tellRow_17 : decode y_C_tellRow.2.1 17 = .ok (.getfield 43, 3) := by decide +kernel
theorem d_C_tellRow_20 : decode y_C_tellRow.2.1 20 = .ok (.new 21, 3) := by decide +kernel
theorem d_C_tellRow_23 : decode y_C_tellRow.2.1 23 = .ok (.dup, 1) := by decide +kernel
theorem d_C_tellRow_24 : decode y_C_tellRow.2.1 24 = .ok (.iload_n 1, 1) := by decide +kernel
theorem d_C_tellRow_25 : decode y_C_tellRow.2.1 25 = .ok (.iload_n 2, 1) := by decide +kernel
theorem d_C_tellRow_26 : decode y_C_tellRow.2.1 26 = .ok (.iload_n 3, 1) := by decide +kernel
theorem d_C_tellRow_27 : decode y_C_tellRow.2.1 27 = .ok (.iload 4, 2) := by decide +kernel
theorem d_C_tellRow_29 : decode y_C_tellRow.2.1 29 = .ok (.invokespecial 46, 3) := by decide +kernel
theorem d_C_tellRow_32 : decode y_C_tellRow.2.1 32 = .ok (.aastore, 1) := by decide +kernel
theorem d_C_tellRow_33 : decode y_C_tellRow.2.1 33 = .ok (.aload_n 0, 1) := by decide +kernel
theorem d_C_tellRow_34 : decode y_C_tellRow.2.1 34 = .ok (.dup, 1) := by decide +kernel
theorem d_C_tellRow_35 : decode y_C_tellRow.2.1 35 = .ok (.getfield 43, 3) := by decide +kernel
theorem d_C_tellRow_38 : decode y_C_tellRow.2.1 38 = .ok (.iconst 1, 1) := by decide +kernel
theorem d_C_tellRow_39 : decode y_C_tellRow.2.1 39 = .ok (.iadd, 1) := by decide +kernel
theorem d_C_tellRow_40 : decode y_C_tellRow.2.1 40 = .ok (.putfield 43, 3) := by decide +kernel
theorem d_C_tellRow_43 : decode y_C_tellRow.2.1 43 = .ok (.aload_n 0, 1) := by decide +kernel
theorem d_C_tellRow_44 : decode y_C_tellRow.2.1 44 = .ok (.getfield 43, 3) := by decide +kernel
theorem d_C_tellRow_47 : decode y_C_tellRow.2.1 47 = .ok (.ireturn, 1) := by decide +kernel
theorem d_R_init_0 : decode y_R_init.2.1 0 = .ok (.aload_n 0, 1) := by decide +kernel
theorem d_R_init_1 : decode y_R_init.2.1 1 = .ok (.invokespecial 3, 3) := by decide +kernel
theorem d_R_init_4 : decode y_R_init.2.1 4 = .ok (.aload_n 0, 1) := by decide +kernel
theorem d_R_init_5 : decode y_R_init.2.1 5 = .ok (.iload_n 1, 1) := by decide +kernel
theorem d_R_init_6 : decode y_R_init.2.1 6 = .ok (.putfield 9, 3) := by decide +kernel
theorem d_R_init_9 : decode y_R_init.2.1 9 = .ok (.aload_n 0, 1) := by decide +kernel
theorem d_R_init_10 : decode y_R_init.2.1 10 = .ok (.iload_n 2, 1) := by decide +kernel
theorem d_R_init_11 : decode y_R_init.2.1 11 = .ok (.putfield 15, 3) := by decide +kernel
theorem d_R_init_14 : decode y_R_init.2.1 14 = .ok (.aload_n 0, 1) := by decide +kernel
theorem d_R_init_15 : decode y_R_init.2.1 15 = .ok (.iload_n 3, 1) := by decide +kernel
theorem d_R_init_16 : decode y_R_init.2.1 16 = .ok (.putfield 18, 3) := by decide +kernel
theorem d_R_init_19 : decode y_R_init.2.1 19 = .ok (.aload_n 0, 1) := by decide +kernel
theorem d_R_init_20 : decode y_R_init.2.1 20 = .ok (.iload 4, 2) := by decide +kernel
theorem d_R_init_22 : decode y_R_init.2.1 22 = .ok (.putfield 21, 3) := by decide +kernel
theorem d_R_init_25 : decode y_R_init.2.1 25 = .ok (.return_, 1) := by decide +kernel
theorem d_J_judge_0 : decode y_J_judge.2.1 0 = .ok (.aload_n 0, 1) := by decide +kernel
theorem d_J_judge_1 : decode y_J_judge.2.1 1 = .ok (.getfield 10, 3) := by decide +kernel
theorem d_J_judge_4 : decode y_J_judge.2.1 4 = .ok (.iload_n 1, 1) := by decide +kernel
theorem d_J_judge_5 : decode y_J_judge.2.1 5 = .ok (.invokevirtual 74, 3) := by decide +kernel
theorem d_J_judge_8 : decode y_J_judge.2.1 8 = .ok (.astore_n 2, 1) := by decide +kernel
theorem d_J_judge_9 : decode y_J_judge.2.1 9 = .ok (.aload_n 2, 1) := by decide +kernel
theorem d_J_judge_10 : decode y_J_judge.2.1 10 = .ok (.ifnonnull 6, 3) := by decide +kernel
theorem d_J_judge_13 : decode y_J_judge.2.1 13 = .ok (.bipush (-14), 2) := by decide +kernel
theorem d_J_judge_15 : decode y_J_judge.2.1 15 = .ok (.ireturn, 1) := by decide +kernel
theorem d_J_judge_16 : decode y_J_judge.2.1 16 = .ok (.aload_n 0, 1) := by decide +kernel
theorem d_J_judge_17 : decode y_J_judge.2.1 17 = .ok (.getfield 21, 3) := by decide +kernel
theorem d_J_judge_20 : decode y_J_judge.2.1 20 = .ok (.aload_n 2, 1) := by decide +kernel
theorem d_J_judge_21 : decode y_J_judge.2.1 21 = .ok (.invokevirtual 78, 3) := by decide +kernel
theorem d_J_judge_24 : decode y_J_judge.2.1 24 = .ok (.ifCond .eq 7, 3) := by decide +kernel
theorem d_J_judge_27 : decode y_J_judge.2.1 27 = .ok (.iconst 1, 1) := by decide +kernel
theorem d_J_judge_28 : decode y_J_judge.2.1 28 = .ok (.goto 4, 3) := by decide +kernel
theorem d_J_judge_31 : decode y_J_judge.2.1 31 = .ok (.iconst 0, 1) := by decide +kernel
theorem d_J_judge_32 : decode y_J_judge.2.1 32 = .ok (.ireturn, 1) := by decide +kernel
theorem d_Cs_find_0 : decode y_Cs_find.2.1 0 = .ok (.iload_n 1, 1) := by decide +kernel
theorem d_Cs_find_1 : decode y_Cs_find.2.1 1 = .ok (.ifCond .lt 20, 3) := by decide +kernel
theorem d_Cs_find_4 : decode y_Cs_find.2.1 4 = .ok (.iload_n 1, 1) := by decide +kernel
theorem d_Cs_find_5 : decode y_Cs_find.2.1 5 = .ok (.aload_n 0, 1) := by decide +kernel
theorem d_Cs_find_6 : decode y_Cs_find.2.1 6 = .ok (.getfield 17, 3) := by decide +kernel
theorem d_Cs_find_9 : decode y_Cs_find.2.1 9 = .ok (.if_icmp .ge 12, 3) := by decide +kernel
theorem d_Cs_find_12 : decode y_Cs_find.2.1 12 = .ok (.aload_n 0, 1) := by decide +kernel
theorem d_Cs_find_13 : decode y_Cs_find.2.1 13 = .ok (.getfield 11, 3) := by decide +kernel
theorem d_Cs_find_16 : decode y_Cs_find.2.1 16 = .ok (.iload_n 1, 1) := by decide +kernel
theorem d_Cs_find_17 : decode y_Cs_find.2.1 17 = .ok (.aaload, 1) := by decide +kernel
theorem d_Cs_find_18 : decode y_Cs_find.2.1 18 = .ok (.goto 4, 3) := by decide +kernel
theorem d_Cs_find_21 : decode y_Cs_find.2.1 21 = .ok (.aconst_null, 1) := by decide +kernel
theorem d_Cs_find_22 : decode y_Cs_find.2.1 22 = .ok (.areturn, 1) := by decide +kernel
theorem d_G_isGood_0 : decode y_G_isGood.2.1 0 = .ok (.aload_n 0, 1) := by decide +kernel
theorem d_G_isGood_1 : decode y_G_isGood.2.1 1 = .ok (.aload_n 1, 1) := by decide +kernel
theorem d_G_isGood_2 : decode y_G_isGood.2.1 2 = .ok (.invokevirtual 29, 3) := by decide +kernel
theorem d_G_isGood_5 : decode y_G_isGood.2.1 5 = .ok (.ifCond .le 50, 3) := by decide +kernel
theorem d_G_isGood_8 : decode y_G_isGood.2.1 8 = .ok (.aload_n 1, 1) := by decide +kernel
theorem d_G_isGood_9 : decode y_G_isGood.2.1 9 = .ok (.aload_n 1, 1) := by decide +kernel
theorem d_G_isGood_10 : decode y_G_isGood.2.1 10 = .ok (.invokevirtual 29, 3) := by decide +kernel
theorem d_G_isGood_13 : decode y_G_isGood.2.1 13 = .ok (.iconst 1, 1) := by decide +kernel
theorem d_G_isGood_14 : decode y_G_isGood.2.1 14 = .ok (.isub, 1) := by decide +kernel
theorem d_G_isGood_15 : decode y_G_isGood.2.1 15 = .ok (.invokevirtual 35, 3) := by decide +kernel
theorem d_G_isGood_18 : decode y_G_isGood.2.1 18 = .ok (.invokestatic 39, 3) := by decide +kernel
theorem d_G_isGood_21 : decode y_G_isGood.2.1 21 = .ok (.ifCond .eq 34, 3) := by decide +kernel
theorem d_G_isGood_24 : decode y_G_isGood.2.1 24 = .ok (.aload_n 1, 1) := by decide +kernel
theorem d_G_isGood_25 : decode y_G_isGood.2.1 25 = .ok (.invokevirtual 43, 3) := by decide +kernel
theorem d_G_isGood_28 : decode y_G_isGood.2.1 28 = .ok (.aload_n 1, 1) := by decide +kernel
theorem d_G_isGood_29 : decode y_G_isGood.2.1 29 = .ok (.getfield 46, 3) := by decide +kernel
theorem d_G_isGood_32 : decode y_G_isGood.2.1 32 = .ok (.if_icmp .lt 23, 3) := by decide +kernel
theorem d_G_isGood_35 : decode y_G_isGood.2.1 35 = .ok (.aload_n 0, 1) := by decide +kernel
theorem d_G_isGood_36 : decode y_G_isGood.2.1 36 = .ok (.aload_n 1, 1) := by decide +kernel
theorem d_G_isGood_37 : decode y_G_isGood.2.1 37 = .ok (.invokevirtual 50, 3) := by decide +kernel
theorem d_G_isGood_40 : decode y_G_isGood.2.1 40 = .ok (.ifCond .eq 15, 3) := by decide +kernel
theorem d_G_isGood_43 : decode y_G_isGood.2.1 43 = .ok (.aload_n 0, 1) := by decide +kernel
theorem d_G_isGood_44 : decode y_G_isGood.2.1 44 = .ok (.aload_n 1, 1) := by decide +kernel
theorem d_G_isGood_45 : decode y_G_isGood.2.1 45 = .ok (.invokevirtual 54, 3) := by decide +kernel
theorem d_G_isGood_48 : decode y_G_isGood.2.1 48 = .ok (.ifCond .eq 7, 3) := by decide +kernel
theorem d_G_isGood_51 : decode y_G_isGood.2.1 51 = .ok (.iconst 1, 1) := by decide +kernel
theorem d_G_isGood_52 : decode y_G_isGood.2.1 52 = .ok (.goto 4, 3) := by decide +kernel
theorem d_G_isGood_55 : decode y_G_isGood.2.1 55 = .ok (.iconst 0, 1) := by decide +kernel
theorem d_G_isGood_56 : decode y_G_isGood.2.1 56 = .ok (.putfield 57, 3) := by decide +kernel
theorem d_G_isGood_59 : decode y_G_isGood.2.1 59 = .ok (.aload_n 0, 1) := by decide +kernel
theorem d_G_isGood_60 : decode y_G_isGood.2.1 60 = .ok (.getfield 57, 3) := by decide +kernel
theorem d_G_isGood_63 : decode y_G_isGood.2.1 63 = .ok (.ifCond .ne 5, 3) := by decide +kernel
theorem d_G_isGood_66 : decode y_G_isGood.2.1 66 = .ok (.iconst 0, 1) := by decide +kernel
theorem d_G_isGood_67 : decode y_G_isGood.2.1 67 = .ok (.ireturn, 1) := by decide +kernel
theorem d_G_isGood_68 : decode y_G_isGood.2.1 68 = .ok (.aload_n 0, 1) := by decide +kernel
theorem d_G_isGood_69 : decode y_G_isGood.2.1 69 = .ok (.aload_n 1, 1) := by decide +kernel
theorem d_G_isGood_70 : decode y_G_isGood.2.1 70 = .ok (.invokevirtual 61, 3) := by decide +kernel
theorem d_G_isGood_73 : decode y_G_isGood.2.1 73 = .ok (.aload_n 0, 1) := by decide +kernel
theorem d_G_isGood_74 : decode y_G_isGood.2.1 74 = .ok (.iconst 0, 1) := by decide +kernel
theorem d_G_isGood_75 : decode y_G_isGood.2.1 75 = .ok (.putfield 65, 3) := by decide +kernel
theorem d_G_isGood_78 : decode y_G_isGood.2.1 78 = .ok (.iconst 0, 1) := by decide +kernel
theorem d_G_isGood_79 : decode y_G_isGood.2.1 79 = .ok (.istore_n 2, 1) := by decide +kernel
theorem d_G_isGood_80 : decode y_G_isGood.2.1 80 = .ok (.iload_n 2, 1) := by decide +kernel
theorem d_G_isGood_81 : decode y_G_isGood.2.1 81 = .ok (.aload_n 1, 1) := by decide +kernel
theorem d_G_isGood_82 : decode y_G_isGood.2.1 82 = .ok (.invokevirtual 29, 3) := by decide +kernel
theorem d_G_isGood_85 : decode y_G_isGood.2.1 85 = .ok (.if_icmp .ge 58, 3) := by decide +kernel
theorem d_G_isGood_88 : decode y_G_isGood.2.1 88 = .ok (.aload_n 0, 1) := by decide +kernel
theorem d_G_isGood_89 : decode y_G_isGood.2.1 89 = .ok (.getfield 57, 3) := by decide +kernel
theorem d_G_isGood_92 : decode y_G_isGood.2.1 92 = .ok (.ifCond .eq 51, 3) := by decide +kernel
theorem d_G_isGood_95 : decode y_G_isGood.2.1 95 = .ok (.aload_n 0, 1) := by decide +kernel
theorem d_G_isGood_96 : decode y_G_isGood.2.1 96 = .ok (.iload_n 2, 1) := by decide +kernel
theorem d_G_isGood_97 : decode y_G_isGood.2.1 97 = .ok (.iload_n 2, 1) := by decide +kernel
theorem d_G_isGood_98 : decode y_G_isGood.2.1 98 = .ok (.ifCond .eq 16, 3) := by decide +kernel
theorem d_G_isGood_101 : decode y_G_isGood.2.1 101 = .ok (.aload_n 1, 1) := by decide +kernel
theorem d_G_isGood_102 : decode y_G_isGood.2.1 102 = .ok (.iload_n 2, 1) := by decide +kernel
theorem d_G_isGood_103 : decode y_G_isGood.2.1 103 = .ok (.iconst 1, 1) := by decide +kernel
theorem d_G_isGood_104 : decode y_G_isGood.2.1 104 = .ok (.isub, 1) := by decide +kernel
theorem d_G_isGood_105 : decode y_G_isGood.2.1 105 = .ok (.invokevirtual 35, 3) := by decide +kernel
theorem d_G_isGood_108 : decode y_G_isGood.2.1 108 = .ok (.invokestatic 39, 3) := by decide +kernel
theorem d_G_isGood_111 : decode y_G_isGood.2.1 111 = .ok (.ifCond .ne 7, 3) := by decide +kernel
theorem d_G_isGood_114 : decode y_G_isGood.2.1 114 = .ok (.iconst 1, 1) := by decide +kernel
theorem d_G_isGood_115 : decode y_G_isGood.2.1 115 = .ok (.goto 4, 3) := by decide +kernel
theorem d_G_isGood_118 : decode y_G_isGood.2.1 118 = .ok (.iconst 0, 1) := by decide +kernel
theorem d_G_isGood_119 : decode y_G_isGood.2.1 119 = .ok (.invokevirtual 68, 3) := by decide +kernel
theorem d_G_isGood_122 : decode y_G_isGood.2.1 122 = .ok (.aload_n 0, 1) := by decide +kernel
theorem d_G_isGood_123 : decode y_G_isGood.2.1 123 = .ok (.aload_n 1, 1) := by decide +kernel
theorem d_G_isGood_124 : decode y_G_isGood.2.1 124 = .ok (.aload_n 1, 1) := by decide +kernel
theorem d_G_isGood_125 : decode y_G_isGood.2.1 125 = .ok (.iload_n 2, 1) := by decide +kernel
theorem d_G_isGood_126 : decode y_G_isGood.2.1 126 = .ok (.invokevirtual 35, 3) := by decide +kernel
theorem d_G_isGood_129 : decode y_G_isGood.2.1 129 = .ok (.aload_n 1, 1) := by decide +kernel
theorem d_G_isGood_130 : decode y_G_isGood.2.1 130 = .ok (.iload_n 2, 1) := by decide +kernel
theorem d_G_isGood_131 : decode y_G_isGood.2.1 131 = .ok (.invokevirtual 72, 3) := by decide +kernel
theorem d_G_isGood_134 : decode y_G_isGood.2.1 134 = .ok (.invokevirtual 75, 3) := by decide +kernel
theorem d_G_isGood_137 : decode y_G_isGood.2.1 137 = .ok (.iinc 2 1, 3) := by decide +kernel
theorem d_G_isGood_140 : decode y_G_isGood.2.1 140 = .ok (.goto (-60), 3) := by decide +kernel
theorem d_G_isGood_143 : decode y_G_isGood.2.1 143 = .ok (.aload_n 0, 1) := by decide +kernel
theorem d_G_isGood_144 : decode y_G_isGood.2.1 144 = .ok (.getfield 57, 3) := by decide +kernel
theorem d_G_isGood_147 : decode y_G_isGood.2.1 147 = .ok (.ireturn, 1) := by decide +kernel
theorem d_C_size_0 : decode y_C_size.2.1 0 = .ok (.aload_n 0, 1) := by decide +kernel
theorem d_C_size_1 : decode y_C_size.2.1 1 = .ok (.getfield 40, 3) := by decide +kernel
theorem d_C_size_4 : decode y_C_size.2.1 4 = .ok (.ireturn, 1) := by decide +kernel
theorem d_C_op_0 : decode y_C_op.2.1 0 = .ok (.iload_n 1, 1) := by decide +kernel
theorem d_C_op_1 : decode y_C_op.2.1 1 = .ok (.ifCond .lt 20, 3) := by decide +kernel
theorem d_C_op_4 : decode y_C_op.2.1 4 = .ok (.iload_n 1, 1) := by decide +kernel
theorem d_C_op_5 : decode y_C_op.2.1 5 = .ok (.aload_n 0, 1) := by decide +kernel
theorem d_C_op_6 : decode y_C_op.2.1 6 = .ok (.getfield 40, 3) := by decide +kernel
theorem d_C_op_9 : decode y_C_op.2.1 9 = .ok (.if_icmp .ge 12, 3) := by decide +kernel
theorem d_C_op_12 : decode y_C_op.2.1 12 = .ok (.aload_n 0, 1) := by decide +kernel
theorem d_C_op_13 : decode y_C_op.2.1 13 = .ok (.getfield 15, 3) := by decide +kernel
theorem d_C_op_16 : decode y_C_op.2.1 16 = .ok (.iload_n 1, 1) := by decide +kernel
theorem d_C_op_17 : decode y_C_op.2.1 17 = .ok (.iaload, 1) := by decide +kernel
theorem d_C_op_18 : decode y_C_op.2.1 18 = .ok (.goto 4, 3) := by decide +kernel
theorem d_C_op_21 : decode y_C_op.2.1 21 = .ok (.iconst (-1), 1) := by decide +kernel
theorem d_C_op_22 : decode y_C_op.2.1 22 = .ok (.ireturn, 1) := by decide +kernel
theorem d_J_isLast_0 : decode y_J_isLast.2.1 0 = .ok (.iload_n 0, 1) := by decide +kernel
theorem d_J_isLast_1 : decode y_J_isLast.2.1 1 = .ok (.bipush 11, 2) := by decide +kernel
theorem d_J_isLast_3 : decode y_J_isLast.2.1 3 = .ok (.if_icmp .eq 15, 3) := by decide +kernel
theorem d_J_isLast_6 : decode y_J_isLast.2.1 6 = .ok (.iload_n 0, 1) := by decide +kernel
theorem d_J_isLast_7 : decode y_J_isLast.2.1 7 = .ok (.bipush 19, 2) := by decide +kernel
theorem d_J_isLast_9 : decode y_J_isLast.2.1 9 = .ok (.if_icmp .eq 9, 3) := by decide +kernel
theorem d_J_isLast_12 : decode y_J_isLast.2.1 12 = .ok (.iload_n 0, 1) := by decide +kernel
theorem d_J_isLast_13 : decode y_J_isLast.2.1 13 = .ok (.bipush 22, 2) := by decide +kernel
theorem d_J_isLast_15 : decode y_J_isLast.2.1 15 = .ok (.if_icmp .ne 7, 3) := by decide +kernel
theorem d_J_isLast_18 : decode y_J_isLast.2.1 18 = .ok (.iconst 1, 1) := by decide +kernel
theorem d_J_isLast_19 : decode y_J_isLast.2.1 19 = .ok (.goto 4, 3) := by decide +kernel
theorem d_J_isLast_22 : decode y_J_isLast.2.1 22 = .ok (.iconst 0, 1) := by decide +kernel
theorem d_J_isLast_23 : decode y_J_isLast.2.1 23 = .ok (.ireturn, 1) := by decide +kernel
theorem d_C_localCount_0 : decode y_C_localCount.2.1 0 = .ok (.aload_n 0, 1) := by decide +kernel
theorem d_C_localCount_1 : decode y_C_localCount.2.1 1 = .ok (.getfield 37, 3) := by decide +kernel
theorem d_C_localCount_4 : decode y_C_localCount.2.1 4 = .ok (.ireturn, 1) := by decide +kernel
theorem d_G_namesJumpPlaces_0 : decode y_G_namesJumpPlaces.2.1 0 = .ok (.iconst 0, 1) := by decide +kernel
theorem d_G_namesJumpPlaces_1 : decode y_G_namesJumpPlaces.2.1 1 = .ok (.istore_n 2, 1) := by decide +kernel
theorem d_G_namesJumpPlaces_2 : decode y_G_namesJumpPlaces.2.1 2 = .ok (.iload_n 2, 1) := by decide +kernel
theorem d_G_namesJumpPlaces_3 : decode y_G_namesJumpPlaces.2.1 3 = .ok (.aload_n 1, 1) := by decide +kernel
theorem d_G_namesJumpPlaces_4 : decode y_G_namesJumpPlaces.2.1 4 = .ok (.invokevirtual 29, 3) := by decide +kernel
theorem d_G_namesJumpPlaces_7 : decode y_G_namesJumpPlaces.2.1 7 = .ok (.if_icmp .ge 34, 3) := by decide +kernel
theorem d_G_namesJumpPlaces_10 : decode y_G_namesJumpPlaces.2.1 10 = .ok (.aload_n 1, 1) := by decide +kernel
theorem d_G_namesJumpPlaces_11 : decode y_G_namesJumpPlaces.2.1 11 = .ok (.iload_n 2, 1) := by decide +kernel
theorem d_G_namesJumpPlaces_12 : decode y_G_namesJumpPlaces.2.1 12 = .ok (.invokevirtual 35, 3) := by decide +kernel
theorem d_G_namesJumpPlaces_15 : decode y_G_namesJumpPlaces.2.1 15 = .ok (.invokestatic 100, 3) := by decide +kernel
theorem d_G_namesJumpPlaces_18 : decode y_G_namesJumpPlaces.2.1 18 = .ok (.ifCond .eq 17, 3) := by decide +kernel
theorem d_G_namesJumpPlaces_21 : decode y_G_namesJumpPlaces.2.1 21 = .ok (.aload_n 1, 1) := by decide +kernel
theorem d_G_namesJumpPlaces_22 : decode y_G_namesJumpPlaces.2.1 22 = .ok (.aload_n 1, 1) := by decide +kernel
theorem d_G_namesJumpPlaces_23 : decode y_G_namesJumpPlaces.2.1 23 = .ok (.iload_n 2, 1) := by decide +kernel
theorem d_G_namesJumpPlaces_24 : decode y_G_namesJumpPlaces.2.1 24 = .ok (.invokevirtual 72, 3) := by decide +kernel
theorem d_G_namesJumpPlaces_27 : decode y_G_namesJumpPlaces.2.1 27 = .ok (.invokevirtual 103, 3) := by decide +kernel
theorem d_G_namesJumpPlaces_30 : decode y_G_namesJumpPlaces.2.1 30 = .ok (.ifCond .ne 5, 3) := by decide +kernel
theorem d_G_namesJumpPlaces_33 : decode y_G_namesJumpPlaces.2.1 33 = .ok (.iconst 0, 1) := by decide +kernel
theorem d_G_namesJumpPlaces_34 : decode y_G_namesJumpPlaces.2.1 34 = .ok (.ireturn, 1) := by decide +kernel
theorem d_G_namesJumpPlaces_35 : decode y_G_namesJumpPlaces.2.1 35 = .ok (.iinc 2 1, 3) := by decide +kernel
theorem d_G_namesJumpPlaces_38 : decode y_G_namesJumpPlaces.2.1 38 = .ok (.goto (-36), 3) := by decide +kernel
theorem d_G_namesJumpPlaces_41 : decode y_G_namesJumpPlaces.2.1 41 = .ok (.iconst 1, 1) := by decide +kernel
theorem d_G_namesJumpPlaces_42 : decode y_G_namesJumpPlaces.2.1 42 = .ok (.ireturn, 1) := by decide +kernel
theorem d_J_isJump_0 : decode y_J_isJump.2.1 0 = .ok (.iload_n 0, 1) := by decide +kernel
theorem d_J_isJump_1 : decode y_J_isJump.2.1 1 = .ok (.bipush 11, 2) := by decide +kernel
theorem d_J_isJump_3 : decode y_J_isJump.2.1 3 = .ok (.if_icmp .eq 15, 3) := by decide +kernel
theorem d_J_isJump_6 : decode y_J_isJump.2.1 6 = .ok (.iload_n 0, 1) := by decide +kernel
theorem d_J_isJump_7 : decode y_J_isJump.2.1 7 = .ok (.bipush 12, 2) := by decide +kernel
theorem d_J_isJump_9 : decode y_J_isJump.2.1 9 = .ok (.if_icmp .eq 9, 3) := by decide +kernel
theorem d_J_isJump_12 : decode y_J_isJump.2.1 12 = .ok (.iload_n 0, 1) := by decide +kernel
theorem d_J_isJump_13 : decode y_J_isJump.2.1 13 = .ok (.bipush 13, 2) := by decide +kernel
theorem d_J_isJump_15 : decode y_J_isJump.2.1 15 = .ok (.if_icmp .ne 7, 3) := by decide +kernel
theorem d_J_isJump_18 : decode y_J_isJump.2.1 18 = .ok (.iconst 1, 1) := by decide +kernel
theorem d_J_isJump_19 : decode y_J_isJump.2.1 19 = .ok (.goto 4, 3) := by decide +kernel
theorem d_J_isJump_22 : decode y_J_isJump.2.1 22 = .ok (.iconst 0, 1) := by decide +kernel
theorem d_J_isJump_23 : decode y_J_isJump.2.1 23 = .ok (.ireturn, 1) := by decide +kernel
theorem d_C_operand_0 : decode y_C_operand.2.1 0 = .ok (.iload_n 1, 1) := by decide +kernel
theorem d_C_operand_1 : decode y_C_operand.2.1 1 = .ok (.ifCond .lt 20, 3) := by decide +kernel
theorem d_C_operand_4 : decode y_C_operand.2.1 4 = .ok (.iload_n 1, 1) := by decide +kernel
theorem d_C_operand_5 : decode y_C_operand.2.1 5 = .ok (.aload_n 0, 1) := by decide +kernel
theorem d_C_operand_6 : decode y_C_operand.2.1 6 = .ok (.getfield 40, 3) := by decide +kernel
theorem d_C_operand_9 : decode y_C_operand.2.1 9 = .ok (.if_icmp .ge 12, 3) := by decide +kernel
theorem d_C_operand_12 : decode y_C_operand.2.1 12 = .ok (.aload_n 0, 1) := by decide +kernel
theorem d_C_operand_13 : decode y_C_operand.2.1 13 = .ok (.getfield 18, 3) := by decide +kernel
theorem d_C_operand_16 : decode y_C_operand.2.1 16 = .ok (.iload_n 1, 1) := by decide +kernel
theorem d_C_operand_17 : decode y_C_operand.2.1 17 = .ok (.iaload, 1) := by decide +kernel
theorem d_C_operand_18 : decode y_C_operand.2.1 18 = .ok (.goto 4, 3) := by decide +kernel
theorem d_C_operand_21 : decode y_C_operand.2.1 21 = .ok (.iconst 0, 1) := by decide +kernel
theorem d_C_operand_22 : decode y_C_operand.2.1 22 = .ok (.ireturn, 1) := by decide +kernel
theorem d_C_hasInstruction_0 : decode y_C_hasInstruction.2.1 0 = .ok (.iload_n 1, 1) := by decide +kernel
theorem d_C_hasInstruction_1 : decode y_C_hasInstruction.2.1 1 = .ok (.ifCond .lt 15, 3) := by decide +kernel
theorem d_C_hasInstruction_4 : decode y_C_hasInstruction.2.1 4 = .ok (.iload_n 1, 1) := by decide +kernel
theorem d_C_hasInstruction_5 : decode y_C_hasInstruction.2.1 5 = .ok (.aload_n 0, 1) := by decide +kernel
theorem d_C_hasInstruction_6 : decode y_C_hasInstruction.2.1 6 = .ok (.getfield 40, 3) := by decide +kernel
theorem d_C_hasInstruction_9 : decode y_C_hasInstruction.2.1 9 = .ok (.if_icmp .ge 7, 3) := by decide +kernel
theorem d_C_hasInstruction_12 : decode y_C_hasInstruction.2.1 12 = .ok (.iconst 1, 1) := by decide +kernel
theorem d_C_hasInstruction_13 : decode y_C_hasInstruction.2.1 13 = .ok (.goto 4, 3) := by decide +kernel
theorem d_C_hasInstruction_16 : decode y_C_hasInstruction.2.1 16 = .ok (.iconst 0, 1) := by decide +kernel
theorem d_C_hasInstruction_17 : decode y_C_hasInstruction.2.1 17 = .ok (.ireturn, 1) := by decide +kernel
theorem d_G_namesRowPlaces_0 : decode y_G_namesRowPlaces.2.1 0 = .ok (.iconst 0, 1) := by decide +kernel
theorem d_G_namesRowPlaces_1 : decode y_G_namesRowPlaces.2.1 1 = .ok (.istore_n 2, 1) := by decide +kernel
theorem d_G_namesRowPlaces_2 : decode y_G_namesRowPlaces.2.1 2 = .ok (.iload_n 2, 1) := by decide +kernel
theorem d_G_namesRowPlaces_3 : decode y_G_namesRowPlaces.2.1 3 = .ok (.aload_n 1, 1) := by decide +kernel
theorem d_G_namesRowPlaces_4 : decode y_G_namesRowPlaces.2.1 4 = .ok (.invokevirtual 106, 3) := by decide +kernel
theorem d_G_namesRowPlaces_7 : decode y_G_namesRowPlaces.2.1 7 = .ok (.if_icmp .ge 54, 3) := by decide +kernel
theorem d_G_namesRowPlaces_10 : decode y_G_namesRowPlaces.2.1 10 = .ok (.aload_n 1, 1) := by decide +kernel
theorem d_G_namesRowPlaces_11 : decode y_G_namesRowPlaces.2.1 11 = .ok (.iload_n 2, 1) := by decide +kernel
theorem d_G_namesRowPlaces_12 : decode y_G_namesRowPlaces.2.1 12 = .ok (.invokevirtual 109, 3) := by decide +kernel
theorem d_G_namesRowPlaces_15 : decode y_G_namesRowPlaces.2.1 15 = .ok (.astore_n 3, 1) := by decide +kernel
theorem d_G_namesRowPlaces_16 : decode y_G_namesRowPlaces.2.1 16 = .ok (.aload_n 3, 1) := by decide +kernel
theorem d_G_namesRowPlaces_17 : decode y_G_namesRowPlaces.2.1 17 = .ok (.ifnull 36, 3) := by decide +kernel
theorem d_G_namesRowPlaces_20 : decode y_G_namesRowPlaces.2.1 20 = .ok (.aload_n 3, 1) := by decide +kernel
theorem d_G_namesRowPlaces_21 : decode y_G_namesRowPlaces.2.1 21 = .ok (.getfield 113, 3) := by decide +kernel
theorem d_G_namesRowPlaces_24 : decode y_G_namesRowPlaces.2.1 24 = .ok (.aload_n 3, 1) := by decide +kernel
theorem d_G_namesRowPlaces_25 : decode y_G_namesRowPlaces.2.1 25 = .ok (.getfield 118, 3) := by decide +kernel
theorem d_G_namesRowPlaces_28 : decode y_G_namesRowPlaces.2.1 28 = .ok (.if_icmp .ge 25, 3) := by decide +kernel
theorem d_G_namesRowPlaces_31 : decode y_G_namesRowPlaces.2.1 31 = .ok (.aload_n 3, 1) := by decide +kernel
theorem d_G_namesRowPlaces_32 : decode y_G_namesRowPlaces.2.1 32 = .ok (.getfield 118, 3) := by decide +kernel
theorem d_G_namesRowPlaces_35 : decode y_G_namesRowPlaces.2.1 35 = .ok (.aload_n 1, 1) := by decide +kernel
theorem d_G_namesRowPlaces_36 : decode y_G_namesRowPlaces.2.1 36 = .ok (.invokevirtual 29, 3) := by decide +kernel
theorem d_G_namesRowPlaces_39 : decode y_G_namesRowPlaces.2.1 39 = .ok (.if_icmp .gt 14, 3) := by decide +kernel
theorem d_G_namesRowPlaces_42 : decode y_G_namesRowPlaces.2.1 42 = .ok (.aload_n 1, 1) := by decide +kernel
theorem d_G_namesRowPlaces_43 : decode y_G_namesRowPlaces.2.1 43 = .ok (.aload_n 3, 1) := by decide +kernel
theorem d_G_namesRowPlaces_44 : decode y_G_namesRowPlaces.2.1 44 = .ok (.getfield 121, 3) := by decide +kernel
theorem d_G_namesRowPlaces_47 : decode y_G_namesRowPlaces.2.1 47 = .ok (.invokevirtual 103, 3) := by decide +kernel
theorem d_G_namesRowPlaces_50 : decode y_G_namesRowPlaces.2.1 50 = .ok (.ifCond .ne 5, 3) := by decide +kernel
theorem d_G_namesRowPlaces_53 : decode y_G_namesRowPlaces.2.1 53 = .ok (.iconst 0, 1) := by decide +kernel
theorem d_G_namesRowPlaces_54 : decode y_G_namesRowPlaces.2.1 54 = .ok (.ireturn, 1) := by decide +kernel
theorem d_G_namesRowPlaces_55 : decode y_G_namesRowPlaces.2.1 55 = .ok (.iinc 2 1, 3) := by decide +kernel
theorem d_G_namesRowPlaces_58 : decode y_G_namesRowPlaces.2.1 58 = .ok (.goto (-56), 3) := by decide +kernel
theorem d_G_namesRowPlaces_61 : decode y_G_namesRowPlaces.2.1 61 = .ok (.iconst 1, 1) := by decide +kernel
theorem d_G_namesRowPlaces_62 : decode y_G_namesRowPlaces.2.1 62 = .ok (.ireturn, 1) := by decide +kernel
theorem d_C_rowCount_0 : decode y_C_rowCount.2.1 0 = .ok (.aload_n 0, 1) := by decide +kernel
theorem d_C_rowCount_1 : decode y_C_rowCount.2.1 1 = .ok (.getfield 43, 3) := by decide +kernel
theorem d_C_rowCount_4 : decode y_C_rowCount.2.1 4 = .ok (.ireturn, 1) := by decide +kernel
theorem d_C_rowAt_0 : decode y_C_rowAt.2.1 0 = .ok (.iload_n 1, 1) := by decide +kernel
theorem d_C_rowAt_1 : decode y_C_rowAt.2.1 1 = .ok (.ifCond .lt 20, 3) := by decide +kernel
theorem d_C_rowAt_4 : decode y_C_rowAt.2.1 4 = .ok (.iload_n 1, 1) := by decide +kernel
theorem d_C_rowAt_5 : decode y_C_rowAt.2.1 5 = .ok (.aload_n 0, 1) := by decide +kernel
theorem d_C_rowAt_6 : decode y_C_rowAt.2.1 6 = .ok (.getfield 43, 3) := by decide +kernel
theorem d_C_rowAt_9 : decode y_C_rowAt.2.1 9 = .ok (.if_icmp .ge 12, 3) := by decide +kernel
theorem d_C_rowAt_12 : decode y_C_rowAt.2.1 12 = .ok (.aload_n 0, 1) := by decide +kernel
theorem d_C_rowAt_13 : decode y_C_rowAt.2.1 13 = .ok (.getfield 23, 3) := by decide +kernel
theorem d_C_rowAt_16 : decode y_C_rowAt.2.1 16 = .ok (.iload_n 1, 1) := by decide +kernel
theorem d_C_rowAt_17 : decode y_C_rowAt.2.1 17 = .ok (.aaload, 1) := by decide +kernel
theorem d_C_rowAt_18 : decode y_C_rowAt.2.1 18 = .ok (.goto 4, 3) := by decide +kernel
theorem d_C_rowAt_21 : decode y_C_rowAt.2.1 21 = .ok (.aconst_null, 1) := by decide +kernel
theorem d_C_rowAt_22 : decode y_C_rowAt.2.1 22 = .ok (.areturn, 1) := by decide +kernel
theorem d_G_markPlaces_0 : decode y_G_markPlaces.2.1 0 = .ok (.iconst 0, 1) := by decide +kernel
theorem d_G_markPlaces_1 : decode y_G_markPlaces.2.1 1 = .ok (.istore_n 2, 1) := by decide +kernel
theorem d_G_markPlaces_2 : decode y_G_markPlaces.2.1 2 = .ok (.iload_n 2, 1) := by decide +kernel
theorem d_G_markPlaces_3 : decode y_G_markPlaces.2.1 3 = .ok (.bipush 60, 2) := by decide +kernel
theorem d_G_markPlaces_5 : decode y_G_markPlaces.2.1 5 = .ok (.if_icmp .gt 16, 3) := by decide +kernel
theorem d_G_markPlaces_8 : decode y_G_markPlaces.2.1 8 = .ok (.aload_n 0, 1) := by decide +kernel
theorem d_G_markPlaces_9 : decode y_G_markPlaces.2.1 9 = .ok (.getfield 9, 3) := by decide +kernel
theorem d_G_markPlaces_12 : decode y_G_markPlaces.2.1 12 = .ok (.iload_n 2, 1) := by decide +kernel
theorem d_G_markPlaces_13 : decode y_G_markPlaces.2.1 13 = .ok (.iconst 0, 1) := by decide +kernel
theorem d_G_markPlaces_14 : decode y_G_markPlaces.2.1 14 = .ok (.iastore, 1) := by decide +kernel
theorem d_G_markPlaces_15 : decode y_G_markPlaces.2.1 15 = .ok (.iinc 2 1, 3) := by decide +kernel
theorem d_G_markPlaces_18 : decode y_G_markPlaces.2.1 18 = .ok (.goto (-16), 3) := by decide +kernel
theorem d_G_markPlaces_21 : decode y_G_markPlaces.2.1 21 = .ok (.iconst 0, 1) := by decide +kernel
theorem d_G_markPlaces_22 : decode y_G_markPlaces.2.1 22 = .ok (.istore_n 2, 1) := by decide +kernel
theorem d_G_markPlaces_23 : decode y_G_markPlaces.2.1 23 = .ok (.iload_n 2, 1) := by decide +kernel
theorem d_G_markPlaces_24 : decode y_G_markPlaces.2.1 24 = .ok (.aload_n 1, 1) := by decide +kernel
theorem d_G_markPlaces_25 : decode y_G_markPlaces.2.1 25 = .ok (.invokevirtual 29, 3) := by decide +kernel
theorem d_G_markPlaces_28 : decode y_G_markPlaces.2.1 28 = .ok (.if_icmp .ge 30, 3) := by decide +kernel
theorem d_G_markPlaces_31 : decode y_G_markPlaces.2.1 31 = .ok (.aload_n 1, 1) := by decide +kernel
theorem d_G_markPlaces_32 : decode y_G_markPlaces.2.1 32 = .ok (.iload_n 2, 1) := by decide +kernel
theorem d_G_markPlaces_33 : decode y_G_markPlaces.2.1 33 = .ok (.invokevirtual 35, 3) := by decide +kernel
theorem d_G_markPlaces_36 : decode y_G_markPlaces.2.1 36 = .ok (.invokestatic 100, 3) := by decide +kernel
theorem d_G_markPlaces_39 : decode y_G_markPlaces.2.1 39 = .ok (.ifCond .eq 13, 3) := by decide +kernel
theorem d_G_markPlaces_42 : decode y_G_markPlaces.2.1 42 = .ok (.aload_n 0, 1) := by decide +kernel
theorem d_G_markPlaces_43 : decode y_G_markPlaces.2.1 43 = .ok (.aload_n 1, 1) := by decide +kernel
theorem d_G_markPlaces_44 : decode y_G_markPlaces.2.1 44 = .ok (.iload_n 2, 1) := by decide +kernel
theorem d_G_markPlaces_45 : decode y_G_markPlaces.2.1 45 = .ok (.invokevirtual 72, 3) := by decide +kernel
theorem d_G_markPlaces_48 : decode y_G_markPlaces.2.1 48 = .ok (.iconst 1, 1) := by decide +kernel
theorem d_G_markPlaces_49 : decode y_G_markPlaces.2.1 49 = .ok (.invokevirtual 124, 3) := by decide +kernel
theorem d_G_markPlaces_52 : decode y_G_markPlaces.2.1 52 = .ok (.iinc 2 1, 3) := by decide +kernel
theorem d_G_markPlaces_55 : decode y_G_markPlaces.2.1 55 = .ok (.goto (-32), 3) := by decide +kernel
theorem d_G_markPlaces_58 : decode y_G_markPlaces.2.1 58 = .ok (.iconst 0, 1) := by decide +kernel
theorem d_G_markPlaces_59 : decode y_G_markPlaces.2.1 59 = .ok (.istore_n 2, 1) := by decide +kernel
theorem d_G_markPlaces_60 : decode y_G_markPlaces.2.1 60 = .ok (.iload_n 2, 1) := by decide +kernel
theorem d_G_markPlaces_61 : decode y_G_markPlaces.2.1 61 = .ok (.aload_n 1, 1) := by decide +kernel
theorem d_G_markPlaces_62 : decode y_G_markPlaces.2.1 62 = .ok (.invokevirtual 106, 3) := by decide +kernel
theorem d_G_markPlaces_65 : decode y_G_markPlaces.2.1 65 = .ok (.if_icmp .ge 46, 3) := by decide +kernel
theorem d_G_markPlaces_68 : decode y_G_markPlaces.2.1 68 = .ok (.aload_n 1, 1) := by decide +kernel
theorem d_G_markPlaces_69 : decode y_G_markPlaces.2.1 69 = .ok (.iload_n 2, 1) := by decide +kernel
theorem d_G_markPlaces_70 : decode y_G_markPlaces.2.1 70 = .ok (.invokevirtual 109, 3) := by decide +kernel
theorem d_G_markPlaces_73 : decode y_G_markPlaces.2.1 73 = .ok (.astore_n 3, 1) := by decide +kernel
theorem d_G_markPlaces_74 : decode y_G_markPlaces.2.1 74 = .ok (.aload_n 3, 1) := by decide +kernel
theorem d_G_markPlaces_75 : decode y_G_markPlaces.2.1 75 = .ok (.ifnull 30, 3) := by decide +kernel
theorem d_G_markPlaces_78 : decode y_G_markPlaces.2.1 78 = .ok (.aload_n 0, 1) := by decide +kernel
theorem d_G_markPlaces_79 : decode y_G_markPlaces.2.1 79 = .ok (.aload_n 3, 1) := by decide +kernel
theorem d_G_markPlaces_80 : decode y_G_markPlaces.2.1 80 = .ok (.getfield 113, 3) := by decide +kernel
theorem d_G_markPlaces_83 : decode y_G_markPlaces.2.1 83 = .ok (.iconst 1, 1) := by decide +kernel
theorem d_G_markPlaces_84 : decode y_G_markPlaces.2.1 84 = .ok (.invokevirtual 124, 3) := by decide +kernel
theorem d_G_markPlaces_87 : decode y_G_markPlaces.2.1 87 = .ok (.aload_n 0, 1) := by decide +kernel
theorem d_G_markPlaces_88 : decode y_G_markPlaces.2.1 88 = .ok (.aload_n 3, 1) := by decide +kernel
theorem d_G_markPlaces_89 : decode y_G_markPlaces.2.1 89 = .ok (.getfield 118, 3) := by decide +kernel
theorem d_G_markPlaces_92 : decode y_G_markPlaces.2.1 92 = .ok (.iconst 1, 1) := by decide +kernel
theorem d_G_markPlaces_93 : decode y_G_markPlaces.2.1 93 = .ok (.invokevirtual 124, 3) := by decide +kernel
theorem d_G_markPlaces_96 : decode y_G_markPlaces.2.1 96 = .ok (.aload_n 0, 1) := by decide +kernel
theorem d_G_markPlaces_97 : decode y_G_markPlaces.2.1 97 = .ok (.aload_n 3, 1) := by decide +kernel
theorem d_G_markPlaces_98 : decode y_G_markPlaces.2.1 98 = .ok (.getfield 121, 3) := by decide +kernel
theorem d_G_markPlaces_101 : decode y_G_markPlaces.2.1 101 = .ok (.iconst 2, 1) := by decide +kernel
theorem d_G_markPlaces_102 : decode y_G_markPlaces.2.1 102 = .ok (.invokevirtual 124, 3) := by decide +kernel
theorem d_G_markPlaces_105 : decode y_G_markPlaces.2.1 105 = .ok (.iinc 2 1, 3) := by decide +kernel
theorem d_G_markPlaces_108 : decode y_G_markPlaces.2.1 108 = .ok (.goto (-48), 3) := by decide +kernel
theorem d_G_markPlaces_111 : decode y_G_markPlaces.2.1 111 = .ok (.return_, 1) := by decide +kernel
theorem d_G_mark_0 : decode y_G_mark.2.1 0 = .ok (.iload_n 1, 1) := by decide +kernel
theorem d_G_mark_1 : decode y_G_mark.2.1 1 = .ok (.ifCond .lt 25, 3) := by decide +kernel
theorem d_G_mark_4 : decode y_G_mark.2.1 4 = .ok (.iload_n 1, 1) := by decide +kernel
theorem d_G_mark_5 : decode y_G_mark.2.1 5 = .ok (.bipush 60, 2) := by decide +kernel
theorem d_G_mark_7 : decode y_G_mark.2.1 7 = .ok (.if_icmp .gt 19, 3) := by decide +kernel
theorem d_G_mark_10 : decode y_G_mark.2.1 10 = .ok (.aload_n 0, 1) := by decide +kernel
theorem d_G_mark_11 : decode y_G_mark.2.1 11 = .ok (.getfield 9, 3) := by decide +kernel
theorem d_G_mark_14 : decode y_G_mark.2.1 14 = .ok (.iload_n 1, 1) := by decide +kernel
theorem d_G_mark_15 : decode y_G_mark.2.1 15 = .ok (.aload_n 0, 1) := by decide +kernel
theorem d_G_mark_16 : decode y_G_mark.2.1 16 = .ok (.getfield 9, 3) := by decide +kernel
theorem d_G_mark_19 : decode y_G_mark.2.1 19 = .ok (.iload_n 1, 1) := by decide +kernel
theorem d_G_mark_20 : decode y_G_mark.2.1 20 = .ok (.iaload, 1) := by decide +kernel
theorem d_G_mark_21 : decode y_G_mark.2.1 21 = .ok (.iload_n 2, 1) := by decide +kernel
theorem d_G_mark_22 : decode y_G_mark.2.1 22 = .ok (.invokestatic 128, 3) := by decide +kernel
theorem d_G_mark_25 : decode y_G_mark.2.1 25 = .ok (.iastore, 1) := by decide +kernel
theorem d_G_mark_26 : decode y_G_mark.2.1 26 = .ok (.return_, 1) := by decide +kernel
theorem d_G_arrive_0 : decode y_G_arrive.2.1 0 = .ok (.aload_n 0, 1) := by decide +kernel
theorem d_G_arrive_1 : decode y_G_arrive.2.1 1 = .ok (.iload_n 1, 1) := by decide +kernel
theorem d_G_arrive_2 : decode y_G_arrive.2.1 2 = .ok (.invokevirtual 134, 3) := by decide +kernel
theorem d_G_arrive_5 : decode y_G_arrive.2.1 5 = .ok (.istore_n 3, 1) := by decide +kernel
theorem d_G_arrive_6 : decode y_G_arrive.2.1 6 = .ok (.iload_n 2, 1) := by decide +kernel
theorem d_G_arrive_7 : decode y_G_arrive.2.1 7 = .ok (.ifCond .eq 29, 3) := by decide +kernel
theorem d_G_arrive_10 : decode y_G_arrive.2.1 10 = .ok (.aload_n 0, 1) := by decide +kernel
theorem d_G_arrive_11 : decode y_G_arrive.2.1 11 = .ok (.iload_n 3, 1) := by decide +kernel
theorem d_G_arrive_12 : decode y_G_arrive.2.1 12 = .ok (.ifCond .eq 15, 3) := by decide +kernel
theorem d_G_arrive_15 : decode y_G_arrive.2.1 15 = .ok (.iload_n 3, 1) := by decide +kernel
theorem d_G_arrive_16 : decode y_G_arrive.2.1 16 = .ok (.iconst 1, 1) := by decide +kernel
theorem d_G_arrive_17 : decode y_G_arrive.2.1 17 = .ok (.if_icmp .ne 14, 3) := by decide +kernel
theorem d_G_arrive_20 : decode y_G_arrive.2.1 20 = .ok (.aload_n 0, 1) := by decide +kernel
theorem d_G_arrive_21 : decode y_G_arrive.2.1 21 = .ok (.getfield 65, 3) := by decide +kernel
theorem d_G_arrive_24 : decode y_G_arrive.2.1 24 = .ok (.ifCond .ne 7, 3) := by decide +kernel
theorem d_G_arrive_27 : decode y_G_arrive.2.1 27 = .ok (.iconst 1, 1) := by decide +kernel
theorem d_G_arrive_28 : decode y_G_arrive.2.1 28 = .ok (.goto 4, 3) := by decide +kernel
theorem d_G_arrive_31 : decode y_G_arrive.2.1 31 = .ok (.iconst 0, 1) := by decide +kernel
theorem d_G_arrive_32 : decode y_G_arrive.2.1 32 = .ok (.invokevirtual 137, 3) := by decide +kernel
theorem d_G_arrive_35 : decode y_G_arrive.2.1 35 = .ok (.return_, 1) := by decide +kernel
theorem d_G_arrive_36 : decode y_G_arrive.2.1 36 = .ok (.aload_n 0, 1) := by decide +kernel
theorem d_G_arrive_37 : decode y_G_arrive.2.1 37 = .ok (.iload_n 3, 1) := by decide +kernel
theorem d_G_arrive_38 : decode y_G_arrive.2.1 38 = .ok (.ifCond .eq 7, 3) := by decide +kernel
theorem d_G_arrive_41 : decode y_G_arrive.2.1 41 = .ok (.iconst 1, 1) := by decide +kernel
theorem d_G_arrive_42 : decode y_G_arrive.2.1 42 = .ok (.goto 4, 3) := by decide +kernel
theorem d_G_arrive_45 : decode y_G_arrive.2.1 45 = .ok (.iconst 0, 1) := by decide +kernel
theorem d_G_arrive_46 : decode y_G_arrive.2.1 46 = .ok (.invokevirtual 137, 3) := by decide +kernel
theorem d_G_arrive_49 : decode y_G_arrive.2.1 49 = .ok (.aload_n 0, 1) := by decide +kernel
theorem d_G_arrive_50 : decode y_G_arrive.2.1 50 = .ok (.iconst 0, 1) := by decide +kernel
theorem d_G_arrive_51 : decode y_G_arrive.2.1 51 = .ok (.putfield 65, 3) := by decide +kernel
theorem d_G_arrive_54 : decode y_G_arrive.2.1 54 = .ok (.iload_n 3, 1) := by decide +kernel
theorem d_G_arrive_55 : decode y_G_arrive.2.1 55 = .ok (.iconst 2, 1) := by decide +kernel
theorem d_G_arrive_56 : decode y_G_arrive.2.1 56 = .ok (.if_icmp .ne 8, 3) := by decide +kernel
theorem d_G_arrive_59 : decode y_G_arrive.2.1 59 = .ok (.aload_n 0, 1) := by decide +kernel
theorem d_G_arrive_60 : decode y_G_arrive.2.1 60 = .ok (.iconst 2, 1) := by decide +kernel
theorem d_G_arrive_61 : decode y_G_arrive.2.1 61 = .ok (.invokevirtual 141, 3) := by decide +kernel
theorem d_G_arrive_64 : decode y_G_arrive.2.1 64 = .ok (.return_, 1) := by decide +kernel
theorem d_G_markAt_0 : decode y_G_markAt.2.1 0 = .ok (.iload_n 1, 1) := by decide +kernel
theorem d_G_markAt_1 : decode y_G_markAt.2.1 1 = .ok (.ifCond .lt 18, 3) := by decide +kernel
theorem d_G_markAt_4 : decode y_G_markAt.2.1 4 = .ok (.iload_n 1, 1) := by decide +kernel
theorem d_G_markAt_5 : decode y_G_markAt.2.1 5 = .ok (.bipush 60, 2) := by decide +kernel
theorem d_G_markAt_7 : decode y_G_markAt.2.1 7 = .ok (.if_icmp .gt 12, 3) := by decide +kernel
theorem d_G_markAt_10 : decode y_G_markAt.2.1 10 = .ok (.aload_n 0, 1) := by decide +kernel
theorem d_G_markAt_11 : decode y_G_markAt.2.1 11 = .ok (.getfield 9, 3) := by decide +kernel
theorem d_G_markAt_14 : decode y_G_markAt.2.1 14 = .ok (.iload_n 1, 1) := by decide +kernel
theorem d_G_markAt_15 : decode y_G_markAt.2.1 15 = .ok (.iaload, 1) := by decide +kernel
theorem d_G_markAt_16 : decode y_G_markAt.2.1 16 = .ok (.goto 4, 3) := by decide +kernel
theorem d_G_markAt_19 : decode y_G_markAt.2.1 19 = .ok (.iconst 0, 1) := by decide +kernel
theorem d_G_markAt_20 : decode y_G_markAt.2.1 20 = .ok (.ireturn, 1) := by decide +kernel
theorem d_G_demand_0 : decode y_G_demand.2.1 0 = .ok (.aload_n 0, 1) := by decide +kernel
theorem d_G_demand_1 : decode y_G_demand.2.1 1 = .ok (.aload_n 0, 1) := by decide +kernel
theorem d_G_demand_2 : decode y_G_demand.2.1 2 = .ok (.getfield 57, 3) := by decide +kernel
theorem d_G_demand_5 : decode y_G_demand.2.1 5 = .ok (.ifCond .eq 11, 3) := by decide +kernel
theorem d_G_demand_8 : decode y_G_demand.2.1 8 = .ok (.iload_n 1, 1) := by decide +kernel
theorem d_G_demand_9 : decode y_G_demand.2.1 9 = .ok (.ifCond .eq 7, 3) := by decide +kernel
theorem d_G_demand_12 : decode y_G_demand.2.1 12 = .ok (.iconst 1, 1) := by decide +kernel
theorem d_G_demand_13 : decode y_G_demand.2.1 13 = .ok (.goto 4, 3) := by decide +kernel
theorem d_G_demand_16 : decode y_G_demand.2.1 16 = .ok (.iconst 0, 1) := by decide +kernel
theorem d_G_demand_17 : decode y_G_demand.2.1 17 = .ok (.putfield 57, 3) := by decide +kernel
theorem d_G_demand_20 : decode y_G_demand.2.1 20 = .ok (.return_, 1) := by decide +kernel
theorem d_G_give_0 : decode y_G_give.2.1 0 = .ok (.iload_n 1, 1) := by decide +kernel
theorem d_G_give_1 : decode y_G_give.2.1 1 = .ok (.ifCond .eq 19, 3) := by decide +kernel
theorem d_G_give_4 : decode y_G_give.2.1 4 = .ok (.aload_n 0, 1) := by decide +kernel
theorem d_G_give_5 : decode y_G_give.2.1 5 = .ok (.getfield 65, 3) := by decide +kernel
theorem d_G_give_8 : decode y_G_give.2.1 8 = .ok (.ifCond .lt 12, 3) := by decide +kernel
theorem d_G_give_11 : decode y_G_give.2.1 11 = .ok (.aload_n 0, 1) := by decide +kernel
theorem d_G_give_12 : decode y_G_give.2.1 12 = .ok (.getfield 65, 3) := by decide +kernel
theorem d_G_give_15 : decode y_G_give.2.1 15 = .ok (.bipush 12, 2) := by decide +kernel
theorem d_G_give_17 : decode y_G_give.2.1 17 = .ok (.if_icmp .lt 9, 3) := by decide +kernel
theorem d_G_give_20 : decode y_G_give.2.1 20 = .ok (.aload_n 0, 1) := by decide +kernel
theorem d_G_give_21 : decode y_G_give.2.1 21 = .ok (.iconst 0, 1) := by decide +kernel
theorem d_G_give_22 : decode y_G_give.2.1 22 = .ok (.invokevirtual 137, 3) := by decide +kernel
theorem d_G_give_25 : decode y_G_give.2.1 25 = .ok (.return_, 1) := by decide +kernel
theorem d_G_give_26 : decode y_G_give.2.1 26 = .ok (.aload_n 0, 1) := by decide +kernel
theorem d_G_give_27 : decode y_G_give.2.1 27 = .ok (.getfield 15, 3) := by decide +kernel
theorem d_G_give_30 : decode y_G_give.2.1 30 = .ok (.aload_n 0, 1) := by decide +kernel
theorem d_G_give_31 : decode y_G_give.2.1 31 = .ok (.getfield 65, 3) := by decide +kernel
theorem d_G_give_34 : decode y_G_give.2.1 34 = .ok (.iload_n 1, 1) := by decide +kernel
theorem d_G_give_35 : decode y_G_give.2.1 35 = .ok (.iastore, 1) := by decide +kernel
theorem d_G_give_36 : decode y_G_give.2.1 36 = .ok (.aload_n 0, 1) := by decide +kernel
theorem d_G_give_37 : decode y_G_give.2.1 37 = .ok (.dup, 1) := by decide +kernel
theorem d_G_give_38 : decode y_G_give.2.1 38 = .ok (.getfield 65, 3) := by decide +kernel
theorem d_G_give_41 : decode y_G_give.2.1 41 = .ok (.iconst 1, 1) := by decide +kernel
theorem d_G_give_42 : decode y_G_give.2.1 42 = .ok (.iadd, 1) := by decide +kernel
theorem d_G_give_43 : decode y_G_give.2.1 43 = .ok (.putfield 65, 3) := by decide +kernel
theorem d_G_give_46 : decode y_G_give.2.1 46 = .ok (.return_, 1) := by decide +kernel
theorem d_G_follow_0 : decode y_G_follow.2.1 0 = .ok (.iload_n 2, 1) := by decide +kernel
theorem d_G_follow_1 : decode y_G_follow.2.1 1 = .ok (.tableswitch 276 0 26 #[123, 131, 139, 150, 161, 161, 161, 161, 161, 179, 191, 203, 211, 224, 131, 245, 245, 245, 253, 237, 237, 237, 268, 245, 245, 131, 237], 123) := by decide +kernel
theorem d_G_follow_124 : decode y_G_follow.2.1 124 = .ok (.aload_n 0, 1) := by decide +kernel
theorem d_G_follow_125 : decode y_G_follow.2.1 125 = .ok (.iconst 1, 1) := by decide +kernel
theorem d_G_follow_126 : decode y_G_follow.2.1 126 = .ok (.invokevirtual 141, 3) := by decide +kernel
theorem d_G_follow_129 : decode y_G_follow.2.1 129 = .ok (.goto 153, 3) := by decide +kernel
theorem d_G_follow_132 : decode y_G_follow.2.1 132 = .ok (.aload_n 0, 1) := by decide +kernel
theorem d_G_follow_133 : decode y_G_follow.2.1 133 = .ok (.iconst 2, 1) := by decide +kernel
theorem d_G_follow_134 : decode y_G_follow.2.1 134 = .ok (.invokevirtual 141, 3) := by decide +kernel
theorem d_G_follow_137 : decode y_G_follow.2.1 137 = .ok (.goto 145, 3) := by decide +kernel
theorem d_G_follow_140 : decode y_G_follow.2.1 140 = .ok (.aload_n 0, 1) := by decide +kernel
theorem d_G_follow_141 : decode y_G_follow.2.1 141 = .ok (.aload_n 0, 1) := by decide +kernel
theorem d_G_follow_142 : decode y_G_follow.2.1 142 = .ok (.invokevirtual 145, 3) := by decide +kernel
theorem d_G_follow_145 : decode y_G_follow.2.1 145 = .ok (.invokevirtual 148, 3) := by decide +kernel
theorem d_G_follow_148 : decode y_G_follow.2.1 148 = .ok (.goto 134, 3) := by decide +kernel
theorem d_G_follow_151 : decode y_G_follow.2.1 151 = .ok (.aload_n 0, 1) := by decide +kernel
theorem d_G_follow_152 : decode y_G_follow.2.1 152 = .ok (.aload_n 0, 1) := by decide +kernel
theorem d_G_follow_153 : decode y_G_follow.2.1 153 = .ok (.invokevirtual 145, 3) := by decide +kernel
theorem d_G_follow_156 : decode y_G_follow.2.1 156 = .ok (.invokevirtual 141, 3) := by decide +kernel
theorem d_G_follow_159 : decode y_G_follow.2.1 159 = .ok (.goto 123, 3) := by decide +kernel
theorem d_G_follow_162 : decode y_G_follow.2.1 162 = .ok (.aload_n 0, 1) := by decide +kernel
theorem d_G_follow_163 : decode y_G_follow.2.1 163 = .ok (.iconst 1, 1) := by decide +kernel
theorem d_G_follow_164 : decode y_G_follow.2.1 164 = .ok (.invokevirtual 148, 3) := by decide +kernel
theorem d_G_follow_167 : decode y_G_follow.2.1 167 = .ok (.aload_n 0, 1) := by decide +kernel
theorem d_G_follow_168 : decode y_G_follow.2.1 168 = .ok (.iconst 1, 1) := by decide +kernel
theorem d_G_follow_169 : decode y_G_follow.2.1 169 = .ok (.invokevirtual 148, 3) := by decide +kernel
theorem d_G_follow_172 : decode y_G_follow.2.1 172 = .ok (.aload_n 0, 1) := by decide +kernel
theorem d_G_follow_173 : decode y_G_follow.2.1 173 = .ok (.iconst 1, 1) := by decide +kernel
theorem d_G_follow_174 : decode y_G_follow.2.1 174 = .ok (.invokevirtual 141, 3) := by decide +kernel
theorem d_G_follow_177 : decode y_G_follow.2.1 177 = .ok (.goto 105, 3) := by decide +kernel
theorem d_G_follow_180 : decode y_G_follow.2.1 180 = .ok (.aload_n 0, 1) := by decide +kernel
theorem d_G_follow_181 : decode y_G_follow.2.1 181 = .ok (.aload_n 1, 1) := by decide +kernel
theorem d_G_follow_182 : decode y_G_follow.2.1 182 = .ok (.iload_n 3, 1) := by decide +kernel
theorem d_G_follow_183 : decode y_G_follow.2.1 183 = .ok (.invokevirtual 151, 3) := by decide +kernel
theorem d_G_follow_186 : decode y_G_follow.2.1 186 = .ok (.invokevirtual 141, 3) := by decide +kernel
theorem d_G_follow_189 : decode y_G_follow.2.1 189 = .ok (.goto 93, 3) := by decide +kernel
theorem d_G_follow_192 : decode y_G_follow.2.1 192 = .ok (.aload_n 0, 1) := by decide +kernel
theorem d_G_follow_193 : decode y_G_follow.2.1 193 = .ok (.aload_n 1, 1) := by decide +kernel
theorem d_G_follow_194 : decode y_G_follow.2.1 194 = .ok (.iload_n 3, 1) := by decide +kernel
theorem d_G_follow_195 : decode y_G_follow.2.1 195 = .ok (.invokevirtual 151, 3) := by decide +kernel
theorem d_G_follow_198 : decode y_G_follow.2.1 198 = .ok (.invokevirtual 148, 3) := by decide +kernel
theorem d_G_follow_201 : decode y_G_follow.2.1 201 = .ok (.goto 81, 3) := by decide +kernel
theorem d_G_follow_204 : decode y_G_follow.2.1 204 = .ok (.aload_n 0, 1) := by decide +kernel
theorem d_G_follow_205 : decode y_G_follow.2.1 205 = .ok (.iload_n 3, 1) := by decide +kernel
theorem d_G_follow_206 : decode y_G_follow.2.1 206 = .ok (.invokevirtual 154, 3) := by decide +kernel
theorem d_G_follow_209 : decode y_G_follow.2.1 209 = .ok (.goto 73, 3) := by decide +kernel
theorem d_G_follow_212 : decode y_G_follow.2.1 212 = .ok (.aload_n 0, 1) := by decide +kernel
theorem d_G_follow_213 : decode y_G_follow.2.1 213 = .ok (.iconst 1, 1) := by decide +kernel
