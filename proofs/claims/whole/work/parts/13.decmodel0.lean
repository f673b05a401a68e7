theorem d_m_init_0 : decode y_m_init.2.1 0 = .ok (.aload_n 0, 1) := by decide +kernel
theorem d_m_init_1 : decode y_m_init.2.1 1 = .ok (.invokespecial 1, 3) := by decide +kernel
theorem d_m_init_4 : decode y_m_init.2.1 4 = .ok (.aload_n 0, 1) := by decide +kernel
theorem d_m_init_5 : decode y_m_init.2.1 5 = .ok (.new 7, 3) := by decide +kernel
theorem d_m_init_8 : decode y_m_init.2.1 8 = .ok (.dup, 1) := by decide +kernel
theorem d_m_init_9 : decode y_m_init.2.1 9 = .ok (.invokespecial 9, 3) := by decide +kernel
theorem d_m_init_12 : decode y_m_init.2.1 12 = .ok (.putfield 10, 3) := by decide +kernel
theorem d_m_init_15 : decode y_m_init.2.1 15 = .ok (.aload_n 0, 1) := by decide +kernel
theorem d_m_init_16 : decode y_m_init.2.1 16 = .ok (.new 7, 3) := by decide +kernel
theorem d_m_init_19 : decode y_m_init.2.1 19 = .ok (.dup, 1) := by decide +kernel
theorem d_m_init_20 : decode y_m_init.2.1 20 = .ok (.invokespecial 9, 3) := by decide +kernel
theorem d_m_init_23 : decode y_m_init.2.1 23 = .ok (.putfield 16, 3) := by decide +kernel
theorem d_m_init_26 : decode y_m_init.2.1 26 = .ok (.aload_n 0, 1) := by decide +kernel
theorem d_m_init_27 : decode y_m_init.2.1 27 = .ok (.new 7, 3) := by decide +kernel
theorem d_m_init_30 : decode y_m_init.2.1 30 = .ok (.dup, 1) := by decide +kernel
theorem d_m_init_31 : decode y_m_init.2.1 31 = .ok (.invokespecial 9, 3) := by decide +kernel
theorem d_m_init_34 : decode y_m_init.2.1 34 = .ok (.putfield 19, 3) := by decide +kernel
theorem d_m_init_37 : decode y_m_init.2.1 37 = .ok (.aload_n 0, 1) := by decide +kernel
theorem d_m_init_38 : decode y_m_init.2.1 38 = .ok (.iconst 4, 1) := by decide +kernel
theorem d_m_init_39 : decode y_m_init.2.1 39 = .ok (.newarray .int, 2) := by decide +kernel
theorem d_m_init_41 : decode y_m_init.2.1 41 = .ok (.putfield 22, 3) := by decide +kernel
theorem d_m_init_44 : decode y_m_init.2.1 44 = .ok (.aload_n 0, 1) := by decide +kernel
theorem d_m_init_45 : decode y_m_init.2.1 45 = .ok (.bipush 12, 2) := by decide +kernel
theorem d_m_init_47 : decode y_m_init.2.1 47 = .ok (.newarray .int, 2) := by decide +kernel
theorem d_m_init_49 : decode y_m_init.2.1 49 = .ok (.putfield 26, 3) := by decide +kernel
theorem d_m_init_52 : decode y_m_init.2.1 52 = .ok (.return_, 1) := by decide +kernel
theorem d_m_code_0 : decode y_m_code.2.1 0 = .ok (.iload_n 1, 1) := by decide +kernel
theorem d_m_code_1 : decode y_m_code.2.1 1 = .ok (.ifCond .lt 25, 3) := by decide +kernel
theorem d_m_code_4 : decode y_m_code.2.1 4 = .ok (.iload_n 1, 1) := by decide +kernel
theorem d_m_code_5 : decode y_m_code.2.1 5 = .ok (.bipush 8, 2) := by decide +kernel
theorem d_m_code_7 : decode y_m_code.2.1 7 = .ok (.if_icmp .gt 19, 3) := by decide +kernel
theorem d_m_code_10 : decode y_m_code.2.1 10 = .ok (.iload_n 2, 1) := by decide +kernel
theorem d_m_code_11 : decode y_m_code.2.1 11 = .ok (.ifCond .lt 15, 3) := by decide +kernel
theorem d_m_code_14 : decode y_m_code.2.1 14 = .ok (.iload_n 2, 1) := by decide +kernel
theorem d_m_code_15 : decode y_m_code.2.1 15 = .ok (.iconst 2, 1) := by decide +kernel
theorem d_m_code_16 : decode y_m_code.2.1 16 = .ok (.if_icmp .gt 10, 3) := by decide +kernel
theorem d_m_code_19 : decode y_m_code.2.1 19 = .ok (.aload_n 0, 1) := by decide +kernel
theorem d_m_code_20 : decode y_m_code.2.1 20 = .ok (.getfield 29, 3) := by decide +kernel
theorem d_m_code_23 : decode y_m_code.2.1 23 = .ok (.ifCond .le 5, 3) := by decide +kernel
theorem d_m_code_26 : decode y_m_code.2.1 26 = .ok (.iconst (-1), 1) := by decide +kernel
theorem d_m_code_27 : decode y_m_code.2.1 27 = .ok (.ireturn, 1) := by decide +kernel
theorem d_m_code_28 : decode y_m_code.2.1 28 = .ok (.aload_n 0, 1) := by decide +kernel
theorem d_m_code_29 : decode y_m_code.2.1 29 = .ok (.getfield 10, 3) := by decide +kernel
theorem d_m_code_32 : decode y_m_code.2.1 32 = .ok (.invokevirtual 33, 3) := by decide +kernel
theorem d_m_code_35 : decode y_m_code.2.1 35 = .ok (.bipush 40, 2) := by decide +kernel
theorem d_m_code_37 : decode y_m_code.2.1 37 = .ok (.if_icmp .ne 6, 3) := by decide +kernel
theorem d_m_code_40 : decode y_m_code.2.1 40 = .ok (.bipush (-12), 2) := by decide +kernel
theorem d_m_code_42 : decode y_m_code.2.1 42 = .ok (.ireturn, 1) := by decide +kernel
theorem d_m_code_43 : decode y_m_code.2.1 43 = .ok (.aload_n 0, 1) := by decide +kernel
theorem d_m_code_44 : decode y_m_code.2.1 44 = .ok (.new 37, 3) := by decide +kernel
theorem d_m_code_47 : decode y_m_code.2.1 47 = .ok (.dup, 1) := by decide +kernel
theorem d_m_code_48 : decode y_m_code.2.1 48 = .ok (.iload_n 1, 1) := by decide +kernel
theorem d_m_code_49 : decode y_m_code.2.1 49 = .ok (.iload_n 2, 1) := by decide +kernel
theorem d_m_code_50 : decode y_m_code.2.1 50 = .ok (.invokespecial 39, 3) := by decide +kernel
theorem d_m_code_53 : decode y_m_code.2.1 53 = .ok (.putfield 42, 3) := by decide +kernel
theorem d_m_code_56 : decode y_m_code.2.1 56 = .ok (.aload_n 0, 1) := by decide +kernel
theorem d_m_code_57 : decode y_m_code.2.1 57 = .ok (.getfield 10, 3) := by decide +kernel
theorem d_m_code_60 : decode y_m_code.2.1 60 = .ok (.aload_n 0, 1) := by decide +kernel
theorem d_m_code_61 : decode y_m_code.2.1 61 = .ok (.getfield 42, 3) := by decide +kernel
theorem d_m_code_64 : decode y_m_code.2.1 64 = .ok (.invokevirtual 46, 3) := by decide +kernel
theorem d_m_code_67 : decode y_m_code.2.1 67 = .ok (.pop, 1) := by decide +kernel
theorem d_m_code_68 : decode y_m_code.2.1 68 = .ok (.aload_n 0, 1) := by decide +kernel
theorem d_m_code_69 : decode y_m_code.2.1 69 = .ok (.getfield 10, 3) := by decide +kernel
theorem d_m_code_72 : decode y_m_code.2.1 72 = .ok (.invokevirtual 33, 3) := by decide +kernel
theorem d_m_code_75 : decode y_m_code.2.1 75 = .ok (.iconst 1, 1) := by decide +kernel
theorem d_m_code_76 : decode y_m_code.2.1 76 = .ok (.isub, 1) := by decide +kernel
theorem d_m_code_77 : decode y_m_code.2.1 77 = .ok (.ireturn, 1) := by decide +kernel
theorem d_mC_init_0 : decode y_mC_init.2.1 0 = .ok (.aload_n 0, 1) := by decide +kernel
theorem d_mC_init_1 : decode y_mC_init.2.1 1 = .ok (.invokespecial 3, 3) := by decide +kernel
theorem d_mC_init_4 : decode y_mC_init.2.1 4 = .ok (.aload_n 0, 1) := by decide +kernel
theorem d_mC_init_5 : decode y_mC_init.2.1 5 = .ok (.bipush 8, 2) := by decide +kernel
theorem d_mC_init_7 : decode y_mC_init.2.1 7 = .ok (.newarray .int, 2) := by decide +kernel
theorem d_mC_init_9 : decode y_mC_init.2.1 9 = .ok (.putfield 9, 3) := by decide +kernel
theorem d_mC_init_12 : decode y_mC_init.2.1 12 = .ok (.aload_n 0, 1) := by decide +kernel
theorem d_mC_init_13 : decode y_mC_init.2.1 13 = .ok (.bipush 60, 2) := by decide +kernel
theorem d_mC_init_15 : decode y_mC_init.2.1 15 = .ok (.newarray .int, 2) := by decide +kernel
theorem d_mC_init_17 : decode y_mC_init.2.1 17 = .ok (.putfield 15, 3) := by decide +kernel
theorem d_mC_init_20 : decode y_mC_init.2.1 20 = .ok (.aload_n 0, 1) := by decide +kernel
theorem d_mC_init_21 : decode y_mC_init.2.1 21 = .ok (.bipush 60, 2) := by decide +kernel
theorem d_mC_init_23 : decode y_mC_init.2.1 23 = .ok (.newarray .int, 2) := by decide +kernel
theorem d_mC_init_25 : decode y_mC_init.2.1 25 = .ok (.putfield 18, 3) := by decide +kernel
theorem d_mC_init_28 : decode y_mC_init.2.1 28 = .ok (.aload_n 0, 1) := by decide +kernel
theorem d_mC_init_29 : decode y_mC_init.2.1 29 = .ok (.bipush 20, 2) := by decide +kernel
theorem d_mC_init_31 : decode y_mC_init.2.1 31 = .ok (.newarray .int, 2) := by decide +kernel
theorem d_mC_init_33 : decode y_mC_init.2.1 33 = .ok (.putfield 21, 3) := by decide +kernel
theorem d_mC_init_36 : decode y_mC_init.2.1 36 = .ok (.aload_n 0, 1) := by decide +kernel
theorem d_mC_init_37 : decode y_mC_init.2.1 37 = .ok (.bipush 20, 2) := by decide +kernel
theorem d_mC_init_39 : decode y_mC_init.2.1 39 = .ok (.newarray .int, 2) := by decide +kernel
theorem d_mC_init_41 : decode y_mC_init.2.1 41 = .ok (.putfield 24, 3) := by decide +kernel
theorem d_mC_init_44 : decode y_mC_init.2.1 44 = .ok (.aload_n 0, 1) := by decide +kernel
theorem d_mC_init_45 : decode y_mC_init.2.1 45 = .ok (.bipush 20, 2) := by decide +kernel
theorem d_mC_init_47 : decode y_mC_init.2.1 47 = .ok (.newarray .int, 2) := by decide +kernel
theorem d_mC_init_49 : decode y_mC_init.2.1 49 = .ok (.putfield 27, 3) := by decide +kernel
theorem d_mC_init_52 : decode y_mC_init.2.1 52 = .ok (.aload_n 0, 1) := by decide +kernel
theorem d_mC_init_53 : decode y_mC_init.2.1 53 = .ok (.bipush 20, 2) := by decide +kernel
theorem d_mC_init_55 : decode y_mC_init.2.1 55 = .ok (.newarray .int, 2) := by decide +kernel
theorem d_mC_init_57 : decode y_mC_init.2.1 57 = .ok (.putfield 30, 3) := by decide +kernel
theorem d_mC_init_60 : decode y_mC_init.2.1 60 = .ok (.aload_n 0, 1) := by decide +kernel
theorem d_mC_init_61 : decode y_mC_init.2.1 61 = .ok (.iload_n 1, 1) := by decide +kernel
theorem d_mC_init_62 : decode y_mC_init.2.1 62 = .ok (.putfield 33, 3) := by decide +kernel
theorem d_mC_init_65 : decode y_mC_init.2.1 65 = .ok (.aload_n 0, 1) := by decide +kernel
theorem d_mC_init_66 : decode y_mC_init.2.1 66 = .ok (.iload_n 2, 1) := by decide +kernel
theorem d_mC_init_67 : decode y_mC_init.2.1 67 = .ok (.putfield 37, 3) := by decide +kernel
theorem d_mC_init_70 : decode y_mC_init.2.1 70 = .ok (.return_, 1) := by decide +kernel
theorem d_m_local_0 : decode y_m_local.2.1 0 = .ok (.aload_n 0, 1) := by decide +kernel
theorem d_m_local_1 : decode y_m_local.2.1 1 = .ok (.getfield 42, 3) := by decide +kernel
theorem d_m_local_4 : decode y_m_local.2.1 4 = .ok (.ifnonnull 6, 3) := by decide +kernel
theorem d_m_local_7 : decode y_m_local.2.1 7 = .ok (.bipush (-14), 2) := by decide +kernel
theorem d_m_local_9 : decode y_m_local.2.1 9 = .ok (.ireturn, 1) := by decide +kernel
theorem d_m_local_10 : decode y_m_local.2.1 10 = .ok (.iload_n 1, 1) := by decide +kernel
theorem d_m_local_11 : decode y_m_local.2.1 11 = .ok (.iconst 1, 1) := by decide +kernel
theorem d_m_local_12 : decode y_m_local.2.1 12 = .ok (.if_icmp .eq 10, 3) := by decide +kernel
theorem d_m_local_15 : decode y_m_local.2.1 15 = .ok (.iload_n 1, 1) := by decide +kernel
theorem d_m_local_16 : decode y_m_local.2.1 16 = .ok (.iconst 2, 1) := by decide +kernel
theorem d_m_local_17 : decode y_m_local.2.1 17 = .ok (.if_icmp .eq 5, 3) := by decide +kernel
theorem d_m_local_20 : decode y_m_local.2.1 20 = .ok (.iconst (-1), 1) := by decide +kernel
theorem d_m_local_21 : decode y_m_local.2.1 21 = .ok (.ireturn, 1) := by decide +kernel
theorem d_m_local_22 : decode y_m_local.2.1 22 = .ok (.aload_n 0, 1) := by decide +kernel
theorem d_m_local_23 : decode y_m_local.2.1 23 = .ok (.getfield 42, 3) := by decide +kernel
theorem d_m_local_26 : decode y_m_local.2.1 26 = .ok (.getfield 50, 3) := by decide +kernel
theorem d_m_local_29 : decode y_m_local.2.1 29 = .ok (.bipush 8, 2) := by decide +kernel
theorem d_m_local_31 : decode y_m_local.2.1 31 = .ok (.if_icmp .ne 6, 3) := by decide +kernel
theorem d_m_local_34 : decode y_m_local.2.1 34 = .ok (.bipush (-12), 2) := by decide +kernel
theorem d_m_local_36 : decode y_m_local.2.1 36 = .ok (.ireturn, 1) := by decide +kernel
theorem d_m_local_37 : decode y_m_local.2.1 37 = .ok (.aload_n 0, 1) := by decide +kernel
theorem d_m_local_38 : decode y_m_local.2.1 38 = .ok (.getfield 42, 3) := by decide +kernel
theorem d_m_local_41 : decode y_m_local.2.1 41 = .ok (.getfield 53, 3) := by decide +kernel
theorem d_m_local_44 : decode y_m_local.2.1 44 = .ok (.aload_n 0, 1) := by decide +kernel
theorem d_m_local_45 : decode y_m_local.2.1 45 = .ok (.getfield 42, 3) := by decide +kernel
theorem d_m_local_48 : decode y_m_local.2.1 48 = .ok (.getfield 50, 3) := by decide +kernel
theorem d_m_local_51 : decode y_m_local.2.1 51 = .ok (.iload_n 1, 1) := by decide +kernel
theorem d_m_local_52 : decode y_m_local.2.1 52 = .ok (.iastore, 1) := by decide +kernel
theorem d_m_local_53 : decode y_m_local.2.1 53 = .ok (.aload_n 0, 1) := by decide +kernel
theorem d_m_local_54 : decode y_m_local.2.1 54 = .ok (.getfield 42, 3) := by decide +kernel
theorem d_m_local_57 : decode y_m_local.2.1 57 = .ok (.dup, 1) := by decide +kernel
theorem d_m_local_58 : decode y_m_local.2.1 58 = .ok (.getfield 50, 3) := by decide +kernel
theorem d_m_local_61 : decode y_m_local.2.1 61 = .ok (.iconst 1, 1) := by decide +kernel
theorem d_m_local_62 : decode y_m_local.2.1 62 = .ok (.iadd, 1) := by decide +kernel
theorem d_m_local_63 : decode y_m_local.2.1 63 = .ok (.putfield 50, 3) := by decide +kernel
theorem d_m_local_66 : decode y_m_local.2.1 66 = .ok (.aload_n 0, 1) := by decide +kernel
theorem d_m_local_67 : decode y_m_local.2.1 67 = .ok (.getfield 42, 3) := by decide +kernel
theorem d_m_local_70 : decode y_m_local.2.1 70 = .ok (.getfield 50, 3) := by decide +kernel
theorem d_m_local_73 : decode y_m_local.2.1 73 = .ok (.ireturn, 1) := by decide +kernel
theorem d_m_add_0 : decode y_m_add.2.1 0 = .ok (.aload_n 0, 1) := by decide +kernel
theorem d_m_add_1 : decode y_m_add.2.1 1 = .ok (.getfield 42, 3) := by decide +kernel
theorem d_m_add_4 : decode y_m_add.2.1 4 = .ok (.ifnonnull 6, 3) := by decide +kernel
theorem d_m_add_7 : decode y_m_add.2.1 7 = .ok (.bipush (-14), 2) := by decide +kernel
theorem d_m_add_9 : decode y_m_add.2.1 9 = .ok (.ireturn, 1) := by decide +kernel
theorem d_m_add_10 : decode y_m_add.2.1 10 = .ok (.iload_n 1, 1) := by decide +kernel
theorem d_m_add_11 : decode y_m_add.2.1 11 = .ok (.ifCond .lt 13, 3) := by decide +kernel
theorem d_m_add_14 : decode y_m_add.2.1 14 = .ok (.iload_n 1, 1) := by decide +kernel
theorem d_m_add_15 : decode y_m_add.2.1 15 = .ok (.bipush 26, 2) := by decide +kernel
theorem d_m_add_17 : decode y_m_add.2.1 17 = .ok (.if_icmp .gt 7, 3) := by decide +kernel
theorem d_m_add_20 : decode y_m_add.2.1 20 = .ok (.iconst 1, 1) := by decide +kernel
theorem d_m_add_21 : decode y_m_add.2.1 21 = .ok (.goto 4, 3) := by decide +kernel
theorem d_m_add_24 : decode y_m_add.2.1 24 = .ok (.iconst 0, 1) := by decide +kernel
theorem d_m_add_25 : decode y_m_add.2.1 25 = .ok (.istore_n 3, 1) := by decide +kernel
theorem d_m_add_26 : decode y_m_add.2.1 26 = .ok (.iload_n 1, 1) := by decide +kernel
theorem d_m_add_27 : decode y_m_add.2.1 27 = .ok (.bipush 14, 2) := by decide +kernel
theorem d_m_add_29 : decode y_m_add.2.1 29 = .ok (.if_icmp .eq 9, 3) := by decide +kernel
theorem d_m_add_32 : decode y_m_add.2.1 32 = .ok (.iload_n 1, 1) := by decide +kernel
theorem d_m_add_33 : decode y_m_add.2.1 33 = .ok (.bipush 15, 2) := by decide +kernel
theorem d_m_add_35 : decode y_m_add.2.1 35 = .ok (.if_icmp .ne 19, 3) := by decide +kernel
theorem d_m_add_38 : decode y_m_add.2.1 38 = .ok (.iload_n 2, 1) := by decide +kernel
theorem d_m_add_39 : decode y_m_add.2.1 39 = .ok (.ifCond .lt 13, 3) := by decide +kernel
theorem d_m_add_42 : decode y_m_add.2.1 42 = .ok (.iload_n 2, 1) := by decide +kernel
theorem d_m_add_43 : decode y_m_add.2.1 43 = .ok (.bipush 9, 2) := by decide +kernel
theorem d_m_add_45 : decode y_m_add.2.1 45 = .ok (.if_icmp .gt 7, 3) := by decide +kernel
theorem d_m_add_48 : decode y_m_add.2.1 48 = .ok (.iconst 1, 1) := by decide +kernel
theorem d_m_add_49 : decode y_m_add.2.1 49 = .ok (.goto 4, 3) := by decide +kernel
theorem d_m_add_52 : decode y_m_add.2.1 52 = .ok (.iconst 0, 1) := by decide +kernel
theorem d_m_add_53 : decode y_m_add.2.1 53 = .ok (.istore_n 3, 1) := by decide +kernel
theorem d_m_add_54 : decode y_m_add.2.1 54 = .ok (.iload_n 1, 1) := by decide +kernel
theorem d_m_add_55 : decode y_m_add.2.1 55 = .ok (.bipush 16, 2) := by decide +kernel
theorem d_m_add_57 : decode y_m_add.2.1 57 = .ok (.if_icmp .eq 19, 3) := by decide +kernel
theorem d_m_add_60 : decode y_m_add.2.1 60 = .ok (.iload_n 1, 1) := by decide +kernel
theorem d_m_add_61 : decode y_m_add.2.1 61 = .ok (.bipush 17, 2) := by decide +kernel
theorem d_m_add_63 : decode y_m_add.2.1 63 = .ok (.if_icmp .eq 13, 3) := by decide +kernel
theorem d_m_add_66 : decode y_m_add.2.1 66 = .ok (.iload_n 1, 1) := by decide +kernel
theorem d_m_add_67 : decode y_m_add.2.1 67 = .ok (.bipush 25, 2) := by decide +kernel
theorem d_m_add_69 : decode y_m_add.2.1 69 = .ok (.if_icmp .lt 22, 3) := by decide +kernel
theorem d_m_add_72 : decode y_m_add.2.1 72 = .ok (.iload_n 3, 1) := by decide +kernel
theorem d_m_add_73 : decode y_m_add.2.1 73 = .ok (.ifCond .eq 18, 3) := by decide +kernel
theorem d_m_add_76 : decode y_m_add.2.1 76 = .ok (.iload_n 2, 1) := by decide +kernel
theorem d_m_add_77 : decode y_m_add.2.1 77 = .ok (.ifCond .lt 12, 3) := by decide +kernel
theorem d_m_add_80 : decode y_m_add.2.1 80 = .ok (.iload_n 2, 1) := by decide +kernel
theorem d_m_add_81 : decode y_m_add.2.1 81 = .ok (.iconst 3, 1) := by decide +kernel
theorem d_m_add_82 : decode y_m_add.2.1 82 = .ok (.if_icmp .gt 7, 3) := by decide +kernel
theorem d_m_add_85 : decode y_m_add.2.1 85 = .ok (.iconst 1, 1) := by decide +kernel
theorem d_m_add_86 : decode y_m_add.2.1 86 = .ok (.goto 4, 3) := by decide +kernel
theorem d_m_add_89 : decode y_m_add.2.1 89 = .ok (.iconst 0, 1) := by decide +kernel
theorem d_m_add_90 : decode y_m_add.2.1 90 = .ok (.istore_n 3, 1) := by decide +kernel
theorem d_m_add_91 : decode y_m_add.2.1 91 = .ok (.iload_n 1, 1) := by decide +kernel
theorem d_m_add_92 : decode y_m_add.2.1 92 = .ok (.bipush 23, 2) := by decide +kernel
theorem d_m_add_94 : decode y_m_add.2.1 94 = .ok (.if_icmp .eq 9, 3) := by decide +kernel
theorem d_m_add_97 : decode y_m_add.2.1 97 = .ok (.iload_n 1, 1) := by decide +kernel
theorem d_m_add_98 : decode y_m_add.2.1 98 = .ok (.bipush 24, 2) := by decide +kernel
theorem d_m_add_100 : decode y_m_add.2.1 100 = .ok (.if_icmp .ne 20, 3) := by decide +kernel
theorem d_m_add_103 : decode y_m_add.2.1 103 = .ok (.iload_n 2, 1) := by decide +kernel
theorem d_m_add_104 : decode y_m_add.2.1 104 = .ok (.iconst 4, 1) := by decide +kernel
theorem d_m_add_105 : decode y_m_add.2.1 105 = .ok (.if_icmp .lt 13, 3) := by decide +kernel
theorem d_m_add_108 : decode y_m_add.2.1 108 = .ok (.iload_n 2, 1) := by decide +kernel
theorem d_m_add_109 : decode y_m_add.2.1 109 = .ok (.bipush 7, 2) := by decide +kernel
theorem d_m_add_111 : decode y_m_add.2.1 111 = .ok (.if_icmp .gt 7, 3) := by decide +kernel
theorem d_m_add_114 : decode y_m_add.2.1 114 = .ok (.iconst 1, 1) := by decide +kernel
theorem d_m_add_115 : decode y_m_add.2.1 115 = .ok (.goto 4, 3) := by decide +kernel
theorem d_m_add_118 : decode y_m_add.2.1 118 = .ok (.iconst 0, 1) := by decide +kernel
theorem d_m_add_119 : decode y_m_add.2.1 119 = .ok (.istore_n 3, 1) := by decide +kernel
theorem d_m_add_120 : decode y_m_add.2.1 120 = .ok (.iload_n 3, 1) := by decide +kernel
theorem d_m_add_121 : decode y_m_add.2.1 121 = .ok (.ifCond .ne 5, 3) := by decide +kernel
theorem d_m_add_124 : decode y_m_add.2.1 124 = .ok (.iconst (-1), 1) := by decide +kernel
theorem d_m_add_125 : decode y_m_add.2.1 125 = .ok (.ireturn, 1) := by decide +kernel
theorem d_m_add_126 : decode y_m_add.2.1 126 = .ok (.aload_n 0, 1) := by decide +kernel
theorem d_m_add_127 : decode y_m_add.2.1 127 = .ok (.getfield 42, 3) := by decide +kernel
theorem d_m_add_130 : decode y_m_add.2.1 130 = .ok (.getfield 56, 3) := by decide +kernel
theorem d_m_add_133 : decode y_m_add.2.1 133 = .ok (.bipush 60, 2) := by decide +kernel
theorem d_m_add_135 : decode y_m_add.2.1 135 = .ok (.if_icmp .ne 6, 3) := by decide +kernel
theorem d_m_add_138 : decode y_m_add.2.1 138 = .ok (.bipush (-12), 2) := by decide +kernel
theorem d_m_add_140 : decode y_m_add.2.1 140 = .ok (.ireturn, 1) := by decide +kernel
theorem d_m_add_141 : decode y_m_add.2.1 141 = .ok (.aload_n 0, 1) := by decide +kernel
theorem d_m_add_142 : decode y_m_add.2.1 142 = .ok (.getfield 42, 3) := by decide +kernel
theorem d_m_add_145 : decode y_m_add.2.1 145 = .ok (.getfield 59, 3) := by decide +kernel
theorem d_m_add_148 : decode y_m_add.2.1 148 = .ok (.aload_n 0, 1) := by decide +kernel
theorem d_m_add_149 : decode y_m_add.2.1 149 = .ok (.getfield 42, 3) := by decide +kernel
theorem d_m_add_152 : decode y_m_add.2.1 152 = .ok (.getfield 56, 3) := by decide +kernel
theorem d_m_add_155 : decode y_m_add.2.1 155 = .ok (.iload_n 1, 1) := by decide +kernel
theorem d_m_add_156 : decode y_m_add.2.1 156 = .ok (.iastore, 1) := by decide +kernel
theorem d_m_add_157 : decode y_m_add.2.1 157 = .ok (.aload_n 0, 1) := by decide +kernel
theorem d_m_add_158 : decode y_m_add.2.1 158 = .ok (.getfield 42, 3) := by decide +kernel
theorem d_m_add_161 : decode y_m_add.2.1 161 = .ok (.getfield 62, 3) := by decide +kernel
theorem d_m_add_164 : decode y_m_add.2.1 164 = .ok (.aload_n 0, 1) := by decide +kernel
theorem d_m_add_165 : decode y_m_add.2.1 165 = .ok (.getfield 42, 3) := by decide +kernel
theorem d_m_add_168 : decode y_m_add.2.1 168 = .ok (.getfield 56, 3) := by decide +kernel
theorem d_m_add_171 : decode y_m_add.2.1 171 = .ok (.iload_n 2, 1) := by decide +kernel
theorem d_m_add_172 : decode y_m_add.2.1 172 = .ok (.iastore, 1) := by decide +kernel
theorem d_m_add_173 : decode y_m_add.2.1 173 = .ok (.aload_n 0, 1) := by decide +kernel
theorem d_m_add_174 : decode y_m_add.2.1 174 = .ok (.getfield 42, 3) := by decide +kernel
theorem d_m_add_177 : decode y_m_add.2.1 177 = .ok (.dup, 1) := by decide +kernel
theorem d_m_add_178 : decode y_m_add.2.1 178 = .ok (.getfield 56, 3) := by decide +kernel
theorem d_m_add_181 : decode y_m_add.2.1 181 = .ok (.iconst 1, 1) := by decide +kernel
theorem d_m_add_182 : decode y_m_add.2.1 182 = .ok (.iadd, 1) := by decide +kernel
theorem d_m_add_183 : decode y_m_add.2.1 183 = .ok (.putfield 56, 3) := by decide +kernel
theorem d_m_add_186 : decode y_m_add.2.1 186 = .ok (.aload_n 0, 1) := by decide +kernel
theorem d_m_add_187 : decode y_m_add.2.1 187 = .ok (.getfield 42, 3) := by decide +kernel
theorem d_m_add_190 : decode y_m_add.2.1 190 = .ok (.getfield 56, 3) := by decide +kernel
theorem d_m_add_193 : decode y_m_add.2.1 193 = .ok (.iconst 1, 1) := by decide +kernel
theorem d_m_add_194 : decode y_m_add.2.1 194 = .ok (.isub, 1) := by decide +kernel
theorem d_m_add_195 : decode y_m_add.2.1 195 = .ok (.ireturn, 1) := by decide +kernel
theorem d_m_row_0 : decode y_m_row.2.1 0 = .ok (.aload_n 0, 1) := by decide +kernel
theorem d_m_row_1 : decode y_m_row.2.1 1 = .ok (.getfield 42, 3) := by decide +kernel
theorem d_m_row_4 : decode y_m_row.2.1 4 = .ok (.ifnonnull 6, 3) := by decide +kernel
theorem d_m_row_7 : decode y_m_row.2.1 7 = .ok (.bipush (-14), 2) := by decide +kernel
theorem d_m_row_9 : decode y_m_row.2.1 9 = .ok (.ireturn, 1) := by decide +kernel
theorem d_m_row_10 : decode y_m_row.2.1 10 = .ok (.iload_n 1, 1) := by decide +kernel
theorem d_m_row_11 : decode y_m_row.2.1 11 = .ok (.invokestatic 65, 3) := by decide +kernel
theorem d_m_row_14 : decode y_m_row.2.1 14 = .ok (.ifCond .eq 29, 3) := by decide +kernel
theorem d_m_row_17 : decode y_m_row.2.1 17 = .ok (.iload_n 2, 1) := by decide +kernel
theorem d_m_row_18 : decode y_m_row.2.1 18 = .ok (.invokestatic 65, 3) := by decide +kernel
theorem d_m_row_21 : decode y_m_row.2.1 21 = .ok (.ifCond .eq 22, 3) := by decide +kernel
theorem d_m_row_24 : decode y_m_row.2.1 24 = .ok (.iload_n 3, 1) := by decide +kernel
theorem d_m_row_25 : decode y_m_row.2.1 25 = .ok (.invokestatic 65, 3) := by decide +kernel
theorem d_m_row_28 : decode y_m_row.2.1 28 = .ok (.ifCond .eq 15, 3) := by decide +kernel
theorem d_m_row_31 : decode y_m_row.2.1 31 = .ok (.iload 4, 2) := by decide +kernel
theorem d_m_row_33 : decode y_m_row.2.1 33 = .ok (.ifCond .lt 10, 3) := by decide +kernel
theorem d_m_row_36 : decode y_m_row.2.1 36 = .ok (.iload 4, 2) := by decide +kernel
theorem d_m_row_38 : decode y_m_row.2.1 38 = .ok (.bipush 10, 2) := by decide +kernel
theorem d_m_row_40 : decode y_m_row.2.1 40 = .ok (.if_icmp .le 5, 3) := by decide +kernel
theorem d_m_row_43 : decode y_m_row.2.1 43 = .ok (.iconst (-1), 1) := by decide +kernel
theorem d_m_row_44 : decode y_m_row.2.1 44 = .ok (.ireturn, 1) := by decide +kernel
theorem d_m_row_45 : decode y_m_row.2.1 45 = .ok (.aload_n 0, 1) := by decide +kernel
theorem d_m_row_46 : decode y_m_row.2.1 46 = .ok (.getfield 42, 3) := by decide +kernel
theorem d_m_row_49 : decode y_m_row.2.1 49 = .ok (.getfield 69, 3) := by decide +kernel
theorem d_m_row_52 : decode y_m_row.2.1 52 = .ok (.bipush 20, 2) := by decide +kernel
theorem d_m_row_54 : decode y_m_row.2.1 54 = .ok (.if_icmp .ne 6, 3) := by decide +kernel
theorem d_m_row_57 : decode y_m_row.2.1 57 = .ok (.bipush (-12), 2) := by decide +kernel
theorem d_m_row_59 : decode y_m_row.2.1 59 = .ok (.ireturn, 1) := by decide +kernel
theorem d_m_row_60 : decode y_m_row.2.1 60 = .ok (.aload_n 0, 1) := by decide +kernel
theorem d_m_row_61 : decode y_m_row.2.1 61 = .ok (.getfield 42, 3) := by decide +kernel
theorem d_m_row_64 : decode y_m_row.2.1 64 = .ok (.getfield 72, 3) := by decide +kernel
theorem d_m_row_67 : decode y_m_row.2.1 67 = .ok (.aload_n 0, 1) := by decide +kernel
theorem d_m_row_68 : decode y_m_row.2.1 68 = .ok (.getfield 42, 3) := by decide +kernel
theorem d_m_row_71 : decode y_m_row.2.1 71 = .ok (.getfield 69, 3) := by decide +kernel
theorem d_m_row_74 : decode y_m_row.2.1 74 = .ok (.iload_n 1, 1) := by decide +kernel
theorem d_m_row_75 : decode y_m_row.2.1 75 = .ok (.iastore, 1) := by decide +kernel
theorem d_m_row_76 : decode y_m_row.2.1 76 = .ok (.aload_n 0, 1) := by decide +kernel
theorem d_m_row_77 : decode y_m_row.2.1 77 = .ok (.getfield 42, 3) := by decide +kernel
theorem d_m_row_80 : decode y_m_row.2.1 80 = .ok (.getfield 75, 3) := by decide +kernel
theorem d_m_row_83 : decode y_m_row.2.1 83 = .ok (.aload_n 0, 1) := by decide +kernel
theorem d_m_row_84 : decode y_m_row.2.1 84 = .ok (.getfield 42, 3) := by decide +kernel
theorem d_m_row_87 : decode y_m_row.2.1 87 = .ok (.getfield 69, 3) := by decide +kernel
theorem d_m_row_90 : decode y_m_row.2.1 90 = .ok (.iload_n 2, 1) := by decide +kernel
theorem d_m_row_91 : decode y_m_row.2.1 91 = .ok (.iastore, 1) := by decide +kernel
theorem d_m_row_92 : decode y_m_row.2.1 92 = .ok (.aload_n 0, 1) := by decide +kernel
theorem d_m_row_93 : decode y_m_row.2.1 93 = .ok (.getfield 42, 3) := by decide +kernel
theorem d_m_row_96 : decode y_m_row.2.1 96 = .ok (.getfield 78, 3) := by decide +kernel
theorem d_m_row_99 : decode y_m_row.2.1 99 = .ok (.aload_n 0, 1) := by decide +kernel
theorem d_m_row_100 : decode y_m_row.2.1 100 = .ok (.getfield 42, 3) := by decide +kernel
theorem d_m_row_103 : decode y_m_row.2.1 103 = .ok (.getfield 69, 3) := by decide +kernel
theorem d_m_row_106 : decode y_m_row.2.1 106 = .ok (.iload_n 3, 1) := by decide +kernel
theorem d_m_row_107 : decode y_m_row.2.1 107 = .ok (.iastore, 1) := by decide +kernel
theorem d_m_row_108 : decode y_m_row.2.1 108 = .ok (.aload_n 0, 1) := by decide +kernel
theorem d_m_row_109 : decode y_m_row.2.1 109 = .ok (.getfield 42, 3) := by decide +kernel
theorem d_m_row_112 : decode y_m_row.2.1 112 = .ok (.getfield 81, 3) := by decide +kernel
theorem d_m_row_115 : decode y_m_row.2.1 115 = .ok (.aload_n 0, 1) := by decide +kernel
theorem d_m_row_116 : decode y_m_row.2.1 116 = .ok (.getfield 42, 3) := by decide +kernel
theorem d_m_row_119 : decode y_m_row.2.1 119 = .ok (.getfield 69, 3) := by decide +kernel
theorem d_m_row_122 : decode y_m_row.2.1 122 = .ok (.iload 4, 2) := by decide +kernel
theorem d_m_row_124 : decode y_m_row.2.1 124 = .ok (.iastore, 1) := by decide +kernel
theorem d_m_row_125 : decode y_m_row.2.1 125 = .ok (.aload_n 0, 1) := by decide +kernel
theorem d_m_row_126 : decode y_m_row.2.1 126 = .ok (.getfield 42, 3) := by decide +kernel
theorem d_m_row_129 : decode y_m_row.2.1 129 = .ok (.dup, 1) := by decide +kernel
theorem d_m_row_130 : decode y_m_row.2.1 130 = .ok (.getfield 69, 3) := by decide +kernel
theorem d_m_row_133 : decode y_m_row.2.1 133 = .ok (.iconst 1, 1) := by decide +kernel
theorem d_m_row_134 : decode y_m_row.2.1 134 = .ok (.iadd, 1) := by decide +kernel
theorem d_m_row_135 : decode y_m_row.2.1 135 = .ok (.putfield 69, 3) := by decide +kernel
theorem d_m_row_138 : decode y_m_row.2.1 138 = .ok (.aload_n 0, 1) := by decide +kernel
theorem d_m_row_139 : decode y_m_row.2.1 139 = .ok (.getfield 42, 3) := by decide +kernel
theorem d_m_row_142 : decode y_m_row.2.1 142 = .ok (.getfield 69, 3) := by decide +kernel
theorem d_m_row_145 : decode y_m_row.2.1 145 = .ok (.ireturn, 1) := by decide +kernel
theorem d_m_isPlace_0 : decode y_m_isPlace.2.1 0 = .ok (.iload_n 0, 1) := by decide +kernel
theorem d_m_isPlace_1 : decode y_m_isPlace.2.1 1 = .ok (.ifCond .lt 13, 3) := by decide +kernel
theorem d_m_isPlace_4 : decode y_m_isPlace.2.1 4 = .ok (.iload_n 0, 1) := by decide +kernel
theorem d_m_isPlace_5 : decode y_m_isPlace.2.1 5 = .ok (.bipush 60, 2) := by decide +kernel
theorem d_m_isPlace_7 : decode y_m_isPlace.2.1 7 = .ok (.if_icmp .gt 7, 3) := by decide +kernel
theorem d_m_isPlace_10 : decode y_m_isPlace.2.1 10 = .ok (.iconst 1, 1) := by decide +kernel
theorem d_m_isPlace_11 : decode y_m_isPlace.2.1 11 = .ok (.goto 4, 3) := by decide +kernel
theorem d_m_isPlace_14 : decode y_m_isPlace.2.1 14 = .ok (.iconst 0, 1) := by decide +kernel
theorem d_m_isPlace_15 : decode y_m_isPlace.2.1 15 = .ok (.ireturn, 1) := by decide +kernel
theorem d_m_judge_0 : decode y_m_judge.2.1 0 = .ok (.aload_n 0, 1) := by decide +kernel
theorem d_m_judge_1 : decode y_m_judge.2.1 1 = .ok (.iload_n 1, 1) := by decide +kernel
theorem d_m_judge_2 : decode y_m_judge.2.1 2 = .ok (.invokevirtual 123, 3) := by decide +kernel
theorem d_m_judge_5 : decode y_m_judge.2.1 5 = .ok (.ifCond .ne 8, 3) := by decide +kernel
theorem d_m_judge_8 : decode y_m_judge.2.1 8 = .ok (.bipush (-14), 2) := by decide +kernel
theorem d_m_judge_10 : decode y_m_judge.2.1 10 = .ok (.goto 26, 3) := by decide +kernel
theorem d_m_judge_13 : decode y_m_judge.2.1 13 = .ok (.aload_n 0, 1) := by decide +kernel
theorem d_m_judge_14 : decode y_m_judge.2.1 14 = .ok (.aload_n 0, 1) := by decide +kernel
theorem d_m_judge_15 : decode y_m_judge.2.1 15 = .ok (.getfield 10, 3) := by decide +kernel
theorem d_m_judge_18 : decode y_m_judge.2.1 18 = .ok (.iload_n 1, 1) := by decide +kernel
theorem d_m_judge_19 : decode y_m_judge.2.1 19 = .ok (.invokevirtual 126, 3) := by decide +kernel
theorem d_m_judge_22 : decode y_m_judge.2.1 22 = .ok (.checkcast 37, 3) := by decide +kernel
theorem d_m_judge_25 : decode y_m_judge.2.1 25 = .ok (.invokevirtual 130, 3) := by decide +kernel
theorem d_m_judge_28 : decode y_m_judge.2.1 28 = .ok (.ifCond .eq 7, 3) := by decide +kernel
theorem d_m_judge_31 : decode y_m_judge.2.1 31 = .ok (.iconst 1, 1) := by decide +kernel
theorem d_m_judge_32 : decode y_m_judge.2.1 32 = .ok (.goto 4, 3) := by decide +kernel
theorem d_m_judge_35 : decode y_m_judge.2.1 35 = .ok (.iconst 0, 1) := by decide +kernel
theorem d_m_judge_36 : decode y_m_judge.2.1 36 = .ok (.ireturn, 1) := by decide +kernel
theorem d_m_isCode_0 : decode y_m_isCode.2.1 0 = .ok (.iload_n 1, 1) := by decide +kernel
theorem d_m_isCode_1 : decode y_m_isCode.2.1 1 = .ok (.ifCond .lt 18, 3) := by decide +kernel
theorem d_m_isCode_4 : decode y_m_isCode.2.1 4 = .ok (.iload_n 1, 1) := by decide +kernel
theorem d_m_isCode_5 : decode y_m_isCode.2.1 5 = .ok (.aload_n 0, 1) := by decide +kernel
theorem d_m_isCode_6 : decode y_m_isCode.2.1 6 = .ok (.getfield 10, 3) := by decide +kernel
theorem d_m_isCode_9 : decode y_m_isCode.2.1 9 = .ok (.invokevirtual 33, 3) := by decide +kernel
theorem d_m_isCode_12 : decode y_m_isCode.2.1 12 = .ok (.if_icmp .ge 7, 3) := by decide +kernel
theorem d_m_isCode_15 : decode y_m_isCode.2.1 15 = .ok (.iconst 1, 1) := by decide +kernel
theorem d_m_isCode_16 : decode y_m_isCode.2.1 16 = .ok (.goto 4, 3) := by decide +kernel
theorem d_m_isCode_19 : decode y_m_isCode.2.1 19 = .ok (.iconst 0, 1) := by decide +kernel
theorem d_m_isCode_20 : decode y_m_isCode.2.1 20 = .ok (.ireturn, 1) := by decide +kernel
theorem d_m_isGood_0 : decode y_m_isGood.2.1 0 = .ok (.aload_n 1, 1) := by decide +kernel
theorem d_m_isGood_1 : decode y_m_isGood.2.1 1 = .ok (.getfield 50, 3) := by decide +kernel
theorem d_m_isGood_4 : decode y_m_isGood.2.1 4 = .ok (.aload_n 1, 1) := by decide +kernel
theorem d_m_isGood_5 : decode y_m_isGood.2.1 5 = .ok (.getfield 87, 3) := by decide +kernel
theorem d_m_isGood_8 : decode y_m_isGood.2.1 8 = .ok (.if_icmp .lt 27, 3) := by decide +kernel
theorem d_m_isGood_11 : decode y_m_isGood.2.1 11 = .ok (.aload_n 1, 1) := by decide +kernel
theorem d_m_isGood_12 : decode y_m_isGood.2.1 12 = .ok (.getfield 56, 3) := by decide +kernel
theorem d_m_isGood_15 : decode y_m_isGood.2.1 15 = .ok (.ifCond .eq 20, 3) := by decide +kernel
theorem d_m_isGood_18 : decode y_m_isGood.2.1 18 = .ok (.aload_n 1, 1) := by decide +kernel
theorem d_m_isGood_19 : decode y_m_isGood.2.1 19 = .ok (.getfield 59, 3) := by decide +kernel
theorem d_m_isGood_22 : decode y_m_isGood.2.1 22 = .ok (.aload_n 1, 1) := by decide +kernel
theorem d_m_isGood_23 : decode y_m_isGood.2.1 23 = .ok (.getfield 56, 3) := by decide +kernel
theorem d_m_isGood_26 : decode y_m_isGood.2.1 26 = .ok (.iconst 1, 1) := by decide +kernel
theorem d_m_isGood_27 : decode y_m_isGood.2.1 27 = .ok (.isub, 1) := by decide +kernel
theorem d_m_isGood_28 : decode y_m_isGood.2.1 28 = .ok (.iaload, 1) := by decide +kernel
theorem d_m_isGood_29 : decode y_m_isGood.2.1 29 = .ok (.invokestatic 90, 3) := by decide +kernel
theorem d_m_isGood_32 : decode y_m_isGood.2.1 32 = .ok (.ifCond .ne 5, 3) := by decide +kernel
theorem d_m_isGood_35 : decode y_m_isGood.2.1 35 = .ok (.iconst 0, 1) := by decide +kernel
theorem d_m_isGood_36 : decode y_m_isGood.2.1 36 = .ok (.ireturn, 1) := by decide +kernel
theorem d_m_isGood_37 : decode y_m_isGood.2.1 37 = .ok (.iconst 0, 1) := by decide +kernel
theorem d_m_isGood_38 : decode y_m_isGood.2.1 38 = .ok (.istore_n 2, 1) := by decide +kernel
theorem d_m_isGood_39 : decode y_m_isGood.2.1 39 = .ok (.iload_n 2, 1) := by decide +kernel
theorem d_m_isGood_40 : decode y_m_isGood.2.1 40 = .ok (.aload_n 1, 1) := by decide +kernel
theorem d_m_isGood_41 : decode y_m_isGood.2.1 41 = .ok (.getfield 69, 3) := by decide +kernel
theorem d_m_isGood_44 : decode y_m_isGood.2.1 44 = .ok (.if_icmp .ge 52, 3) := by decide +kernel
theorem d_m_isGood_47 : decode y_m_isGood.2.1 47 = .ok (.aload_n 1, 1) := by decide +kernel
theorem d_m_isGood_48 : decode y_m_isGood.2.1 48 = .ok (.getfield 72, 3) := by decide +kernel
theorem d_m_isGood_51 : decode y_m_isGood.2.1 51 = .ok (.iload_n 2, 1) := by decide +kernel
theorem d_m_isGood_52 : decode y_m_isGood.2.1 52 = .ok (.iaload, 1) := by decide +kernel
theorem d_m_isGood_53 : decode y_m_isGood.2.1 53 = .ok (.aload_n 1, 1) := by decide +kernel
theorem d_m_isGood_54 : decode y_m_isGood.2.1 54 = .ok (.getfield 75, 3) := by decide +kernel
theorem d_m_isGood_57 : decode y_m_isGood.2.1 57 = .ok (.iload_n 2, 1) := by decide +kernel
theorem d_m_isGood_58 : decode y_m_isGood.2.1 58 = .ok (.iaload, 1) := by decide +kernel
theorem d_m_isGood_59 : decode y_m_isGood.2.1 59 = .ok (.if_icmp .ge 29, 3) := by decide +kernel
theorem d_m_isGood_62 : decode y_m_isGood.2.1 62 = .ok (.aload_n 1, 1) := by decide +kernel
theorem d_m_isGood_63 : decode y_m_isGood.2.1 63 = .ok (.getfield 75, 3) := by decide +kernel
theorem d_m_isGood_66 : decode y_m_isGood.2.1 66 = .ok (.iload_n 2, 1) := by decide +kernel
theorem d_m_isGood_67 : decode y_m_isGood.2.1 67 = .ok (.iaload, 1) := by decide +kernel
theorem d_m_isGood_68 : decode y_m_isGood.2.1 68 = .ok (.aload_n 1, 1) := by decide +kernel
theorem d_m_isGood_69 : decode y_m_isGood.2.1 69 = .ok (.getfield 56, 3) := by decide +kernel
theorem d_m_isGood_72 : decode y_m_isGood.2.1 72 = .ok (.if_icmp .gt 16, 3) := by decide +kernel
theorem d_m_isGood_75 : decode y_m_isGood.2.1 75 = .ok (.aload_n 1, 1) := by decide +kernel
theorem d_m_isGood_76 : decode y_m_isGood.2.1 76 = .ok (.getfield 78, 3) := by decide +kernel
theorem d_m_isGood_79 : decode y_m_isGood.2.1 79 = .ok (.iload_n 2, 1) := by decide +kernel
theorem d_m_isGood_80 : decode y_m_isGood.2.1 80 = .ok (.iaload, 1) := by decide +kernel
theorem d_m_isGood_81 : decode y_m_isGood.2.1 81 = .ok (.aload_n 1, 1) := by decide +kernel
theorem d_m_isGood_82 : decode y_m_isGood.2.1 82 = .ok (.getfield 56, 3) := by decide +kernel
theorem d_m_isGood_85 : decode y_m_isGood.2.1 85 = .ok (.if_icmp .lt 5, 3) := by decide +kernel
theorem d_m_isGood_88 : decode y_m_isGood.2.1 88 = .ok (.iconst 0, 1) := by decide +kernel
theorem d_m_isGood_89 : decode y_m_isGood.2.1 89 = .ok (.ireturn, 1) := by decide +kernel
theorem d_m_isGood_90 : decode y_m_isGood.2.1 90 = .ok (.iinc 2 1, 3) := by decide +kernel
theorem d_m_isGood_93 : decode y_m_isGood.2.1 93 = .ok (.goto (-54), 3) := by decide +kernel
theorem d_m_isGood_96 : decode y_m_isGood.2.1 96 = .ok (.aload_n 0, 1) := by decide +kernel
theorem d_m_isGood_97 : decode y_m_isGood.2.1 97 = .ok (.iconst 0, 1) := by decide +kernel
theorem d_m_isGood_98 : decode y_m_isGood.2.1 98 = .ok (.putfield 84, 3) := by decide +kernel
theorem d_m_isGood_101 : decode y_m_isGood.2.1 101 = .ok (.iconst 0, 1) := by decide +kernel
theorem d_m_isGood_102 : decode y_m_isGood.2.1 102 = .ok (.istore_n 2, 1) := by decide +kernel
theorem d_m_isGood_103 : decode y_m_isGood.2.1 103 = .ok (.iload_n 2, 1) := by decide +kernel
theorem d_m_isGood_104 : decode y_m_isGood.2.1 104 = .ok (.aload_n 1, 1) := by decide +kernel
theorem d_m_isGood_105 : decode y_m_isGood.2.1 105 = .ok (.getfield 56, 3) := by decide +kernel
theorem d_m_isGood_108 : decode y_m_isGood.2.1 108 = .ok (.if_icmp .ge 124, 3) := by decide +kernel
theorem d_m_isGood_111 : decode y_m_isGood.2.1 111 = .ok (.iload_n 2, 1) := by decide +kernel
theorem d_m_isGood_112 : decode y_m_isGood.2.1 112 = .ok (.ifCond .eq 17, 3) := by decide +kernel
theorem d_m_isGood_115 : decode y_m_isGood.2.1 115 = .ok (.aload_n 1, 1) := by decide +kernel
theorem d_m_isGood_116 : decode y_m_isGood.2.1 116 = .ok (.getfield 59, 3) := by decide +kernel
theorem d_m_isGood_119 : decode y_m_isGood.2.1 119 = .ok (.iload_n 2, 1) := by decide +kernel
theorem d_m_isGood_120 : decode y_m_isGood.2.1 120 = .ok (.iconst 1, 1) := by decide +kernel
theorem d_m_isGood_121 : decode y_m_isGood.2.1 121 = .ok (.isub, 1) := by decide +kernel
theorem d_m_isGood_122 : decode y_m_isGood.2.1 122 = .ok (.iaload, 1) := by decide +kernel
theorem d_m_isGood_123 : decode y_m_isGood.2.1 123 = .ok (.invokestatic 90, 3) := by decide +kernel
theorem d_m_isGood_126 : decode y_m_isGood.2.1 126 = .ok (.ifCond .ne 7, 3) := by decide +kernel
theorem d_m_isGood_129 : decode y_m_isGood.2.1 129 = .ok (.iconst 1, 1) := by decide +kernel
theorem d_m_isGood_130 : decode y_m_isGood.2.1 130 = .ok (.goto 4, 3) := by decide +kernel
theorem d_m_isGood_133 : decode y_m_isGood.2.1 133 = .ok (.iconst 0, 1) := by decide +kernel
theorem d_m_isGood_134 : decode y_m_isGood.2.1 134 = .ok (.istore_n 3, 1) := by decide +kernel
theorem d_m_isGood_135 : decode y_m_isGood.2.1 135 = .ok (.iload_n 3, 1) := by decide +kernel
theorem d_m_isGood_136 : decode y_m_isGood.2.1 136 = .ok (.ifCond .ne 13, 3) := by decide +kernel
theorem d_m_isGood_139 : decode y_m_isGood.2.1 139 = .ok (.aload_n 1, 1) := by decide +kernel
theorem d_m_isGood_140 : decode y_m_isGood.2.1 140 = .ok (.iload_n 2, 1) := by decide +kernel
theorem d_m_isGood_141 : decode y_m_isGood.2.1 141 = .ok (.invokevirtual 93, 3) := by decide +kernel
theorem d_m_isGood_144 : decode y_m_isGood.2.1 144 = .ok (.ifCond .ne 5, 3) := by decide +kernel
theorem d_m_isGood_147 : decode y_m_isGood.2.1 147 = .ok (.iconst 0, 1) := by decide +kernel
theorem d_m_isGood_148 : decode y_m_isGood.2.1 148 = .ok (.ireturn, 1) := by decide +kernel
theorem d_m_isGood_149 : decode y_m_isGood.2.1 149 = .ok (.aload_n 1, 1) := by decide +kernel
theorem d_m_isGood_150 : decode y_m_isGood.2.1 150 = .ok (.iload_n 2, 1) := by decide +kernel
theorem d_m_isGood_151 : decode y_m_isGood.2.1 151 = .ok (.invokevirtual 96, 3) := by decide +kernel
theorem d_m_isGood_154 : decode y_m_isGood.2.1 154 = .ok (.ifCond .eq 24, 3) := by decide +kernel
theorem d_m_isGood_157 : decode y_m_isGood.2.1 157 = .ok (.iload_n 3, 1) := by decide +kernel
theorem d_m_isGood_158 : decode y_m_isGood.2.1 158 = .ok (.ifCond .eq 5, 3) := by decide +kernel
theorem d_m_isGood_161 : decode y_m_isGood.2.1 161 = .ok (.iconst 0, 1) := by decide +kernel
theorem d_m_isGood_162 : decode y_m_isGood.2.1 162 = .ok (.ireturn, 1) := by decide +kernel
theorem d_m_isGood_163 : decode y_m_isGood.2.1 163 = .ok (.aload_n 0, 1) := by decide +kernel
theorem d_m_isGood_164 : decode y_m_isGood.2.1 164 = .ok (.getfield 26, 3) := by decide +kernel
theorem d_m_isGood_167 : decode y_m_isGood.2.1 167 = .ok (.iconst 0, 1) := by decide +kernel
theorem d_m_isGood_168 : decode y_m_isGood.2.1 168 = .ok (.iconst 2, 1) := by decide +kernel
theorem d_m_isGood_169 : decode y_m_isGood.2.1 169 = .ok (.iastore, 1) := by decide +kernel
theorem d_m_isGood_170 : decode y_m_isGood.2.1 170 = .ok (.aload_n 0, 1) := by decide +kernel
theorem d_m_isGood_171 : decode y_m_isGood.2.1 171 = .ok (.iconst 1, 1) := by decide +kernel
theorem d_m_isGood_172 : decode y_m_isGood.2.1 172 = .ok (.putfield 84, 3) := by decide +kernel
theorem d_m_isGood_175 : decode y_m_isGood.2.1 175 = .ok (.goto 29, 3) := by decide +kernel
theorem d_m_isGood_178 : decode y_m_isGood.2.1 178 = .ok (.aload_n 1, 1) := by decide +kernel
theorem d_m_isGood_179 : decode y_m_isGood.2.1 179 = .ok (.iload_n 2, 1) := by decide +kernel
theorem d_m_isGood_180 : decode y_m_isGood.2.1 180 = .ok (.invokevirtual 93, 3) := by decide +kernel
theorem d_m_isGood_183 : decode y_m_isGood.2.1 183 = .ok (.ifCond .eq 21, 3) := by decide +kernel
theorem d_m_isGood_186 : decode y_m_isGood.2.1 186 = .ok (.iload_n 3, 1) := by decide +kernel
theorem d_m_isGood_187 : decode y_m_isGood.2.1 187 = .ok (.ifCond .eq 12, 3) := by decide +kernel
theorem d_m_isGood_190 : decode y_m_isGood.2.1 190 = .ok (.aload_n 0, 1) := by decide +kernel
theorem d_m_isGood_191 : decode y_m_isGood.2.1 191 = .ok (.getfield 84, 3) := by decide +kernel
theorem d_m_isGood_194 : decode y_m_isGood.2.1 194 = .ok (.ifCond .le 5, 3) := by decide +kernel
theorem d_m_isGood_197 : decode y_m_isGood.2.1 197 = .ok (.iconst 0, 1) := by decide +kernel
theorem d_m_isGood_198 : decode y_m_isGood.2.1 198 = .ok (.ireturn, 1) := by decide +kernel
theorem d_m_isGood_199 : decode y_m_isGood.2.1 199 = .ok (.aload_n 0, 1) := by decide +kernel
theorem d_m_isGood_200 : decode y_m_isGood.2.1 200 = .ok (.iconst 0, 1) := by decide +kernel
theorem d_m_isGood_201 : decode y_m_isGood.2.1 201 = .ok (.putfield 84, 3) := by decide +kernel
theorem d_m_isGood_204 : decode y_m_isGood.2.1 204 = .ok (.aload_n 0, 1) := by decide +kernel
theorem d_m_isGood_205 : decode y_m_isGood.2.1 205 = .ok (.aload_n 1, 1) := by decide +kernel
theorem d_m_isGood_206 : decode y_m_isGood.2.1 206 = .ok (.aload_n 1, 1) := by decide +kernel
theorem d_m_isGood_207 : decode y_m_isGood.2.1 207 = .ok (.getfield 59, 3) := by decide +kernel
theorem d_m_isGood_210 : decode y_m_isGood.2.1 210 = .ok (.iload_n 2, 1) := by decide +kernel
theorem d_m_isGood_211 : decode y_m_isGood.2.1 211 = .ok (.iaload, 1) := by decide +kernel
theorem d_m_isGood_212 : decode y_m_isGood.2.1 212 = .ok (.aload_n 1, 1) := by decide +kernel
theorem d_m_isGood_213 : decode y_m_isGood.2.1 213 = .ok (.getfield 62, 3) := by decide +kernel
theorem d_m_isGood_216 : decode y_m_isGood.2.1 216 = .ok (.iload_n 2, 1) := by decide +kernel
theorem d_m_isGood_217 : decode y_m_isGood.2.1 217 = .ok (.iaload, 1) := by decide +kernel
theorem d_m_isGood_218 : decode y_m_isGood.2.1 218 = .ok (.invokevirtual 99, 3) := by decide +kernel
theorem d_m_isGood_221 : decode y_m_isGood.2.1 221 = .ok (.ifCond .ne 5, 3) := by decide +kernel
theorem d_m_isGood_224 : decode y_m_isGood.2.1 224 = .ok (.iconst 0, 1) := by decide +kernel
theorem d_m_isGood_225 : decode y_m_isGood.2.1 225 = .ok (.ireturn, 1) := by decide +kernel
theorem d_m_isGood_226 : decode y_m_isGood.2.1 226 = .ok (.iinc 2 1, 3) := by decide +kernel
theorem d_m_isGood_229 : decode y_m_isGood.2.1 229 = .ok (.goto (-126), 3) := by decide +kernel
theorem d_m_isGood_232 : decode y_m_isGood.2.1 232 = .ok (.iconst 1, 1) := by decide +kernel
theorem d_m_isGood_233 : decode y_m_isGood.2.1 233 = .ok (.ireturn, 1) := by decide +kernel
theorem d_m_isLeaving_0 : decode y_m_isLeaving.2.1 0 = .ok (.iload_n 0, 1) := by decide +kernel
theorem d_m_isLeaving_1 : decode y_m_isLeaving.2.1 1 = .ok (.bipush 11, 2) := by decide +kernel
theorem d_m_isLeaving_3 : decode y_m_isLeaving.2.1 3 = .ok (.if_icmp .eq 15, 3) := by decide +kernel
theorem d_m_isLeaving_6 : decode y_m_isLeaving.2.1 6 = .ok (.iload_n 0, 1) := by decide +kernel
theorem d_m_isLeaving_7 : decode y_m_isLeaving.2.1 7 = .ok (.bipush 19, 2) := by decide +kernel
theorem d_m_isLeaving_9 : decode y_m_isLeaving.2.1 9 = .ok (.if_icmp .eq 9, 3) := by decide +kernel
theorem d_m_isLeaving_12 : decode y_m_isLeaving.2.1 12 = .ok (.iload_n 0, 1) := by decide +kernel
theorem d_m_isLeaving_13 : decode y_m_isLeaving.2.1 13 = .ok (.bipush 22, 2) := by decide +kernel
theorem d_m_isLeaving_15 : decode y_m_isLeaving.2.1 15 = .ok (.if_icmp .ne 7, 3) := by decide +kernel
theorem d_m_isLeaving_18 : decode y_m_isLeaving.2.1 18 = .ok (.iconst 1, 1) := by decide +kernel
theorem d_m_isLeaving_19 : decode y_m_isLeaving.2.1 19 = .ok (.goto 4, 3) := by decide +kernel
theorem d_m_isLeaving_22 : decode y_m_isLeaving.2.1 22 = .ok (.iconst 0, 1) := by decide +kernel
theorem d_m_isLeaving_23 : decode y_m_isLeaving.2.1 23 = .ok (.ireturn, 1) := by decide +kernel
theorem d_mC_isLabel_0 : decode y_mC_isLabel.2.1 0 = .ok (.iconst 0, 1) := by decide +kernel
theorem d_mC_isLabel_1 : decode y_mC_isLabel.2.1 1 = .ok (.istore_n 2, 1) := by decide +kernel
theorem d_mC_isLabel_2 : decode y_mC_isLabel.2.1 2 = .ok (.iload_n 2, 1) := by decide +kernel
theorem d_mC_isLabel_3 : decode y_mC_isLabel.2.1 3 = .ok (.aload_n 0, 1) := by decide +kernel
theorem d_mC_isLabel_4 : decode y_mC_isLabel.2.1 4 = .ok (.getfield 40, 3) := by decide +kernel
theorem d_mC_isLabel_7 : decode y_mC_isLabel.2.1 7 = .ok (.if_icmp .ge 41, 3) := by decide +kernel
theorem d_mC_isLabel_10 : decode y_mC_isLabel.2.1 10 = .ok (.aload_n 0, 1) := by decide +kernel
theorem d_mC_isLabel_11 : decode y_mC_isLabel.2.1 11 = .ok (.getfield 27, 3) := by decide +kernel
theorem d_mC_isLabel_14 : decode y_mC_isLabel.2.1 14 = .ok (.iload_n 2, 1) := by decide +kernel
theorem d_mC_isLabel_15 : decode y_mC_isLabel.2.1 15 = .ok (.iaload, 1) := by decide +kernel
theorem d_mC_isLabel_16 : decode y_mC_isLabel.2.1 16 = .ok (.iload_n 1, 1) := by decide +kernel
theorem d_mC_isLabel_17 : decode y_mC_isLabel.2.1 17 = .ok (.if_icmp .eq 23, 3) := by decide +kernel
theorem d_mC_isLabel_20 : decode y_mC_isLabel.2.1 20 = .ok (.aload_n 0, 1) := by decide +kernel
theorem d_mC_isLabel_21 : decode y_mC_isLabel.2.1 21 = .ok (.getfield 21, 3) := by decide +kernel
theorem d_mC_isLabel_24 : decode y_mC_isLabel.2.1 24 = .ok (.iload_n 2, 1) := by decide +kernel
theorem d_mC_isLabel_25 : decode y_mC_isLabel.2.1 25 = .ok (.iaload, 1) := by decide +kernel
theorem d_mC_isLabel_26 : decode y_mC_isLabel.2.1 26 = .ok (.iload_n 1, 1) := by decide +kernel
theorem d_mC_isLabel_27 : decode y_mC_isLabel.2.1 27 = .ok (.if_icmp .eq 13, 3) := by decide +kernel
theorem d_mC_isLabel_30 : decode y_mC_isLabel.2.1 30 = .ok (.aload_n 0, 1) := by decide +kernel
theorem d_mC_isLabel_31 : decode y_mC_isLabel.2.1 31 = .ok (.getfield 24, 3) := by decide +kernel
theorem d_mC_isLabel_34 : decode y_mC_isLabel.2.1 34 = .ok (.iload_n 2, 1) := by decide +kernel
theorem d_mC_isLabel_35 : decode y_mC_isLabel.2.1 35 = .ok (.iaload, 1) := by decide +kernel
theorem d_mC_isLabel_36 : decode y_mC_isLabel.2.1 36 = .ok (.iload_n 1, 1) := by decide +kernel
theorem d_mC_isLabel_37 : decode y_mC_isLabel.2.1 37 = .ok (.if_icmp .ne 5, 3) := by decide +kernel
theorem d_mC_isLabel_40 : decode y_mC_isLabel.2.1 40 = .ok (.iconst 1, 1) := by decide +kernel
theorem d_mC_isLabel_41 : decode y_mC_isLabel.2.1 41 = .ok (.ireturn, 1) := by decide +kernel
theorem d_mC_isLabel_42 : decode y_mC_isLabel.2.1 42 = .ok (.iinc 2 1, 3) := by decide +kernel
theorem d_mC_isLabel_45 : decode y_mC_isLabel.2.1 45 = .ok (.goto (-43), 3) := by decide +kernel
theorem d_mC_isLabel_48 : decode y_mC_isLabel.2.1 48 = .ok (.iconst 0, 1) := by decide +kernel
theorem d_mC_isLabel_49 : decode y_mC_isLabel.2.1 49 = .ok (.istore_n 2, 1) := by decide +kernel
theorem d_mC_isLabel_50 : decode y_mC_isLabel.2.1 50 = .ok (.iload_n 2, 1) := by decide +kernel
theorem d_mC_isLabel_51 : decode y_mC_isLabel.2.1 51 = .ok (.aload_n 0, 1) := by decide +kernel
theorem d_mC_isLabel_52 : decode y_mC_isLabel.2.1 52 = .ok (.getfield 43, 3) := by decide +kernel
theorem d_mC_isLabel_55 : decode y_mC_isLabel.2.1 55 = .ok (.if_icmp .ge 43, 3) := by decide +kernel
theorem d_mC_isLabel_58 : decode y_mC_isLabel.2.1 58 = .ok (.aload_n 0, 1) := by decide +kernel
theorem d_mC_isLabel_59 : decode y_mC_isLabel.2.1 59 = .ok (.getfield 15, 3) := by decide +kernel
theorem d_mC_isLabel_62 : decode y_mC_isLabel.2.1 62 = .ok (.iload_n 2, 1) := by decide +kernel
theorem d_mC_isLabel_63 : decode y_mC_isLabel.2.1 63 = .ok (.iaload, 1) := by decide +kernel
theorem d_mC_isLabel_64 : decode y_mC_isLabel.2.1 64 = .ok (.bipush 11, 2) := by decide +kernel
theorem d_mC_isLabel_66 : decode y_mC_isLabel.2.1 66 = .ok (.if_icmp .lt 26, 3) := by decide +kernel
theorem d_mC_isLabel_69 : decode y_mC_isLabel.2.1 69 = .ok (.aload_n 0, 1) := by decide +kernel
theorem d_mC_isLabel_70 : decode y_mC_isLabel.2.1 70 = .ok (.getfield 15, 3) := by decide +kernel
theorem d_mC_isLabel_73 : decode y_mC_isLabel.2.1 73 = .ok (.iload_n 2, 1) := by decide +kernel
theorem d_mC_isLabel_74 : decode y_mC_isLabel.2.1 74 = .ok (.iaload, 1) := by decide +kernel
theorem d_mC_isLabel_75 : decode y_mC_isLabel.2.1 75 = .ok (.bipush 13, 2) := by decide +kernel
theorem d_mC_isLabel_77 : decode y_mC_isLabel.2.1 77 = .ok (.if_icmp .gt 15, 3) := by decide +kernel
theorem d_mC_isLabel_80 : decode y_mC_isLabel.2.1 80 = .ok (.aload_n 0, 1) := by decide +kernel
theorem d_mC_isLabel_81 : decode y_mC_isLabel.2.1 81 = .ok (.getfield 18, 3) := by decide +kernel
theorem d_mC_isLabel_84 : decode y_mC_isLabel.2.1 84 = .ok (.iload_n 2, 1) := by decide +kernel
theorem d_mC_isLabel_85 : decode y_mC_isLabel.2.1 85 = .ok (.iaload, 1) := by decide +kernel
theorem d_mC_isLabel_86 : decode y_mC_isLabel.2.1 86 = .ok (.iload_n 1, 1) := by decide +kernel
theorem d_mC_isLabel_87 : decode y_mC_isLabel.2.1 87 = .ok (.if_icmp .ne 5, 3) := by decide +kernel
theorem d_mC_isLabel_90 : decode y_mC_isLabel.2.1 90 = .ok (.iconst 1, 1) := by decide +kernel
theorem d_mC_isLabel_91 : decode y_mC_isLabel.2.1 91 = .ok (.ireturn, 1) := by decide +kernel
theorem d_mC_isLabel_92 : decode y_mC_isLabel.2.1 92 = .ok (.iinc 2 1, 3) := by decide +kernel
theorem d_mC_isLabel_95 : decode y_mC_isLabel.2.1 95 = .ok (.goto (-45), 3) := by decide +kernel
theorem d_mC_isLabel_98 : decode y_mC_isLabel.2.1 98 = .ok (.iconst 0, 1) := by decide +kernel
theorem d_mC_isLabel_99 : decode y_mC_isLabel.2.1 99 = .ok (.ireturn, 1) := by decide +kernel
theorem d_mC_isTaker_0 : decode y_mC_isTaker.2.1 0 = .ok (.iconst 0, 1) := by decide +kernel
theorem d_mC_isTaker_1 : decode y_mC_isTaker.2.1 1 = .ok (.istore_n 2, 1) := by decide +kernel
theorem d_mC_isTaker_2 : decode y_mC_isTaker.2.1 2 = .ok (.iload_n 2, 1) := by decide +kernel
theorem d_mC_isTaker_3 : decode y_mC_isTaker.2.1 3 = .ok (.aload_n 0, 1) := by decide +kernel
theorem d_mC_isTaker_4 : decode y_mC_isTaker.2.1 4 = .ok (.getfield 40, 3) := by decide +kernel
theorem d_mC_isTaker_7 : decode y_mC_isTaker.2.1 7 = .ok (.if_icmp .ge 21, 3) := by decide +kernel
theorem d_mC_isTaker_10 : decode y_mC_isTaker.2.1 10 = .ok (.aload_n 0, 1) := by decide +kernel
theorem d_mC_isTaker_11 : decode y_mC_isTaker.2.1 11 = .ok (.getfield 27, 3) := by decide +kernel
theorem d_mC_isTaker_14 : decode y_mC_isTaker.2.1 14 = .ok (.iload_n 2, 1) := by decide +kernel
theorem d_mC_isTaker_15 : decode y_mC_isTaker.2.1 15 = .ok (.iaload, 1) := by decide +kernel
theorem d_mC_isTaker_16 : decode y_mC_isTaker.2.1 16 = .ok (.iload_n 1, 1) := by decide +kernel
theorem d_mC_isTaker_17 : decode y_mC_isTaker.2.1 17 = .ok (.if_icmp .ne 5, 3) := by decide +kernel
theorem d_mC_isTaker_20 : decode y_mC_isTaker.2.1 20 = .ok (.iconst 1, 1) := by decide +kernel
theorem d_mC_isTaker_21 : decode y_mC_isTaker.2.1 21 = .ok (.ireturn, 1) := by decide +kernel
theorem d_mC_isTaker_22 : decode y_mC_isTaker.2.1 22 = .ok (.iinc 2 1, 3) := by decide +kernel
theorem d_mC_isTaker_25 : decode y_mC_isTaker.2.1 25 = .ok (.goto (-23), 3) := by decide +kernel
theorem d_mC_isTaker_28 : decode y_mC_isTaker.2.1 28 = .ok (.iconst 0, 1) := by decide +kernel
theorem d_mC_isTaker_29 : decode y_mC_isTaker.2.1 29 = .ok (.ireturn, 1) := by decide +kernel
theorem d_m_isGoodStep_0 : decode y_m_isGoodStep.2.1 0 = .ok (.iload_n 2, 1) := by decide +kernel
theorem d_m_isGoodStep_1 : decode y_m_isGoodStep.2.1 1 = .ok (.tableswitch 472 0 26 #[123, 129, 135, 166, 197, 197, 197, 197, 197, 227, 253, 279, 286, 309, 129, 332, 354, 376, 472, 442, 442, 442, 448, 398, 420, 129, 442], 123) := by decide +kernel
theorem d_m_isGoodStep_124 : decode y_m_isGoodStep.2.1 124 = .ok (.aload_n 0, 1) := by decide +kernel
theorem d_m_isGoodStep_125 : decode y_m_isGoodStep.2.1 125 = .ok (.iconst 1, 1) := by decide +kernel
theorem d_m_isGoodStep_126 : decode y_m_isGoodStep.2.1 126 = .ok (.invokevirtual 103, 3) := by decide +kernel
theorem d_m_isGoodStep_129 : decode y_m_isGoodStep.2.1 129 = .ok (.ireturn, 1) := by decide +kernel
theorem d_m_isGoodStep_130 : decode y_m_isGoodStep.2.1 130 = .ok (.aload_n 0, 1) := by decide +kernel
theorem d_m_isGoodStep_131 : decode y_m_isGoodStep.2.1 131 = .ok (.iconst 2, 1) := by decide +kernel
theorem d_m_isGoodStep_132 : decode y_m_isGoodStep.2.1 132 = .ok (.invokevirtual 103, 3) := by decide +kernel
theorem d_m_isGoodStep_135 : decode y_m_isGoodStep.2.1 135 = .ok (.ireturn, 1) := by decide +kernel
theorem d_m_isGoodStep_136 : decode y_m_isGoodStep.2.1 136 = .ok (.aload_n 0, 1) := by decide +kernel
theorem d_m_isGoodStep_137 : decode y_m_isGoodStep.2.1 137 = .ok (.getfield 84, 3) := by decide +kernel
theorem d_m_isGoodStep_140 : decode y_m_isGoodStep.2.1 140 = .ok (.ifCond .le 25, 3) := by decide +kernel
theorem d_m_isGoodStep_143 : decode y_m_isGoodStep.2.1 143 = .ok (.aload_n 0, 1) := by decide +kernel
theorem d_m_isGoodStep_144 : decode y_m_isGoodStep.2.1 144 = .ok (.aload_n 0, 1) := by decide +kernel
theorem d_m_isGoodStep_145 : decode y_m_isGoodStep.2.1 145 = .ok (.getfield 26, 3) := by decide +kernel
theorem d_m_isGoodStep_148 : decode y_m_isGoodStep.2.1 148 = .ok (.aload_n 0, 1) := by decide +kernel
theorem d_m_isGoodStep_149 : decode y_m_isGoodStep.2.1 149 = .ok (.getfield 84, 3) := by decide +kernel
theorem d_m_isGoodStep_152 : decode y_m_isGoodStep.2.1 152 = .ok (.iconst 1, 1) := by decide +kernel
theorem d_m_isGoodStep_153 : decode y_m_isGoodStep.2.1 153 = .ok (.isub, 1) := by decide +kernel
theorem d_m_isGoodStep_154 : decode y_m_isGoodStep.2.1 154 = .ok (.iaload, 1) := by decide +kernel
theorem d_m_isGoodStep_155 : decode y_m_isGoodStep.2.1 155 = .ok (.invokevirtual 106, 3) := by decide +kernel
theorem d_m_isGoodStep_158 : decode y_m_isGoodStep.2.1 158 = .ok (.ifCond .eq 7, 3) := by decide +kernel
theorem d_m_isGoodStep_161 : decode y_m_isGoodStep.2.1 161 = .ok (.iconst 1, 1) := by decide +kernel
theorem d_m_isGoodStep_162 : decode y_m_isGoodStep.2.1 162 = .ok (.goto 4, 3) := by decide +kernel
theorem d_m_isGoodStep_165 : decode y_m_isGoodStep.2.1 165 = .ok (.iconst 0, 1) := by decide +kernel
theorem d_m_isGoodStep_166 : decode y_m_isGoodStep.2.1 166 = .ok (.ireturn, 1) := by decide +kernel
theorem d_m_isGoodStep_167 : decode y_m_isGoodStep.2.1 167 = .ok (.aload_n 0, 1) := by decide +kernel
theorem d_m_isGoodStep_168 : decode y_m_isGoodStep.2.1 168 = .ok (.getfield 84, 3) := by decide +kernel
theorem d_m_isGoodStep_171 : decode y_m_isGoodStep.2.1 171 = .ok (.ifCond .le 25, 3) := by decide +kernel
theorem d_m_isGoodStep_174 : decode y_m_isGoodStep.2.1 174 = .ok (.aload_n 0, 1) := by decide +kernel
theorem d_m_isGoodStep_175 : decode y_m_isGoodStep.2.1 175 = .ok (.aload_n 0, 1) := by decide +kernel
theorem d_m_isGoodStep_176 : decode y_m_isGoodStep.2.1 176 = .ok (.getfield 26, 3) := by decide +kernel
theorem d_m_isGoodStep_179 : decode y_m_isGoodStep.2.1 179 = .ok (.aload_n 0, 1) := by decide +kernel
theorem d_m_isGoodStep_180 : decode y_m_isGoodStep.2.1 180 = .ok (.getfield 84, 3) := by decide +kernel
theorem d_m_isGoodStep_183 : decode y_m_isGoodStep.2.1 183 = .ok (.iconst 1, 1) := by decide +kernel
theorem d_m_isGoodStep_184 : decode y_m_isGoodStep.2.1 184 = .ok (.isub, 1) := by decide +kernel
theorem d_m_isGoodStep_185 : decode y_m_isGoodStep.2.1 185 = .ok (.iaload, 1) := by decide +kernel
theorem d_m_isGoodStep_186 : decode y_m_isGoodStep.2.1 186 = .ok (.invokevirtual 103, 3) := by decide +kernel
theorem d_m_isGoodStep_189 : decode y_m_isGoodStep.2.1 189 = .ok (.ifCond .eq 7, 3) := by decide +kernel
theorem d_m_isGoodStep_192 : decode y_m_isGoodStep.2.1 192 = .ok (.iconst 1, 1) := by decide +kernel
theorem d_m_isGoodStep_193 : decode y_m_isGoodStep.2.1 193 = .ok (.goto 4, 3) := by decide +kernel
theorem d_m_isGoodStep_196 : decode y_m_isGoodStep.2.1 196 = .ok (.iconst 0, 1) := by decide +kernel
theorem d_m_isGoodStep_197 : decode y_m_isGoodStep.2.1 197 = .ok (.ireturn, 1) := by decide +kernel
theorem d_m_isGoodStep_198 : decode y_m_isGoodStep.2.1 198 = .ok (.aload_n 0, 1) := by decide +kernel
theorem d_m_isGoodStep_199 : decode y_m_isGoodStep.2.1 199 = .ok (.iconst 1, 1) := by decide +kernel
theorem d_m_isGoodStep_200 : decode y_m_isGoodStep.2.1 200 = .ok (.invokevirtual 106, 3) := by decide +kernel
theorem d_m_isGoodStep_203 : decode y_m_isGoodStep.2.1 203 = .ok (.ifCond .eq 23, 3) := by decide +kernel
theorem d_m_isGoodStep_206 : decode y_m_isGoodStep.2.1 206 = .ok (.aload_n 0, 1) := by decide +kernel
theorem d_m_isGoodStep_207 : decode y_m_isGoodStep.2.1 207 = .ok (.iconst 1, 1) := by decide +kernel
theorem d_m_isGoodStep_208 : decode y_m_isGoodStep.2.1 208 = .ok (.invokevirtual 106, 3) := by decide +kernel
theorem d_m_isGoodStep_211 : decode y_m_isGoodStep.2.1 211 = .ok (.ifCond .eq 15, 3) := by decide +kernel
theorem d_m_isGoodStep_214 : decode y_m_isGoodStep.2.1 214 = .ok (.aload_n 0, 1) := by decide +kernel
theorem d_m_isGoodStep_215 : decode y_m_isGoodStep.2.1 215 = .ok (.iconst 1, 1) := by decide +kernel
theorem d_m_isGoodStep_216 : decode y_m_isGoodStep.2.1 216 = .ok (.invokevirtual 103, 3) := by decide +kernel
theorem d_m_isGoodStep_219 : decode y_m_isGoodStep.2.1 219 = .ok (.ifCond .eq 7, 3) := by decide +kernel
theorem d_m_isGoodStep_222 : decode y_m_isGoodStep.2.1 222 = .ok (.iconst 1, 1) := by decide +kernel
theorem d_m_isGoodStep_223 : decode y_m_isGoodStep.2.1 223 = .ok (.goto 4, 3) := by decide +kernel
theorem d_m_isGoodStep_226 : decode y_m_isGoodStep.2.1 226 = .ok (.iconst 0, 1) := by decide +kernel
theorem d_m_isGoodStep_227 : decode y_m_isGoodStep.2.1 227 = .ok (.ireturn, 1) := by decide +kernel
theorem d_m_isGoodStep_228 : decode y_m_isGoodStep.2.1 228 = .ok (.aload_n 1, 1) := by decide +kernel
theorem d_m_isGoodStep_229 : decode y_m_isGoodStep.2.1 229 = .ok (.iload_n 3, 1) := by decide +kernel
theorem d_m_isGoodStep_230 : decode y_m_isGoodStep.2.1 230 = .ok (.invokestatic 109, 3) := by decide +kernel
theorem d_m_isGoodStep_233 : decode y_m_isGoodStep.2.1 233 = .ok (.ifCond .le 19, 3) := by decide +kernel
theorem d_m_isGoodStep_236 : decode y_m_isGoodStep.2.1 236 = .ok (.aload_n 0, 1) := by decide +kernel
theorem d_m_isGoodStep_237 : decode y_m_isGoodStep.2.1 237 = .ok (.aload_n 1, 1) := by decide +kernel
theorem d_m_isGoodStep_238 : decode y_m_isGoodStep.2.1 238 = .ok (.iload_n 3, 1) := by decide +kernel
theorem d_m_isGoodStep_239 : decode y_m_isGoodStep.2.1 239 = .ok (.invokestatic 109, 3) := by decide +kernel
theorem d_m_isGoodStep_242 : decode y_m_isGoodStep.2.1 242 = .ok (.invokevirtual 103, 3) := by decide +kernel
theorem d_m_isGoodStep_245 : decode y_m_isGoodStep.2.1 245 = .ok (.ifCond .eq 7, 3) := by decide +kernel
theorem d_m_isGoodStep_248 : decode y_m_isGoodStep.2.1 248 = .ok (.iconst 1, 1) := by decide +kernel
theorem d_m_isGoodStep_249 : decode y_m_isGoodStep.2.1 249 = .ok (.goto 4, 3) := by decide +kernel
theorem d_m_isGoodStep_252 : decode y_m_isGoodStep.2.1 252 = .ok (.iconst 0, 1) := by decide +kernel
theorem d_m_isGoodStep_253 : decode y_m_isGoodStep.2.1 253 = .ok (.ireturn, 1) := by decide +kernel
theorem d_m_isGoodStep_254 : decode y_m_isGoodStep.2.1 254 = .ok (.aload_n 1, 1) := by decide +kernel
theorem d_m_isGoodStep_255 : decode y_m_isGoodStep.2.1 255 = .ok (.iload_n 3, 1) := by decide +kernel
theorem d_m_isGoodStep_256 : decode y_m_isGoodStep.2.1 256 = .ok (.invokestatic 109, 3) := by decide +kernel
theorem d_m_isGoodStep_259 : decode y_m_isGoodStep.2.1 259 = .ok (.ifCond .le 19, 3) := by decide +kernel
theorem d_m_isGoodStep_262 : decode y_m_isGoodStep.2.1 262 = .ok (.aload_n 0, 1) := by decide +kernel
theorem d_m_isGoodStep_263 : decode y_m_isGoodStep.2.1 263 = .ok (.aload_n 1, 1) := by decide +kernel
theorem d_m_isGoodStep_264 : decode y_m_isGoodStep.2.1 264 = .ok (.iload_n 3, 1) := by decide +kernel
theorem d_m_isGoodStep_265 : decode y_m_isGoodStep.2.1 265 = .ok (.invokestatic 109, 3) := by decide +kernel
theorem d_m_isGoodStep_268 : decode y_m_isGoodStep.2.1 268 = .ok (.invokevirtual 106, 3) := by decide +kernel
theorem d_m_isGoodStep_271 : decode y_m_isGoodStep.2.1 271 = .ok (.ifCond .eq 7, 3) := by decide +kernel
theorem d_m_isGoodStep_274 : decode y_m_isGoodStep.2.1 274 = .ok (.iconst 1, 1) := by decide +kernel
theorem d_m_isGoodStep_275 : decode y_m_isGoodStep.2.1 275 = .ok (.goto 4, 3) := by decide +kernel
theorem d_m_isGoodStep_278 : decode y_m_isGoodStep.2.1 278 = .ok (.iconst 0, 1) := by decide +kernel
theorem d_m_isGoodStep_279 : decode y_m_isGoodStep.2.1 279 = .ok (.ireturn, 1) := by decide +kernel
theorem d_m_isGoodStep_280 : decode y_m_isGoodStep.2.1 280 = .ok (.aload_n 0, 1) := by decide +kernel
theorem d_m_isGoodStep_281 : decode y_m_isGoodStep.2.1 281 = .ok (.aload_n 1, 1) := by decide +kernel
theorem d_m_isGoodStep_282 : decode y_m_isGoodStep.2.1 282 = .ok (.iload_n 3, 1) := by decide +kernel
theorem d_m_isGoodStep_283 : decode y_m_isGoodStep.2.1 283 = .ok (.invokevirtual 113, 3) := by decide +kernel
theorem d_m_isGoodStep_286 : decode y_m_isGoodStep.2.1 286 = .ok (.ireturn, 1) := by decide +kernel
theorem d_m_isGoodStep_287 : decode y_m_isGoodStep.2.1 287 = .ok (.aload_n 0, 1) := by decide +kernel
theorem d_m_isGoodStep_288 : decode y_m_isGoodStep.2.1 288 = .ok (.iconst 1, 1) := by decide +kernel
theorem d_m_isGoodStep_289 : decode y_m_isGoodStep.2.1 289 = .ok (.invokevirtual 106, 3) := by decide +kernel
theorem d_m_isGoodStep_292 : decode y_m_isGoodStep.2.1 292 = .ok (.ifCond .eq 16, 3) := by decide +kernel
theorem d_m_isGoodStep_295 : decode y_m_isGoodStep.2.1 295 = .ok (.aload_n 0, 1) := by decide +kernel
theorem d_m_isGoodStep_296 : decode y_m_isGoodStep.2.1 296 = .ok (.aload_n 1, 1) := by decide +kernel
theorem d_m_isGoodStep_297 : decode y_m_isGoodStep.2.1 297 = .ok (.iload_n 3, 1) := by decide +kernel
theorem d_m_isGoodStep_298 : decode y_m_isGoodStep.2.1 298 = .ok (.invokevirtual 113, 3) := by decide +kernel
theorem d_m_isGoodStep_301 : decode y_m_isGoodStep.2.1 301 = .ok (.ifCond .eq 7, 3) := by decide +kernel
theorem d_m_isGoodStep_304 : decode y_m_isGoodStep.2.1 304 = .ok (.iconst 1, 1) := by decide +kernel
theorem d_m_isGoodStep_305 : decode y_m_isGoodStep.2.1 305 = .ok (.goto 4, 3) := by decide +kernel
theorem d_m_isGoodStep_308 : decode y_m_isGoodStep.2.1 308 = .ok (.iconst 0, 1) := by decide +kernel
theorem d_m_isGoodStep_309 : decode y_m_isGoodStep.2.1 309 = .ok (.ireturn, 1) := by decide +kernel
theorem d_m_isGoodStep_310 : decode y_m_isGoodStep.2.1 310 = .ok (.aload_n 0, 1) := by decide +kernel
theorem d_m_isGoodStep_311 : decode y_m_isGoodStep.2.1 311 = .ok (.iconst 2, 1) := by decide +kernel
theorem d_m_isGoodStep_312 : decode y_m_isGoodStep.2.1 312 = .ok (.invokevirtual 106, 3) := by decide +kernel
theorem d_m_isGoodStep_315 : decode y_m_isGoodStep.2.1 315 = .ok (.ifCond .eq 16, 3) := by decide +kernel
theorem d_m_isGoodStep_318 : decode y_m_isGoodStep.2.1 318 = .ok (.aload_n 0, 1) := by decide +kernel
theorem d_m_isGoodStep_319 : decode y_m_isGoodStep.2.1 319 = .ok (.aload_n 1, 1) := by decide +kernel
theorem d_m_isGoodStep_320 : decode y_m_isGoodStep.2.1 320 = .ok (.iload_n 3, 1) := by decide +kernel
theorem d_m_isGoodStep_321 : decode y_m_isGoodStep.2.1 321 = .ok (.invokevirtual 113, 3) := by decide +kernel
theorem d_m_isGoodStep_324 : decode y_m_isGoodStep.2.1 324 = .ok (.ifCond .eq 7, 3) := by decide +kernel
theorem d_m_isGoodStep_327 : decode y_m_isGoodStep.2.1 327 = .ok (.iconst 1, 1) := by decide +kernel
theorem d_m_isGoodStep_328 : decode y_m_isGoodStep.2.1 328 = .ok (.goto 4, 3) := by decide +kernel
theorem d_m_isGoodStep_331 : decode y_m_isGoodStep.2.1 331 = .ok (.iconst 0, 1) := by decide +kernel
theorem d_m_isGoodStep_332 : decode y_m_isGoodStep.2.1 332 = .ok (.ireturn, 1) := by decide +kernel
theorem d_m_isGoodStep_333 : decode y_m_isGoodStep.2.1 333 = .ok (.aload_n 0, 1) := by decide +kernel
theorem d_m_isGoodStep_334 : decode y_m_isGoodStep.2.1 334 = .ok (.iconst 2, 1) := by decide +kernel
theorem d_m_isGoodStep_335 : decode y_m_isGoodStep.2.1 335 = .ok (.invokevirtual 106, 3) := by decide +kernel
theorem d_m_isGoodStep_338 : decode y_m_isGoodStep.2.1 338 = .ok (.ifCond .eq 15, 3) := by decide +kernel
theorem d_m_isGoodStep_341 : decode y_m_isGoodStep.2.1 341 = .ok (.aload_n 0, 1) := by decide +kernel
theorem d_m_isGoodStep_342 : decode y_m_isGoodStep.2.1 342 = .ok (.iconst 1, 1) := by decide +kernel
theorem d_m_isGoodStep_343 : decode y_m_isGoodStep.2.1 343 = .ok (.invokevirtual 103, 3) := by decide +kernel
theorem d_m_isGoodStep_346 : decode y_m_isGoodStep.2.1 346 = .ok (.ifCond .eq 7, 3) := by decide +kernel
theorem d_m_isGoodStep_349 : decode y_m_isGoodStep.2.1 349 = .ok (.iconst 1, 1) := by decide +kernel
theorem d_m_isGoodStep_350 : decode y_m_isGoodStep.2.1 350 = .ok (.goto 4, 3) := by decide +kernel
theorem d_m_isGoodStep_353 : decode y_m_isGoodStep.2.1 353 = .ok (.iconst 0, 1) := by decide +kernel
theorem d_m_isGoodStep_354 : decode y_m_isGoodStep.2.1 354 = .ok (.ireturn, 1) := by decide +kernel
theorem d_m_isGoodStep_355 : decode y_m_isGoodStep.2.1 355 = .ok (.aload_n 0, 1) := by decide +kernel
theorem d_m_isGoodStep_356 : decode y_m_isGoodStep.2.1 356 = .ok (.iconst 2, 1) := by decide +kernel
theorem d_m_isGoodStep_357 : decode y_m_isGoodStep.2.1 357 = .ok (.invokevirtual 106, 3) := by decide +kernel
theorem d_m_isGoodStep_360 : decode y_m_isGoodStep.2.1 360 = .ok (.ifCond .eq 15, 3) := by decide +kernel
theorem d_m_isGoodStep_363 : decode y_m_isGoodStep.2.1 363 = .ok (.aload_n 0, 1) := by decide +kernel
theorem d_m_isGoodStep_364 : decode y_m_isGoodStep.2.1 364 = .ok (.iconst 1, 1) := by decide +kernel
theorem d_m_isGoodStep_365 : decode y_m_isGoodStep.2.1 365 = .ok (.invokevirtual 103, 3) := by decide +kernel
theorem d_m_isGoodStep_368 : decode y_m_isGoodStep.2.1 368 = .ok (.ifCond .eq 7, 3) := by decide +kernel
theorem d_m_isGoodStep_371 : decode y_m_isGoodStep.2.1 371 = .ok (.iconst 1, 1) := by decide +kernel
theorem d_m_isGoodStep_372 : decode y_m_isGoodStep.2.1 372 = .ok (.goto 4, 3) := by decide +kernel
theorem d_m_isGoodStep_375 : decode y_m_isGoodStep.2.1 375 = .ok (.iconst 0, 1) := by decide +kernel
theorem d_m_isGoodStep_376 : decode y_m_isGoodStep.2.1 376 = .ok (.ireturn, 1) := by decide +kernel
theorem d_m_isGoodStep_377 : decode y_m_isGoodStep.2.1 377 = .ok (.aload_n 0, 1) := by decide +kernel
theorem d_m_isGoodStep_378 : decode y_m_isGoodStep.2.1 378 = .ok (.iconst 1, 1) := by decide +kernel
theorem d_m_isGoodStep_379 : decode y_m_isGoodStep.2.1 379 = .ok (.invokevirtual 106, 3) := by decide +kernel
theorem d_m_isGoodStep_382 : decode y_m_isGoodStep.2.1 382 = .ok (.ifCond .eq 15, 3) := by decide +kernel
theorem d_m_isGoodStep_385 : decode y_m_isGoodStep.2.1 385 = .ok (.aload_n 0, 1) := by decide +kernel
theorem d_m_isGoodStep_386 : decode y_m_isGoodStep.2.1 386 = .ok (.iconst 2, 1) := by decide +kernel
theorem d_m_isGoodStep_387 : decode y_m_isGoodStep.2.1 387 = .ok (.invokevirtual 106, 3) := by decide +kernel
theorem d_m_isGoodStep_390 : decode y_m_isGoodStep.2.1 390 = .ok (.ifCond .eq 7, 3) := by decide +kernel
theorem d_m_isGoodStep_393 : decode y_m_isGoodStep.2.1 393 = .ok (.iconst 1, 1) := by decide +kernel
theorem d_m_isGoodStep_394 : decode y_m_isGoodStep.2.1 394 = .ok (.goto 4, 3) := by decide +kernel
theorem d_m_isGoodStep_397 : decode y_m_isGoodStep.2.1 397 = .ok (.iconst 0, 1) := by decide +kernel
theorem d_m_isGoodStep_398 : decode y_m_isGoodStep.2.1 398 = .ok (.ireturn, 1) := by decide +kernel
theorem d_m_isGoodStep_399 : decode y_m_isGoodStep.2.1 399 = .ok (.aload_n 0, 1) := by decide +kernel
theorem d_m_isGoodStep_400 : decode y_m_isGoodStep.2.1 400 = .ok (.iconst 2, 1) := by decide +kernel
theorem d_m_isGoodStep_401 : decode y_m_isGoodStep.2.1 401 = .ok (.invokevirtual 106, 3) := by decide +kernel
theorem d_m_isGoodStep_404 : decode y_m_isGoodStep.2.1 404 = .ok (.ifCond .eq 15, 3) := by decide +kernel
theorem d_m_isGoodStep_407 : decode y_m_isGoodStep.2.1 407 = .ok (.aload_n 0, 1) := by decide +kernel
theorem d_m_isGoodStep_408 : decode y_m_isGoodStep.2.1 408 = .ok (.iconst 2, 1) := by decide +kernel
theorem d_m_isGoodStep_409 : decode y_m_isGoodStep.2.1 409 = .ok (.invokevirtual 103, 3) := by decide +kernel
theorem d_m_isGoodStep_412 : decode y_m_isGoodStep.2.1 412 = .ok (.ifCond .eq 7, 3) := by decide +kernel
theorem d_m_isGoodStep_415 : decode y_m_isGoodStep.2.1 415 = .ok (.iconst 1, 1) := by decide +kernel
theorem d_m_isGoodStep_416 : decode y_m_isGoodStep.2.1 416 = .ok (.goto 4, 3) := by decide +kernel
theorem d_m_isGoodStep_419 : decode y_m_isGoodStep.2.1 419 = .ok (.iconst 0, 1) := by decide +kernel
theorem d_m_isGoodStep_420 : decode y_m_isGoodStep.2.1 420 = .ok (.ireturn, 1) := by decide +kernel
theorem d_m_isGoodStep_421 : decode y_m_isGoodStep.2.1 421 = .ok (.aload_n 0, 1) := by decide +kernel
theorem d_m_isGoodStep_422 : decode y_m_isGoodStep.2.1 422 = .ok (.iconst 2, 1) := by decide +kernel
theorem d_m_isGoodStep_423 : decode y_m_isGoodStep.2.1 423 = .ok (.invokevirtual 106, 3) := by decide +kernel
theorem d_m_isGoodStep_426 : decode y_m_isGoodStep.2.1 426 = .ok (.ifCond .eq 15, 3) := by decide +kernel
theorem d_m_isGoodStep_429 : decode y_m_isGoodStep.2.1 429 = .ok (.aload_n 0, 1) := by decide +kernel
