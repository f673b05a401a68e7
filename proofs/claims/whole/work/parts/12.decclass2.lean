theorem d_M_perform_167 : decode y_M_perform.2.1 167 = .ok (.invokevirtual 169, 3) := by decide +kernel
theorem d_M_perform_170 : decode y_M_perform.2.1 170 = .ok (.goto 58, 3) := by decide +kernel
theorem d_M_perform_173 : decode y_M_perform.2.1 173 = .ok (.aload_n 2, 1) := by decide +kernel
theorem d_M_perform_174 : decode y_M_perform.2.1 174 = .ok (.invokevirtual 162, 3) := by decide +kernel
theorem d_M_perform_177 : decode y_M_perform.2.1 177 = .ok (.istore 5, 2) := by decide +kernel
theorem d_M_perform_179 : decode y_M_perform.2.1 179 = .ok (.aload_n 2, 1) := by decide +kernel
theorem d_M_perform_180 : decode y_M_perform.2.1 180 = .ok (.iload_n 3, 1) := by decide +kernel
theorem d_M_perform_181 : decode y_M_perform.2.1 181 = .ok (.aload_n 2, 1) := by decide +kernel
theorem d_M_perform_182 : decode y_M_perform.2.1 182 = .ok (.invokevirtual 162, 3) := by decide +kernel
theorem d_M_perform_185 : decode y_M_perform.2.1 185 = .ok (.iload 5, 2) := by decide +kernel
theorem d_M_perform_187 : decode y_M_perform.2.1 187 = .ok (.invokestatic 173, 3) := by decide +kernel
theorem d_M_perform_190 : decode y_M_perform.2.1 190 = .ok (.invokevirtual 177, 3) := by decide +kernel
theorem d_M_perform_193 : decode y_M_perform.2.1 193 = .ok (.aload_n 2, 1) := by decide +kernel
theorem d_M_perform_194 : decode y_M_perform.2.1 194 = .ok (.invokevirtual 180, 3) := by decide +kernel
theorem d_M_perform_197 : decode y_M_perform.2.1 197 = .ok (.goto 31, 3) := by decide +kernel
theorem d_M_perform_200 : decode y_M_perform.2.1 200 = .ok (.aload_n 0, 1) := by decide +kernel
theorem d_M_perform_201 : decode y_M_perform.2.1 201 = .ok (.aload_n 1, 1) := by decide +kernel
theorem d_M_perform_202 : decode y_M_perform.2.1 202 = .ok (.aload_n 2, 1) := by decide +kernel
theorem d_M_perform_203 : decode y_M_perform.2.1 203 = .ok (.iload_n 3, 1) := by decide +kernel
theorem d_M_perform_204 : decode y_M_perform.2.1 204 = .ok (.iload 4, 2) := by decide +kernel
theorem d_M_perform_206 : decode y_M_perform.2.1 206 = .ok (.invokevirtual 183, 3) := by decide +kernel
theorem d_M_perform_209 : decode y_M_perform.2.1 209 = .ok (.aload_n 2, 1) := by decide +kernel
theorem d_M_perform_210 : decode y_M_perform.2.1 210 = .ok (.invokevirtual 180, 3) := by decide +kernel
theorem d_M_perform_213 : decode y_M_perform.2.1 213 = .ok (.goto 15, 3) := by decide +kernel
theorem d_M_perform_216 : decode y_M_perform.2.1 216 = .ok (.aload_n 0, 1) := by decide +kernel
theorem d_M_perform_217 : decode y_M_perform.2.1 217 = .ok (.aload_n 2, 1) := by decide +kernel
theorem d_M_perform_218 : decode y_M_perform.2.1 218 = .ok (.iload_n 3, 1) := by decide +kernel
theorem d_M_perform_219 : decode y_M_perform.2.1 219 = .ok (.iload 4, 2) := by decide +kernel
theorem d_M_perform_221 : decode y_M_perform.2.1 221 = .ok (.invokevirtual 186, 3) := by decide +kernel
theorem d_M_perform_224 : decode y_M_perform.2.1 224 = .ok (.aload_n 2, 1) := by decide +kernel
theorem d_M_perform_225 : decode y_M_perform.2.1 225 = .ok (.invokevirtual 180, 3) := by decide +kernel
theorem d_M_perform_228 : decode y_M_perform.2.1 228 = .ok (.return_, 1) := by decide +kernel
theorem d_F_goTo_0 : decode y_F_goTo.2.1 0 = .ok (.aload_n 0, 1) := by decide +kernel
theorem d_F_goTo_1 : decode y_F_goTo.2.1 1 = .ok (.iload_n 1, 1) := by decide +kernel
theorem d_F_goTo_2 : decode y_F_goTo.2.1 2 = .ok (.putfield 26, 3) := by decide +kernel
theorem d_F_goTo_5 : decode y_F_goTo.2.1 5 = .ok (.return_, 1) := by decide +kernel
theorem d_F_pop_0 : decode y_F_pop.2.1 0 = .ok (.aload_n 0, 1) := by decide +kernel
theorem d_F_pop_1 : decode y_F_pop.2.1 1 = .ok (.iconst 0, 1) := by decide +kernel
theorem d_F_pop_2 : decode y_F_pop.2.1 2 = .ok (.invokevirtual 29, 3) := by decide +kernel
theorem d_F_pop_5 : decode y_F_pop.2.1 5 = .ok (.istore_n 1, 1) := by decide +kernel
theorem d_F_pop_6 : decode y_F_pop.2.1 6 = .ok (.aload_n 0, 1) := by decide +kernel
theorem d_F_pop_7 : decode y_F_pop.2.1 7 = .ok (.aload_n 0, 1) := by decide +kernel
theorem d_F_pop_8 : decode y_F_pop.2.1 8 = .ok (.getfield 22, 3) := by decide +kernel
theorem d_F_pop_11 : decode y_F_pop.2.1 11 = .ok (.iconst 1, 1) := by decide +kernel
theorem d_F_pop_12 : decode y_F_pop.2.1 12 = .ok (.isub, 1) := by decide +kernel
theorem d_F_pop_13 : decode y_F_pop.2.1 13 = .ok (.iconst 0, 1) := by decide +kernel
theorem d_F_pop_14 : decode y_F_pop.2.1 14 = .ok (.invokestatic 33, 3) := by decide +kernel
theorem d_F_pop_17 : decode y_F_pop.2.1 17 = .ok (.putfield 22, 3) := by decide +kernel
theorem d_F_pop_20 : decode y_F_pop.2.1 20 = .ok (.iload_n 1, 1) := by decide +kernel
theorem d_F_pop_21 : decode y_F_pop.2.1 21 = .ok (.ireturn, 1) := by decide +kernel
theorem d_M_callCode_0 : decode y_M_callCode.2.1 0 = .ok (.aload_n 3, 1) := by decide +kernel
theorem d_M_callCode_1 : decode y_M_callCode.2.1 1 = .ok (.ifnonnull 7, 3) := by decide +kernel
theorem d_M_callCode_4 : decode y_M_callCode.2.1 4 = .ok (.aconst_null, 1) := by decide +kernel
theorem d_M_callCode_5 : decode y_M_callCode.2.1 5 = .ok (.goto 8, 3) := by decide +kernel
theorem d_M_callCode_8 : decode y_M_callCode.2.1 8 = .ok (.aload_n 1, 1) := by decide +kernel
theorem d_M_callCode_9 : decode y_M_callCode.2.1 9 = .ok (.aload_n 3, 1) := by decide +kernel
theorem d_M_callCode_10 : decode y_M_callCode.2.1 10 = .ok (.invokevirtual 218, 3) := by decide +kernel
theorem d_M_callCode_13 : decode y_M_callCode.2.1 13 = .ok (.astore 4, 2) := by decide +kernel
theorem d_M_callCode_15 : decode y_M_callCode.2.1 15 = .ok (.aload 4, 2) := by decide +kernel
theorem d_M_callCode_17 : decode y_M_callCode.2.1 17 = .ok (.ifnonnull 4, 3) := by decide +kernel
theorem d_M_callCode_20 : decode y_M_callCode.2.1 20 = .ok (.return_, 1) := by decide +kernel
theorem d_M_callCode_21 : decode y_M_callCode.2.1 21 = .ok (.aload_n 3, 1) := by decide +kernel
theorem d_M_callCode_22 : decode y_M_callCode.2.1 22 = .ok (.getfield 39, 3) := by decide +kernel
theorem d_M_callCode_25 : decode y_M_callCode.2.1 25 = .ok (.iconst 1, 1) := by decide +kernel
theorem d_M_callCode_26 : decode y_M_callCode.2.1 26 = .ok (.isub, 1) := by decide +kernel
theorem d_M_callCode_27 : decode y_M_callCode.2.1 27 = .ok (.istore 5, 2) := by decide +kernel
theorem d_M_callCode_29 : decode y_M_callCode.2.1 29 = .ok (.iload 5, 2) := by decide +kernel
theorem d_M_callCode_31 : decode y_M_callCode.2.1 31 = .ok (.ifCond .lt 20, 3) := by decide +kernel
theorem d_M_callCode_34 : decode y_M_callCode.2.1 34 = .ok (.aload 4, 2) := by decide +kernel
theorem d_M_callCode_36 : decode y_M_callCode.2.1 36 = .ok (.iload 5, 2) := by decide +kernel
theorem d_M_callCode_38 : decode y_M_callCode.2.1 38 = .ok (.aload_n 2, 1) := by decide +kernel
theorem d_M_callCode_39 : decode y_M_callCode.2.1 39 = .ok (.invokevirtual 162, 3) := by decide +kernel
theorem d_M_callCode_42 : decode y_M_callCode.2.1 42 = .ok (.invokevirtual 193, 3) := by decide +kernel
theorem d_M_callCode_45 : decode y_M_callCode.2.1 45 = .ok (.iinc 5 (-1), 3) := by decide +kernel
theorem d_M_callCode_48 : decode y_M_callCode.2.1 48 = .ok (.goto (-19), 3) := by decide +kernel
theorem d_M_callCode_51 : decode y_M_callCode.2.1 51 = .ok (.return_, 1) := by decide +kernel
theorem d_F_setLocal_0 : decode y_F_setLocal.2.1 0 = .ok (.iload_n 1, 1) := by decide +kernel
theorem d_F_setLocal_1 : decode y_F_setLocal.2.1 1 = .ok (.ifCond .lt 16, 3) := by decide +kernel
theorem d_F_setLocal_4 : decode y_F_setLocal.2.1 4 = .ok (.iload_n 1, 1) := by decide +kernel
theorem d_F_setLocal_5 : decode y_F_setLocal.2.1 5 = .ok (.bipush 8, 2) := by decide +kernel
theorem d_F_setLocal_7 : decode y_F_setLocal.2.1 7 = .ok (.if_icmp .ge 10, 3) := by decide +kernel
theorem d_F_setLocal_10 : decode y_F_setLocal.2.1 10 = .ok (.aload_n 0, 1) := by decide +kernel
theorem d_F_setLocal_11 : decode y_F_setLocal.2.1 11 = .ok (.getfield 15, 3) := by decide +kernel
theorem d_F_setLocal_14 : decode y_F_setLocal.2.1 14 = .ok (.iload_n 1, 1) := by decide +kernel
theorem d_F_setLocal_15 : decode y_F_setLocal.2.1 15 = .ok (.iload_n 2, 1) := by decide +kernel
theorem d_F_setLocal_16 : decode y_F_setLocal.2.1 16 = .ok (.iastore, 1) := by decide +kernel
theorem d_F_setLocal_17 : decode y_F_setLocal.2.1 17 = .ok (.return_, 1) := by decide +kernel
theorem d_M_raise_0 : decode y_M_raise.2.1 0 = .ok (.aload_n 0, 1) := by decide +kernel
theorem d_M_raise_1 : decode y_M_raise.2.1 1 = .ok (.getfield 25, 3) := by decide +kernel
theorem d_M_raise_4 : decode y_M_raise.2.1 4 = .ok (.iload_n 2, 1) := by decide +kernel
theorem d_M_raise_5 : decode y_M_raise.2.1 5 = .ok (.invokevirtual 110, 3) := by decide +kernel
theorem d_M_raise_8 : decode y_M_raise.2.1 8 = .ok (.astore_n 3, 1) := by decide +kernel
theorem d_M_raise_9 : decode y_M_raise.2.1 9 = .ok (.aload_n 3, 1) := by decide +kernel
theorem d_M_raise_10 : decode y_M_raise.2.1 10 = .ok (.ifnonnull 8, 3) := by decide +kernel
theorem d_M_raise_13 : decode y_M_raise.2.1 13 = .ok (.bipush 6, 2) := by decide +kernel
theorem d_M_raise_15 : decode y_M_raise.2.1 15 = .ok (.goto 7, 3) := by decide +kernel
theorem d_M_raise_18 : decode y_M_raise.2.1 18 = .ok (.aload_n 3, 1) := by decide +kernel
theorem d_M_raise_19 : decode y_M_raise.2.1 19 = .ok (.invokevirtual 203, 3) := by decide +kernel
theorem d_M_raise_22 : decode y_M_raise.2.1 22 = .ok (.istore 4, 2) := by decide +kernel
theorem d_M_raise_24 : decode y_M_raise.2.1 24 = .ok (.aload_n 1, 1) := by decide +kernel
theorem d_M_raise_25 : decode y_M_raise.2.1 25 = .ok (.invokevirtual 232, 3) := by decide +kernel
theorem d_M_raise_28 : decode y_M_raise.2.1 28 = .ok (.istore 5, 2) := by decide +kernel
theorem d_M_raise_30 : decode y_M_raise.2.1 30 = .ok (.iload 5, 2) := by decide +kernel
theorem d_M_raise_32 : decode y_M_raise.2.1 32 = .ok (.ifCond .le 77, 3) := by decide +kernel
theorem d_M_raise_35 : decode y_M_raise.2.1 35 = .ok (.aload_n 1, 1) := by decide +kernel
theorem d_M_raise_36 : decode y_M_raise.2.1 36 = .ok (.invokevirtual 90, 3) := by decide +kernel
theorem d_M_raise_39 : decode y_M_raise.2.1 39 = .ok (.astore 6, 2) := by decide +kernel
theorem d_M_raise_41 : decode y_M_raise.2.1 41 = .ok (.aload 6, 2) := by decide +kernel
theorem d_M_raise_43 : decode y_M_raise.2.1 43 = .ok (.ifnonnull 7, 3) := by decide +kernel
theorem d_M_raise_46 : decode y_M_raise.2.1 46 = .ok (.aconst_null, 1) := by decide +kernel
theorem d_M_raise_47 : decode y_M_raise.2.1 47 = .ok (.goto 8, 3) := by decide +kernel
theorem d_M_raise_50 : decode y_M_raise.2.1 50 = .ok (.aload 6, 2) := by decide +kernel
theorem d_M_raise_52 : decode y_M_raise.2.1 52 = .ok (.invokevirtual 94, 3) := by decide +kernel
theorem d_M_raise_55 : decode y_M_raise.2.1 55 = .ok (.astore 7, 2) := by decide +kernel
theorem d_M_raise_57 : decode y_M_raise.2.1 57 = .ok (.aload 7, 2) := by decide +kernel
theorem d_M_raise_59 : decode y_M_raise.2.1 59 = .ok (.ifnonnull 7, 3) := by decide +kernel
theorem d_M_raise_62 : decode y_M_raise.2.1 62 = .ok (.iconst (-1), 1) := by decide +kernel
theorem d_M_raise_63 : decode y_M_raise.2.1 63 = .ok (.goto 15, 3) := by decide +kernel
theorem d_M_raise_66 : decode y_M_raise.2.1 66 = .ok (.aload 7, 2) := by decide +kernel
theorem d_M_raise_68 : decode y_M_raise.2.1 68 = .ok (.aload 6, 2) := by decide +kernel
theorem d_M_raise_70 : decode y_M_raise.2.1 70 = .ok (.invokevirtual 100, 3) := by decide +kernel
theorem d_M_raise_73 : decode y_M_raise.2.1 73 = .ok (.iload 4, 2) := by decide +kernel
theorem d_M_raise_75 : decode y_M_raise.2.1 75 = .ok (.invokevirtual 235, 3) := by decide +kernel
theorem d_M_raise_78 : decode y_M_raise.2.1 78 = .ok (.istore 8, 2) := by decide +kernel
theorem d_M_raise_80 : decode y_M_raise.2.1 80 = .ok (.iload 8, 2) := by decide +kernel
theorem d_M_raise_82 : decode y_M_raise.2.1 82 = .ok (.ifCond .lt 17, 3) := by decide +kernel
theorem d_M_raise_85 : decode y_M_raise.2.1 85 = .ok (.aload 6, 2) := by decide +kernel
theorem d_M_raise_87 : decode y_M_raise.2.1 87 = .ok (.iload_n 2, 1) := by decide +kernel
theorem d_M_raise_88 : decode y_M_raise.2.1 88 = .ok (.invokevirtual 239, 3) := by decide +kernel
theorem d_M_raise_91 : decode y_M_raise.2.1 91 = .ok (.aload 6, 2) := by decide +kernel
theorem d_M_raise_93 : decode y_M_raise.2.1 93 = .ok (.iload 8, 2) := by decide +kernel
theorem d_M_raise_95 : decode y_M_raise.2.1 95 = .ok (.invokevirtual 159, 3) := by decide +kernel
theorem d_M_raise_98 : decode y_M_raise.2.1 98 = .ok (.return_, 1) := by decide +kernel
theorem d_M_raise_99 : decode y_M_raise.2.1 99 = .ok (.aload_n 1, 1) := by decide +kernel
theorem d_M_raise_100 : decode y_M_raise.2.1 100 = .ok (.invokevirtual 225, 3) := by decide +kernel
theorem d_M_raise_103 : decode y_M_raise.2.1 103 = .ok (.iinc 5 (-1), 3) := by decide +kernel
theorem d_M_raise_106 : decode y_M_raise.2.1 106 = .ok (.goto (-76), 3) := by decide +kernel
theorem d_M_raise_109 : decode y_M_raise.2.1 109 = .ok (.aload_n 0, 1) := by decide +kernel
theorem d_M_raise_110 : decode y_M_raise.2.1 110 = .ok (.aload_n 1, 1) := by decide +kernel
theorem d_M_raise_111 : decode y_M_raise.2.1 111 = .ok (.iconst 2, 1) := by decide +kernel
theorem d_M_raise_112 : decode y_M_raise.2.1 112 = .ok (.iload_n 2, 1) := by decide +kernel
theorem d_M_raise_113 : decode y_M_raise.2.1 113 = .ok (.invokevirtual 228, 3) := by decide +kernel
theorem d_M_raise_116 : decode y_M_raise.2.1 116 = .ok (.return_, 1) := by decide +kernel
theorem d_T_kind_0 : decode y_T_kind.2.1 0 = .ok (.aload_n 0, 1) := by decide +kernel
theorem d_T_kind_1 : decode y_T_kind.2.1 1 = .ok (.getfield 15, 3) := by decide +kernel
theorem d_T_kind_4 : decode y_T_kind.2.1 4 = .ok (.ireturn, 1) := by decide +kernel
theorem d_S_frameCount_0 : decode y_S_frameCount.2.1 0 = .ok (.aload_n 0, 1) := by decide +kernel
theorem d_S_frameCount_1 : decode y_S_frameCount.2.1 1 = .ok (.getfield 22, 3) := by decide +kernel
theorem d_S_frameCount_4 : decode y_S_frameCount.2.1 4 = .ok (.ireturn, 1) := by decide +kernel
theorem d_C_takerOf_0 : decode y_C_takerOf.2.1 0 = .ok (.iconst 0, 1) := by decide +kernel
theorem d_C_takerOf_1 : decode y_C_takerOf.2.1 1 = .ok (.istore_n 3, 1) := by decide +kernel
theorem d_C_takerOf_2 : decode y_C_takerOf.2.1 2 = .ok (.iload_n 3, 1) := by decide +kernel
theorem d_C_takerOf_3 : decode y_C_takerOf.2.1 3 = .ok (.aload_n 0, 1) := by decide +kernel
theorem d_C_takerOf_4 : decode y_C_takerOf.2.1 4 = .ok (.getfield 43, 3) := by decide +kernel
theorem d_C_takerOf_7 : decode y_C_takerOf.2.1 7 = .ok (.if_icmp .ge 37, 3) := by decide +kernel
theorem d_C_takerOf_10 : decode y_C_takerOf.2.1 10 = .ok (.aload_n 0, 1) := by decide +kernel
theorem d_C_takerOf_11 : decode y_C_takerOf.2.1 11 = .ok (.iload_n 3, 1) := by decide +kernel
theorem d_C_takerOf_12 : decode y_C_takerOf.2.1 12 = .ok (.invokevirtual 49, 3) := by decide +kernel
theorem d_C_takerOf_15 : decode y_C_takerOf.2.1 15 = .ok (.astore 4, 2) := by decide +kernel
theorem d_C_takerOf_17 : decode y_C_takerOf.2.1 17 = .ok (.aload 4, 2) := by decide +kernel
theorem d_C_takerOf_19 : decode y_C_takerOf.2.1 19 = .ok (.ifnull 19, 3) := by decide +kernel
theorem d_C_takerOf_22 : decode y_C_takerOf.2.1 22 = .ok (.aload 4, 2) := by decide +kernel
theorem d_C_takerOf_24 : decode y_C_takerOf.2.1 24 = .ok (.iload_n 1, 1) := by decide +kernel
theorem d_C_takerOf_25 : decode y_C_takerOf.2.1 25 = .ok (.iload_n 2, 1) := by decide +kernel
theorem d_C_takerOf_26 : decode y_C_takerOf.2.1 26 = .ok (.invokevirtual 53, 3) := by decide +kernel
theorem d_C_takerOf_29 : decode y_C_takerOf.2.1 29 = .ok (.ifCond .eq 9, 3) := by decide +kernel
theorem d_C_takerOf_32 : decode y_C_takerOf.2.1 32 = .ok (.aload 4, 2) := by decide +kernel
theorem d_C_takerOf_34 : decode y_C_takerOf.2.1 34 = .ok (.getfield 57, 3) := by decide +kernel
theorem d_C_takerOf_37 : decode y_C_takerOf.2.1 37 = .ok (.ireturn, 1) := by decide +kernel
theorem d_C_takerOf_38 : decode y_C_takerOf.2.1 38 = .ok (.iinc 3 1, 3) := by decide +kernel
theorem d_C_takerOf_41 : decode y_C_takerOf.2.1 41 = .ok (.goto (-39), 3) := by decide +kernel
theorem d_C_takerOf_44 : decode y_C_takerOf.2.1 44 = .ok (.iconst (-1), 1) := by decide +kernel
theorem d_C_takerOf_45 : decode y_C_takerOf.2.1 45 = .ok (.ireturn, 1) := by decide +kernel
theorem d_R_takes_0 : decode y_R_takes.2.1 0 = .ok (.iload_n 1, 1) := by decide +kernel
theorem d_R_takes_1 : decode y_R_takes.2.1 1 = .ok (.aload_n 0, 1) := by decide +kernel
theorem d_R_takes_2 : decode y_R_takes.2.1 2 = .ok (.getfield 9, 3) := by decide +kernel
theorem d_R_takes_5 : decode y_R_takes.2.1 5 = .ok (.if_icmp .lt 32, 3) := by decide +kernel
theorem d_R_takes_8 : decode y_R_takes.2.1 8 = .ok (.iload_n 1, 1) := by decide +kernel
theorem d_R_takes_9 : decode y_R_takes.2.1 9 = .ok (.aload_n 0, 1) := by decide +kernel
theorem d_R_takes_10 : decode y_R_takes.2.1 10 = .ok (.getfield 15, 3) := by decide +kernel
theorem d_R_takes_13 : decode y_R_takes.2.1 13 = .ok (.if_icmp .ge 24, 3) := by decide +kernel
theorem d_R_takes_16 : decode y_R_takes.2.1 16 = .ok (.aload_n 0, 1) := by decide +kernel
theorem d_R_takes_17 : decode y_R_takes.2.1 17 = .ok (.getfield 21, 3) := by decide +kernel
theorem d_R_takes_20 : decode y_R_takes.2.1 20 = .ok (.bipush 10, 2) := by decide +kernel
theorem d_R_takes_22 : decode y_R_takes.2.1 22 = .ok (.if_icmp .eq 11, 3) := by decide +kernel
theorem d_R_takes_25 : decode y_R_takes.2.1 25 = .ok (.aload_n 0, 1) := by decide +kernel
theorem d_R_takes_26 : decode y_R_takes.2.1 26 = .ok (.getfield 21, 3) := by decide +kernel
theorem d_R_takes_29 : decode y_R_takes.2.1 29 = .ok (.iload_n 2, 1) := by decide +kernel
theorem d_R_takes_30 : decode y_R_takes.2.1 30 = .ok (.if_icmp .ne 7, 3) := by decide +kernel
theorem d_R_takes_33 : decode y_R_takes.2.1 33 = .ok (.iconst 1, 1) := by decide +kernel
theorem d_R_takes_34 : decode y_R_takes.2.1 34 = .ok (.goto 4, 3) := by decide +kernel
theorem d_R_takes_37 : decode y_R_takes.2.1 37 = .ok (.iconst 0, 1) := by decide +kernel
theorem d_R_takes_38 : decode y_R_takes.2.1 38 = .ok (.ireturn, 1) := by decide +kernel
theorem d_F_holdOnly_0 : decode y_F_holdOnly.2.1 0 = .ok (.aload_n 0, 1) := by decide +kernel
theorem d_F_holdOnly_1 : decode y_F_holdOnly.2.1 1 = .ok (.iconst 0, 1) := by decide +kernel
theorem d_F_holdOnly_2 : decode y_F_holdOnly.2.1 2 = .ok (.putfield 22, 3) := by decide +kernel
theorem d_F_holdOnly_5 : decode y_F_holdOnly.2.1 5 = .ok (.aload_n 0, 1) := by decide +kernel
theorem d_F_holdOnly_6 : decode y_F_holdOnly.2.1 6 = .ok (.iload_n 1, 1) := by decide +kernel
theorem d_F_holdOnly_7 : decode y_F_holdOnly.2.1 7 = .ok (.invokevirtual 39, 3) := by decide +kernel
theorem d_F_holdOnly_10 : decode y_F_holdOnly.2.1 10 = .ok (.return_, 1) := by decide +kernel
theorem d_F_push_0 : decode y_F_push.2.1 0 = .ok (.aload_n 0, 1) := by decide +kernel
theorem d_F_push_1 : decode y_F_push.2.1 1 = .ok (.getfield 22, 3) := by decide +kernel
theorem d_F_push_4 : decode y_F_push.2.1 4 = .ok (.ifCond .lt 32, 3) := by decide +kernel
theorem d_F_push_7 : decode y_F_push.2.1 7 = .ok (.aload_n 0, 1) := by decide +kernel
theorem d_F_push_8 : decode y_F_push.2.1 8 = .ok (.getfield 22, 3) := by decide +kernel
theorem d_F_push_11 : decode y_F_push.2.1 11 = .ok (.bipush 12, 2) := by decide +kernel
theorem d_F_push_13 : decode y_F_push.2.1 13 = .ok (.if_icmp .ge 23, 3) := by decide +kernel
theorem d_F_push_16 : decode y_F_push.2.1 16 = .ok (.aload_n 0, 1) := by decide +kernel
theorem d_F_push_17 : decode y_F_push.2.1 17 = .ok (.getfield 9, 3) := by decide +kernel
theorem d_F_push_20 : decode y_F_push.2.1 20 = .ok (.aload_n 0, 1) := by decide +kernel
theorem d_F_push_21 : decode y_F_push.2.1 21 = .ok (.getfield 22, 3) := by decide +kernel
theorem d_F_push_24 : decode y_F_push.2.1 24 = .ok (.iload_n 1, 1) := by decide +kernel
theorem d_F_push_25 : decode y_F_push.2.1 25 = .ok (.iastore, 1) := by decide +kernel
theorem d_F_push_26 : decode y_F_push.2.1 26 = .ok (.aload_n 0, 1) := by decide +kernel
theorem d_F_push_27 : decode y_F_push.2.1 27 = .ok (.dup, 1) := by decide +kernel
theorem d_F_push_28 : decode y_F_push.2.1 28 = .ok (.getfield 22, 3) := by decide +kernel
theorem d_F_push_31 : decode y_F_push.2.1 31 = .ok (.iconst 1, 1) := by decide +kernel
theorem d_F_push_32 : decode y_F_push.2.1 32 = .ok (.iadd, 1) := by decide +kernel
theorem d_F_push_33 : decode y_F_push.2.1 33 = .ok (.putfield 22, 3) := by decide +kernel
theorem d_F_push_36 : decode y_F_push.2.1 36 = .ok (.return_, 1) := by decide +kernel
theorem d_S_endFrame_0 : decode y_S_endFrame.2.1 0 = .ok (.aload_n 0, 1) := by decide +kernel
theorem d_S_endFrame_1 : decode y_S_endFrame.2.1 1 = .ok (.aload_n 0, 1) := by decide +kernel
theorem d_S_endFrame_2 : decode y_S_endFrame.2.1 2 = .ok (.getfield 22, 3) := by decide +kernel
theorem d_S_endFrame_5 : decode y_S_endFrame.2.1 5 = .ok (.iconst 1, 1) := by decide +kernel
theorem d_S_endFrame_6 : decode y_S_endFrame.2.1 6 = .ok (.isub, 1) := by decide +kernel
theorem d_S_endFrame_7 : decode y_S_endFrame.2.1 7 = .ok (.iconst 0, 1) := by decide +kernel
theorem d_S_endFrame_8 : decode y_S_endFrame.2.1 8 = .ok (.invokestatic 46, 3) := by decide +kernel
theorem d_S_endFrame_11 : decode y_S_endFrame.2.1 11 = .ok (.putfield 22, 3) := by decide +kernel
theorem d_S_endFrame_14 : decode y_S_endFrame.2.1 14 = .ok (.return_, 1) := by decide +kernel
theorem d_M_end_0 : decode y_M_end.2.1 0 = .ok (.aload_n 1, 1) := by decide +kernel
theorem d_M_end_1 : decode y_M_end.2.1 1 = .ok (.iload_n 2, 1) := by decide +kernel
theorem d_M_end_2 : decode y_M_end.2.1 2 = .ok (.iload_n 3, 1) := by decide +kernel
theorem d_M_end_3 : decode y_M_end.2.1 3 = .ok (.invokevirtual 242, 3) := by decide +kernel
theorem d_M_end_6 : decode y_M_end.2.1 6 = .ok (.aload_n 0, 1) := by decide +kernel
theorem d_M_end_7 : decode y_M_end.2.1 7 = .ok (.getfield 25, 3) := by decide +kernel
theorem d_M_end_10 : decode y_M_end.2.1 10 = .ok (.aload_n 1, 1) := by decide +kernel
theorem d_M_end_11 : decode y_M_end.2.1 11 = .ok (.invokevirtual 113, 3) := by decide +kernel
theorem d_M_end_14 : decode y_M_end.2.1 14 = .ok (.invokevirtual 244, 3) := by decide +kernel
theorem d_M_end_17 : decode y_M_end.2.1 17 = .ok (.return_, 1) := by decide +kernel
theorem d_S_end_0 : decode y_S_end.2.1 0 = .ok (.aload_n 0, 1) := by decide +kernel
theorem d_S_end_1 : decode y_S_end.2.1 1 = .ok (.iload_n 1, 1) := by decide +kernel
theorem d_S_end_2 : decode y_S_end.2.1 2 = .ok (.putfield 28, 3) := by decide +kernel
theorem d_S_end_5 : decode y_S_end.2.1 5 = .ok (.aload_n 0, 1) := by decide +kernel
theorem d_S_end_6 : decode y_S_end.2.1 6 = .ok (.iload_n 2, 1) := by decide +kernel
theorem d_S_end_7 : decode y_S_end.2.1 7 = .ok (.putfield 31, 3) := by decide +kernel
theorem d_S_end_10 : decode y_S_end.2.1 10 = .ok (.return_, 1) := by decide +kernel
theorem d_H_freeAllHeldBy_0 : decode y_H_freeAllHeldBy.2.1 0 = .ok (.iconst 1, 1) := by decide +kernel
theorem d_H_freeAllHeldBy_1 : decode y_H_freeAllHeldBy.2.1 1 = .ok (.istore_n 2, 1) := by decide +kernel
theorem d_H_freeAllHeldBy_2 : decode y_H_freeAllHeldBy.2.1 2 = .ok (.iload_n 2, 1) := by decide +kernel
theorem d_H_freeAllHeldBy_3 : decode y_H_freeAllHeldBy.2.1 3 = .ok (.aload_n 0, 1) := by decide +kernel
theorem d_H_freeAllHeldBy_4 : decode y_H_freeAllHeldBy.2.1 4 = .ok (.getfield 21, 3) := by decide +kernel
theorem d_H_freeAllHeldBy_7 : decode y_H_freeAllHeldBy.2.1 7 = .ok (.if_icmp .gt 31, 3) := by decide +kernel
theorem d_H_freeAllHeldBy_10 : decode y_H_freeAllHeldBy.2.1 10 = .ok (.aload_n 0, 1) := by decide +kernel
theorem d_H_freeAllHeldBy_11 : decode y_H_freeAllHeldBy.2.1 11 = .ok (.iload_n 2, 1) := by decide +kernel
theorem d_H_freeAllHeldBy_12 : decode y_H_freeAllHeldBy.2.1 12 = .ok (.invokevirtual 38, 3) := by decide +kernel
theorem d_H_freeAllHeldBy_15 : decode y_H_freeAllHeldBy.2.1 15 = .ok (.astore_n 3, 1) := by decide +kernel
theorem d_H_freeAllHeldBy_16 : decode y_H_freeAllHeldBy.2.1 16 = .ok (.aload_n 3, 1) := by decide +kernel
theorem d_H_freeAllHeldBy_17 : decode y_H_freeAllHeldBy.2.1 17 = .ok (.ifnull 15, 3) := by decide +kernel
theorem d_H_freeAllHeldBy_20 : decode y_H_freeAllHeldBy.2.1 20 = .ok (.aload_n 3, 1) := by decide +kernel
theorem d_H_freeAllHeldBy_21 : decode y_H_freeAllHeldBy.2.1 21 = .ok (.iload_n 1, 1) := by decide +kernel
theorem d_H_freeAllHeldBy_22 : decode y_H_freeAllHeldBy.2.1 22 = .ok (.invokevirtual 42, 3) := by decide +kernel
theorem d_H_freeAllHeldBy_25 : decode y_H_freeAllHeldBy.2.1 25 = .ok (.ifCond .eq 7, 3) := by decide +kernel
theorem d_H_freeAllHeldBy_28 : decode y_H_freeAllHeldBy.2.1 28 = .ok (.aload_n 3, 1) := by decide +kernel
theorem d_H_freeAllHeldBy_29 : decode y_H_freeAllHeldBy.2.1 29 = .ok (.invokevirtual 46, 3) := by decide +kernel
theorem d_H_freeAllHeldBy_32 : decode y_H_freeAllHeldBy.2.1 32 = .ok (.iinc 2 1, 3) := by decide +kernel
theorem d_H_freeAllHeldBy_35 : decode y_H_freeAllHeldBy.2.1 35 = .ok (.goto (-33), 3) := by decide +kernel
theorem d_H_freeAllHeldBy_38 : decode y_H_freeAllHeldBy.2.1 38 = .ok (.return_, 1) := by decide +kernel
theorem d_T_setFree_0 : decode y_T_setFree.2.1 0 = .ok (.aload_n 0, 1) := by decide +kernel
theorem d_T_setFree_1 : decode y_T_setFree.2.1 1 = .ok (.iconst (-1), 1) := by decide +kernel
theorem d_T_setFree_2 : decode y_T_setFree.2.1 2 = .ok (.putfield 22, 3) := by decide +kernel
theorem d_T_setFree_5 : decode y_T_setFree.2.1 5 = .ok (.aload_n 0, 1) := by decide +kernel
theorem d_T_setFree_6 : decode y_T_setFree.2.1 6 = .ok (.iconst 0, 1) := by decide +kernel
theorem d_T_setFree_7 : decode y_T_setFree.2.1 7 = .ok (.putfield 25, 3) := by decide +kernel
theorem d_T_setFree_10 : decode y_T_setFree.2.1 10 = .ok (.return_, 1) := by decide +kernel
theorem d_M_giveBack_0 : decode y_M_giveBack.2.1 0 = .ok (.aload_n 2, 1) := by decide +kernel
theorem d_M_giveBack_1 : decode y_M_giveBack.2.1 1 = .ok (.invokevirtual 94, 3) := by decide +kernel
theorem d_M_giveBack_4 : decode y_M_giveBack.2.1 4 = .ok (.ifnull 17, 3) := by decide +kernel
theorem d_M_giveBack_7 : decode y_M_giveBack.2.1 7 = .ok (.aload_n 2, 1) := by decide +kernel
theorem d_M_giveBack_8 : decode y_M_giveBack.2.1 8 = .ok (.invokevirtual 94, 3) := by decide +kernel
theorem d_M_giveBack_11 : decode y_M_giveBack.2.1 11 = .ok (.getfield 222, 3) := by decide +kernel
theorem d_M_giveBack_14 : decode y_M_giveBack.2.1 14 = .ok (.ifCond .eq 7, 3) := by decide +kernel
theorem d_M_giveBack_17 : decode y_M_giveBack.2.1 17 = .ok (.iconst 1, 1) := by decide +kernel
theorem d_M_giveBack_18 : decode y_M_giveBack.2.1 18 = .ok (.goto 4, 3) := by decide +kernel
theorem d_M_giveBack_21 : decode y_M_giveBack.2.1 21 = .ok (.iconst 0, 1) := by decide +kernel
theorem d_M_giveBack_22 : decode y_M_giveBack.2.1 22 = .ok (.istore_n 3, 1) := by decide +kernel
theorem d_M_giveBack_23 : decode y_M_giveBack.2.1 23 = .ok (.iload_n 3, 1) := by decide +kernel
theorem d_M_giveBack_24 : decode y_M_giveBack.2.1 24 = .ok (.ifCond .eq 10, 3) := by decide +kernel
theorem d_M_giveBack_27 : decode y_M_giveBack.2.1 27 = .ok (.aload_n 2, 1) := by decide +kernel
theorem d_M_giveBack_28 : decode y_M_giveBack.2.1 28 = .ok (.invokevirtual 162, 3) := by decide +kernel
theorem d_M_giveBack_31 : decode y_M_giveBack.2.1 31 = .ok (.goto 4, 3) := by decide +kernel
theorem d_M_giveBack_34 : decode y_M_giveBack.2.1 34 = .ok (.iconst 0, 1) := by decide +kernel
theorem d_M_giveBack_35 : decode y_M_giveBack.2.1 35 = .ok (.istore 4, 2) := by decide +kernel
theorem d_M_giveBack_37 : decode y_M_giveBack.2.1 37 = .ok (.aload_n 1, 1) := by decide +kernel
theorem d_M_giveBack_38 : decode y_M_giveBack.2.1 38 = .ok (.invokevirtual 225, 3) := by decide +kernel
theorem d_M_giveBack_41 : decode y_M_giveBack.2.1 41 = .ok (.aload_n 1, 1) := by decide +kernel
theorem d_M_giveBack_42 : decode y_M_giveBack.2.1 42 = .ok (.invokevirtual 90, 3) := by decide +kernel
theorem d_M_giveBack_45 : decode y_M_giveBack.2.1 45 = .ok (.astore 5, 2) := by decide +kernel
theorem d_M_giveBack_47 : decode y_M_giveBack.2.1 47 = .ok (.aload 5, 2) := by decide +kernel
theorem d_M_giveBack_49 : decode y_M_giveBack.2.1 49 = .ok (.ifnonnull 12, 3) := by decide +kernel
theorem d_M_giveBack_52 : decode y_M_giveBack.2.1 52 = .ok (.aload_n 0, 1) := by decide +kernel
theorem d_M_giveBack_53 : decode y_M_giveBack.2.1 53 = .ok (.aload_n 1, 1) := by decide +kernel
theorem d_M_giveBack_54 : decode y_M_giveBack.2.1 54 = .ok (.iconst 1, 1) := by decide +kernel
theorem d_M_giveBack_55 : decode y_M_giveBack.2.1 55 = .ok (.iload 4, 2) := by decide +kernel
theorem d_M_giveBack_57 : decode y_M_giveBack.2.1 57 = .ok (.invokevirtual 228, 3) := by decide +kernel
theorem d_M_giveBack_60 : decode y_M_giveBack.2.1 60 = .ok (.return_, 1) := by decide +kernel
theorem d_M_giveBack_61 : decode y_M_giveBack.2.1 61 = .ok (.iload_n 3, 1) := by decide +kernel
theorem d_M_giveBack_62 : decode y_M_giveBack.2.1 62 = .ok (.ifCond .eq 10, 3) := by decide +kernel
theorem d_M_giveBack_65 : decode y_M_giveBack.2.1 65 = .ok (.aload 5, 2) := by decide +kernel
theorem d_M_giveBack_67 : decode y_M_giveBack.2.1 67 = .ok (.iload 4, 2) := by decide +kernel
theorem d_M_giveBack_69 : decode y_M_giveBack.2.1 69 = .ok (.invokevirtual 177, 3) := by decide +kernel
theorem d_M_giveBack_72 : decode y_M_giveBack.2.1 72 = .ok (.aload 5, 2) := by decide +kernel
theorem d_M_giveBack_74 : decode y_M_giveBack.2.1 74 = .ok (.invokevirtual 180, 3) := by decide +kernel
theorem d_M_giveBack_77 : decode y_M_giveBack.2.1 77 = .ok (.return_, 1) := by decide +kernel
theorem d_F_goOn_0 : decode y_F_goOn.2.1 0 = .ok (.aload_n 0, 1) := by decide +kernel
theorem d_F_goOn_1 : decode y_F_goOn.2.1 1 = .ok (.dup, 1) := by decide +kernel
theorem d_F_goOn_2 : decode y_F_goOn.2.1 2 = .ok (.getfield 26, 3) := by decide +kernel
theorem d_F_goOn_5 : decode y_F_goOn.2.1 5 = .ok (.iconst 1, 1) := by decide +kernel
theorem d_F_goOn_6 : decode y_F_goOn.2.1 6 = .ok (.iadd, 1) := by decide +kernel
theorem d_F_goOn_7 : decode y_F_goOn.2.1 7 = .ok (.putfield 26, 3) := by decide +kernel
theorem d_F_goOn_10 : decode y_F_goOn.2.1 10 = .ok (.return_, 1) := by decide +kernel
theorem d_M_compute_0 : decode y_M_compute.2.1 0 = .ok (.iload_n 0, 1) := by decide +kernel
theorem d_M_compute_1 : decode y_M_compute.2.1 1 = .ok (.tableswitch 80 4 8 #[35, 41, 47, 53, 67], 35) := by decide +kernel
theorem d_M_compute_36 : decode y_M_compute.2.1 36 = .ok (.iload_n 1, 1) := by decide +kernel
theorem d_M_compute_37 : decode y_M_compute.2.1 37 = .ok (.iload_n 2, 1) := by decide +kernel
theorem d_M_compute_38 : decode y_M_compute.2.1 38 = .ok (.iadd, 1) := by decide +kernel
theorem d_M_compute_39 : decode y_M_compute.2.1 39 = .ok (.goto 43, 3) := by decide +kernel
theorem d_M_compute_42 : decode y_M_compute.2.1 42 = .ok (.iload_n 1, 1) := by decide +kernel
theorem d_M_compute_43 : decode y_M_compute.2.1 43 = .ok (.iload_n 2, 1) := by decide +kernel
theorem d_M_compute_44 : decode y_M_compute.2.1 44 = .ok (.isub, 1) := by decide +kernel
theorem d_M_compute_45 : decode y_M_compute.2.1 45 = .ok (.goto 37, 3) := by decide +kernel
theorem d_M_compute_48 : decode y_M_compute.2.1 48 = .ok (.iload_n 1, 1) := by decide +kernel
theorem d_M_compute_49 : decode y_M_compute.2.1 49 = .ok (.iload_n 2, 1) := by decide +kernel
theorem d_M_compute_50 : decode y_M_compute.2.1 50 = .ok (.imul, 1) := by decide +kernel
theorem d_M_compute_51 : decode y_M_compute.2.1 51 = .ok (.goto 31, 3) := by decide +kernel
theorem d_M_compute_54 : decode y_M_compute.2.1 54 = .ok (.iload_n 2, 1) := by decide +kernel
theorem d_M_compute_55 : decode y_M_compute.2.1 55 = .ok (.ifCond .ne 7, 3) := by decide +kernel
theorem d_M_compute_58 : decode y_M_compute.2.1 58 = .ok (.iconst 0, 1) := by decide +kernel
theorem d_M_compute_59 : decode y_M_compute.2.1 59 = .ok (.goto 23, 3) := by decide +kernel
theorem d_M_compute_62 : decode y_M_compute.2.1 62 = .ok (.iload_n 1, 1) := by decide +kernel
theorem d_M_compute_63 : decode y_M_compute.2.1 63 = .ok (.iload_n 2, 1) := by decide +kernel
theorem d_M_compute_64 : decode y_M_compute.2.1 64 = .ok (.idiv, 1) := by decide +kernel
theorem d_M_compute_65 : decode y_M_compute.2.1 65 = .ok (.goto 17, 3) := by decide +kernel
theorem d_M_compute_68 : decode y_M_compute.2.1 68 = .ok (.iload_n 1, 1) := by decide +kernel
theorem d_M_compute_69 : decode y_M_compute.2.1 69 = .ok (.iload_n 2, 1) := by decide +kernel
theorem d_M_compute_70 : decode y_M_compute.2.1 70 = .ok (.if_icmp .ge 7, 3) := by decide +kernel
theorem d_M_compute_73 : decode y_M_compute.2.1 73 = .ok (.iconst 1, 1) := by decide +kernel
theorem d_M_compute_74 : decode y_M_compute.2.1 74 = .ok (.goto 8, 3) := by decide +kernel
theorem d_M_compute_77 : decode y_M_compute.2.1 77 = .ok (.iconst 0, 1) := by decide +kernel
theorem d_M_compute_78 : decode y_M_compute.2.1 78 = .ok (.goto 4, 3) := by decide +kernel
theorem d_M_compute_81 : decode y_M_compute.2.1 81 = .ok (.iconst 0, 1) := by decide +kernel
theorem d_M_compute_82 : decode y_M_compute.2.1 82 = .ok (.ireturn, 1) := by decide +kernel
theorem d_M_useThing_0 : decode y_M_useThing.2.1 0 = .ok (.iload_n 3, 1) := by decide +kernel
theorem d_M_useThing_1 : decode y_M_useThing.2.1 1 = .ok (.bipush 17, 2) := by decide +kernel
theorem d_M_useThing_3 : decode y_M_useThing.2.1 3 = .ok (.if_icmp .eq 9, 3) := by decide +kernel
theorem d_M_useThing_6 : decode y_M_useThing.2.1 6 = .ok (.iload_n 3, 1) := by decide +kernel
theorem d_M_useThing_7 : decode y_M_useThing.2.1 7 = .ok (.bipush 24, 2) := by decide +kernel
theorem d_M_useThing_9 : decode y_M_useThing.2.1 9 = .ok (.if_icmp .ne 7, 3) := by decide +kernel
theorem d_M_useThing_12 : decode y_M_useThing.2.1 12 = .ok (.iconst 1, 1) := by decide +kernel
theorem d_M_useThing_13 : decode y_M_useThing.2.1 13 = .ok (.goto 4, 3) := by decide +kernel
theorem d_M_useThing_16 : decode y_M_useThing.2.1 16 = .ok (.iconst 0, 1) := by decide +kernel
theorem d_M_useThing_17 : decode y_M_useThing.2.1 17 = .ok (.istore 5, 2) := by decide +kernel
theorem d_M_useThing_19 : decode y_M_useThing.2.1 19 = .ok (.iload 5, 2) := by decide +kernel
theorem d_M_useThing_21 : decode y_M_useThing.2.1 21 = .ok (.ifCond .eq 10, 3) := by decide +kernel
theorem d_M_useThing_24 : decode y_M_useThing.2.1 24 = .ok (.aload_n 2, 1) := by decide +kernel
theorem d_M_useThing_25 : decode y_M_useThing.2.1 25 = .ok (.invokevirtual 162, 3) := by decide +kernel
theorem d_M_useThing_28 : decode y_M_useThing.2.1 28 = .ok (.goto 4, 3) := by decide +kernel
theorem d_M_useThing_31 : decode y_M_useThing.2.1 31 = .ok (.iconst 0, 1) := by decide +kernel
theorem d_M_useThing_32 : decode y_M_useThing.2.1 32 = .ok (.istore 6, 2) := by decide +kernel
theorem d_M_useThing_34 : decode y_M_useThing.2.1 34 = .ok (.aload_n 0, 1) := by decide +kernel
theorem d_M_useThing_35 : decode y_M_useThing.2.1 35 = .ok (.getfield 25, 3) := by decide +kernel
theorem d_M_useThing_38 : decode y_M_useThing.2.1 38 = .ok (.aload_n 2, 1) := by decide +kernel
theorem d_M_useThing_39 : decode y_M_useThing.2.1 39 = .ok (.invokevirtual 162, 3) := by decide +kernel
theorem d_M_useThing_42 : decode y_M_useThing.2.1 42 = .ok (.invokevirtual 110, 3) := by decide +kernel
theorem d_M_useThing_45 : decode y_M_useThing.2.1 45 = .ok (.astore 7, 2) := by decide +kernel
theorem d_M_useThing_47 : decode y_M_useThing.2.1 47 = .ok (.iload_n 3, 1) := by decide +kernel
theorem d_M_useThing_48 : decode y_M_useThing.2.1 48 = .ok (.bipush 15, 2) := by decide +kernel
theorem d_M_useThing_50 : decode y_M_useThing.2.1 50 = .ok (.if_icmp .ne 30, 3) := by decide +kernel
theorem d_M_useThing_53 : decode y_M_useThing.2.1 53 = .ok (.aload_n 2, 1) := by decide +kernel
theorem d_M_useThing_54 : decode y_M_useThing.2.1 54 = .ok (.aload 7, 2) := by decide +kernel
theorem d_M_useThing_56 : decode y_M_useThing.2.1 56 = .ok (.ifnull 17, 3) := by decide +kernel
theorem d_M_useThing_59 : decode y_M_useThing.2.1 59 = .ok (.aload 7, 2) := by decide +kernel
theorem d_M_useThing_61 : decode y_M_useThing.2.1 61 = .ok (.invokevirtual 203, 3) := by decide +kernel
theorem d_M_useThing_64 : decode y_M_useThing.2.1 64 = .ok (.iload 4, 2) := by decide +kernel
theorem d_M_useThing_66 : decode y_M_useThing.2.1 66 = .ok (.if_icmp .ne 7, 3) := by decide +kernel
theorem d_M_useThing_69 : decode y_M_useThing.2.1 69 = .ok (.iconst 1, 1) := by decide +kernel
theorem d_M_useThing_70 : decode y_M_useThing.2.1 70 = .ok (.goto 4, 3) := by decide +kernel
theorem d_M_useThing_73 : decode y_M_useThing.2.1 73 = .ok (.iconst 0, 1) := by decide +kernel
theorem d_M_useThing_74 : decode y_M_useThing.2.1 74 = .ok (.invokevirtual 177, 3) := by decide +kernel
theorem d_M_useThing_77 : decode y_M_useThing.2.1 77 = .ok (.goto 105, 3) := by decide +kernel
theorem d_M_useThing_80 : decode y_M_useThing.2.1 80 = .ok (.aload 7, 2) := by decide +kernel
theorem d_M_useThing_82 : decode y_M_useThing.2.1 82 = .ok (.ifnull 100, 3) := by decide +kernel
theorem d_M_useThing_85 : decode y_M_useThing.2.1 85 = .ok (.iload_n 3, 1) := by decide +kernel
theorem d_M_useThing_86 : decode y_M_useThing.2.1 86 = .ok (.tableswitch 96 16 24 #[50, 64, 96, 96, 76, 88, 96, 50, 64], 50) := by decide +kernel
theorem d_M_useThing_136 : decode y_M_useThing.2.1 136 = .ok (.aload_n 2, 1) := by decide +kernel
theorem d_M_useThing_137 : decode y_M_useThing.2.1 137 = .ok (.aload 7, 2) := by decide +kernel
theorem d_M_useThing_139 : decode y_M_useThing.2.1 139 = .ok (.iload 4, 2) := by decide +kernel
theorem d_M_useThing_141 : decode y_M_useThing.2.1 141 = .ok (.invokevirtual 206, 3) := by decide +kernel
theorem d_M_useThing_144 : decode y_M_useThing.2.1 144 = .ok (.invokevirtual 177, 3) := by decide +kernel
theorem d_M_useThing_147 : decode y_M_useThing.2.1 147 = .ok (.goto 35, 3) := by decide +kernel
theorem d_M_useThing_150 : decode y_M_useThing.2.1 150 = .ok (.aload 7, 2) := by decide +kernel
theorem d_M_useThing_152 : decode y_M_useThing.2.1 152 = .ok (.iload 4, 2) := by decide +kernel
theorem d_M_useThing_154 : decode y_M_useThing.2.1 154 = .ok (.iload 6, 2) := by decide +kernel
theorem d_M_useThing_156 : decode y_M_useThing.2.1 156 = .ok (.invokevirtual 209, 3) := by decide +kernel
theorem d_M_useThing_159 : decode y_M_useThing.2.1 159 = .ok (.goto 23, 3) := by decide +kernel
theorem d_M_useThing_162 : decode y_M_useThing.2.1 162 = .ok (.aload 7, 2) := by decide +kernel
theorem d_M_useThing_164 : decode y_M_useThing.2.1 164 = .ok (.aload_n 1, 1) := by decide +kernel
theorem d_M_useThing_165 : decode y_M_useThing.2.1 165 = .ok (.invokevirtual 113, 3) := by decide +kernel
theorem d_M_useThing_168 : decode y_M_useThing.2.1 168 = .ok (.invokevirtual 212, 3) := by decide +kernel
theorem d_M_useThing_171 : decode y_M_useThing.2.1 171 = .ok (.goto 11, 3) := by decide +kernel
theorem d_M_useThing_174 : decode y_M_useThing.2.1 174 = .ok (.aload 7, 2) := by decide +kernel
theorem d_M_useThing_176 : decode y_M_useThing.2.1 176 = .ok (.invokevirtual 215, 3) := by decide +kernel
theorem d_M_useThing_179 : decode y_M_useThing.2.1 179 = .ok (.goto 3, 3) := by decide +kernel
theorem d_M_useThing_182 : decode y_M_useThing.2.1 182 = .ok (.return_, 1) := by decide +kernel
theorem d_T_field_0 : decode y_T_field.2.1 0 = .ok (.iload_n 1, 1) := by decide +kernel
theorem d_T_field_1 : decode y_T_field.2.1 1 = .ok (.ifCond .lt 18, 3) := by decide +kernel
theorem d_T_field_4 : decode y_T_field.2.1 4 = .ok (.iload_n 1, 1) := by decide +kernel
theorem d_T_field_5 : decode y_T_field.2.1 5 = .ok (.bipush 8, 2) := by decide +kernel
theorem d_T_field_7 : decode y_T_field.2.1 7 = .ok (.if_icmp .ge 12, 3) := by decide +kernel
theorem d_T_field_10 : decode y_T_field.2.1 10 = .ok (.aload_n 0, 1) := by decide +kernel
theorem d_T_field_11 : decode y_T_field.2.1 11 = .ok (.getfield 9, 3) := by decide +kernel
theorem d_T_field_14 : decode y_T_field.2.1 14 = .ok (.iload_n 1, 1) := by decide +kernel
theorem d_T_field_15 : decode y_T_field.2.1 15 = .ok (.iaload, 1) := by decide +kernel
theorem d_T_field_16 : decode y_T_field.2.1 16 = .ok (.goto 4, 3) := by decide +kernel
theorem d_T_field_19 : decode y_T_field.2.1 19 = .ok (.iconst 0, 1) := by decide +kernel
theorem d_T_field_20 : decode y_T_field.2.1 20 = .ok (.ireturn, 1) := by decide +kernel
theorem d_T_setField_0 : decode y_T_setField.2.1 0 = .ok (.iload_n 1, 1) := by decide +kernel
theorem d_T_setField_1 : decode y_T_setField.2.1 1 = .ok (.ifCond .lt 16, 3) := by decide +kernel
theorem d_T_setField_4 : decode y_T_setField.2.1 4 = .ok (.iload_n 1, 1) := by decide +kernel
theorem d_T_setField_5 : decode y_T_setField.2.1 5 = .ok (.bipush 8, 2) := by decide +kernel
theorem d_T_setField_7 : decode y_T_setField.2.1 7 = .ok (.if_icmp .ge 10, 3) := by decide +kernel
theorem d_T_setField_10 : decode y_T_setField.2.1 10 = .ok (.aload_n 0, 1) := by decide +kernel
theorem d_T_setField_11 : decode y_T_setField.2.1 11 = .ok (.getfield 9, 3) := by decide +kernel
theorem d_T_setField_14 : decode y_T_setField.2.1 14 = .ok (.iload_n 1, 1) := by decide +kernel
theorem d_T_setField_15 : decode y_T_setField.2.1 15 = .ok (.iload_n 2, 1) := by decide +kernel
theorem d_T_setField_16 : decode y_T_setField.2.1 16 = .ok (.iastore, 1) := by decide +kernel
theorem d_T_setField_17 : decode y_T_setField.2.1 17 = .ok (.return_, 1) := by decide +kernel
theorem d_T_enter_0 : decode y_T_enter.2.1 0 = .ok (.aload_n 0, 1) := by decide +kernel
theorem d_T_enter_1 : decode y_T_enter.2.1 1 = .ok (.iload_n 1, 1) := by decide +kernel
theorem d_T_enter_2 : decode y_T_enter.2.1 2 = .ok (.putfield 22, 3) := by decide +kernel
theorem d_T_enter_5 : decode y_T_enter.2.1 5 = .ok (.aload_n 0, 1) := by decide +kernel
theorem d_T_enter_6 : decode y_T_enter.2.1 6 = .ok (.dup, 1) := by decide +kernel
theorem d_T_enter_7 : decode y_T_enter.2.1 7 = .ok (.getfield 25, 3) := by decide +kernel
theorem d_T_enter_10 : decode y_T_enter.2.1 10 = .ok (.iconst 1, 1) := by decide +kernel
theorem d_T_enter_11 : decode y_T_enter.2.1 11 = .ok (.iadd, 1) := by decide +kernel
theorem d_T_enter_12 : decode y_T_enter.2.1 12 = .ok (.putfield 25, 3) := by decide +kernel
theorem d_T_enter_15 : decode y_T_enter.2.1 15 = .ok (.return_, 1) := by decide +kernel
theorem d_T_leave_0 : decode y_T_leave.2.1 0 = .ok (.aload_n 0, 1) := by decide +kernel
theorem d_T_leave_1 : decode y_T_leave.2.1 1 = .ok (.dup, 1) := by decide +kernel
theorem d_T_leave_2 : decode y_T_leave.2.1 2 = .ok (.getfield 25, 3) := by decide +kernel
theorem d_T_leave_5 : decode y_T_leave.2.1 5 = .ok (.iconst 1, 1) := by decide +kernel
theorem d_T_leave_6 : decode y_T_leave.2.1 6 = .ok (.isub, 1) := by decide +kernel
theorem d_T_leave_7 : decode y_T_leave.2.1 7 = .ok (.putfield 25, 3) := by decide +kernel
theorem d_T_leave_10 : decode y_T_leave.2.1 10 = .ok (.aload_n 0, 1) := by decide +kernel
theorem d_T_leave_11 : decode y_T_leave.2.1 11 = .ok (.getfield 25, 3) := by decide +kernel
theorem d_T_leave_14 : decode y_T_leave.2.1 14 = .ok (.ifCond .gt 7, 3) := by decide +kernel
theorem d_T_leave_17 : decode y_T_leave.2.1 17 = .ok (.aload_n 0, 1) := by decide +kernel
theorem d_T_leave_18 : decode y_T_leave.2.1 18 = .ok (.invokevirtual 19, 3) := by decide +kernel
theorem d_T_leave_21 : decode y_T_leave.2.1 21 = .ok (.return_, 1) := by decide +kernel
theorem d_M_moveValue_0 : decode y_M_moveValue.2.1 0 = .ok (.iload_n 2, 1) := by decide +kernel
theorem d_M_moveValue_1 : decode y_M_moveValue.2.1 1 = .ok (.tableswitch 228 0 26 #[123, 131, 139, 147, 228, 228, 228, 228, 228, 159, 171, 228, 228, 228, 183, 228, 228, 228, 228, 228, 228, 228, 228, 228, 228, 198, 213], 123) := by decide +kernel
theorem d_M_moveValue_124 : decode y_M_moveValue.2.1 124 = .ok (.aload_n 1, 1) := by decide +kernel
theorem d_M_moveValue_125 : decode y_M_moveValue.2.1 125 = .ok (.iload_n 3, 1) := by decide +kernel
theorem d_M_moveValue_126 : decode y_M_moveValue.2.1 126 = .ok (.invokevirtual 177, 3) := by decide +kernel
theorem d_M_moveValue_129 : decode y_M_moveValue.2.1 129 = .ok (.goto 100, 3) := by decide +kernel
theorem d_M_moveValue_132 : decode y_M_moveValue.2.1 132 = .ok (.aload_n 1, 1) := by decide +kernel
theorem d_M_moveValue_133 : decode y_M_moveValue.2.1 133 = .ok (.iconst 0, 1) := by decide +kernel
theorem d_M_moveValue_134 : decode y_M_moveValue.2.1 134 = .ok (.invokevirtual 177, 3) := by decide +kernel
theorem d_M_moveValue_137 : decode y_M_moveValue.2.1 137 = .ok (.goto 92, 3) := by decide +kernel
theorem d_M_moveValue_140 : decode y_M_moveValue.2.1 140 = .ok (.aload_n 1, 1) := by decide +kernel
theorem d_M_moveValue_141 : decode y_M_moveValue.2.1 141 = .ok (.invokevirtual 162, 3) := by decide +kernel
theorem d_M_moveValue_144 : decode y_M_moveValue.2.1 144 = .ok (.pop, 1) := by decide +kernel
theorem d_M_moveValue_145 : decode y_M_moveValue.2.1 145 = .ok (.goto 84, 3) := by decide +kernel
theorem d_M_moveValue_148 : decode y_M_moveValue.2.1 148 = .ok (.aload_n 1, 1) := by decide +kernel
theorem d_M_moveValue_149 : decode y_M_moveValue.2.1 149 = .ok (.aload_n 1, 1) := by decide +kernel
theorem d_M_moveValue_150 : decode y_M_moveValue.2.1 150 = .ok (.iconst 0, 1) := by decide +kernel
theorem d_M_moveValue_151 : decode y_M_moveValue.2.1 151 = .ok (.invokevirtual 107, 3) := by decide +kernel
theorem d_M_moveValue_154 : decode y_M_moveValue.2.1 154 = .ok (.invokevirtual 177, 3) := by decide +kernel
theorem d_M_moveValue_157 : decode y_M_moveValue.2.1 157 = .ok (.goto 72, 3) := by decide +kernel
theorem d_M_moveValue_160 : decode y_M_moveValue.2.1 160 = .ok (.aload_n 1, 1) := by decide +kernel
theorem d_M_moveValue_161 : decode y_M_moveValue.2.1 161 = .ok (.aload_n 1, 1) := by decide +kernel
theorem d_M_moveValue_162 : decode y_M_moveValue.2.1 162 = .ok (.iload_n 3, 1) := by decide +kernel
theorem d_M_moveValue_163 : decode y_M_moveValue.2.1 163 = .ok (.invokevirtual 190, 3) := by decide +kernel
theorem d_M_moveValue_166 : decode y_M_moveValue.2.1 166 = .ok (.invokevirtual 177, 3) := by decide +kernel
theorem d_M_moveValue_169 : decode y_M_moveValue.2.1 169 = .ok (.goto 60, 3) := by decide +kernel
theorem d_M_moveValue_172 : decode y_M_moveValue.2.1 172 = .ok (.aload_n 1, 1) := by decide +kernel
theorem d_M_moveValue_173 : decode y_M_moveValue.2.1 173 = .ok (.iload_n 3, 1) := by decide +kernel
theorem d_M_moveValue_174 : decode y_M_moveValue.2.1 174 = .ok (.aload_n 1, 1) := by decide +kernel
theorem d_M_moveValue_175 : decode y_M_moveValue.2.1 175 = .ok (.invokevirtual 162, 3) := by decide +kernel
theorem d_M_moveValue_178 : decode y_M_moveValue.2.1 178 = .ok (.invokevirtual 193, 3) := by decide +kernel
theorem d_M_moveValue_181 : decode y_M_moveValue.2.1 181 = .ok (.goto 48, 3) := by decide +kernel
theorem d_M_moveValue_184 : decode y_M_moveValue.2.1 184 = .ok (.aload_n 1, 1) := by decide +kernel
theorem d_M_moveValue_185 : decode y_M_moveValue.2.1 185 = .ok (.aload_n 0, 1) := by decide +kernel
theorem d_M_moveValue_186 : decode y_M_moveValue.2.1 186 = .ok (.getfield 25, 3) := by decide +kernel
theorem d_M_moveValue_189 : decode y_M_moveValue.2.1 189 = .ok (.iload_n 3, 1) := by decide +kernel
theorem d_M_moveValue_190 : decode y_M_moveValue.2.1 190 = .ok (.invokevirtual 139, 3) := by decide +kernel
theorem d_M_moveValue_193 : decode y_M_moveValue.2.1 193 = .ok (.invokevirtual 177, 3) := by decide +kernel
theorem d_M_moveValue_196 : decode y_M_moveValue.2.1 196 = .ok (.goto 33, 3) := by decide +kernel
theorem d_M_moveValue_199 : decode y_M_moveValue.2.1 199 = .ok (.aload_n 1, 1) := by decide +kernel
theorem d_M_moveValue_200 : decode y_M_moveValue.2.1 200 = .ok (.aload_n 0, 1) := by decide +kernel
theorem d_M_moveValue_201 : decode y_M_moveValue.2.1 201 = .ok (.getfield 25, 3) := by decide +kernel
theorem d_M_moveValue_204 : decode y_M_moveValue.2.1 204 = .ok (.iload_n 3, 1) := by decide +kernel
theorem d_M_moveValue_205 : decode y_M_moveValue.2.1 205 = .ok (.invokevirtual 197, 3) := by decide +kernel
theorem d_M_moveValue_208 : decode y_M_moveValue.2.1 208 = .ok (.invokevirtual 177, 3) := by decide +kernel
theorem d_M_moveValue_211 : decode y_M_moveValue.2.1 211 = .ok (.goto 18, 3) := by decide +kernel
theorem d_M_moveValue_214 : decode y_M_moveValue.2.1 214 = .ok (.aload_n 0, 1) := by decide +kernel
theorem d_M_moveValue_215 : decode y_M_moveValue.2.1 215 = .ok (.getfield 25, 3) := by decide +kernel
theorem d_M_moveValue_218 : decode y_M_moveValue.2.1 218 = .ok (.iload_n 3, 1) := by decide +kernel
theorem d_M_moveValue_219 : decode y_M_moveValue.2.1 219 = .ok (.aload_n 1, 1) := by decide +kernel
theorem d_M_moveValue_220 : decode y_M_moveValue.2.1 220 = .ok (.invokevirtual 162, 3) := by decide +kernel
theorem d_M_moveValue_223 : decode y_M_moveValue.2.1 223 = .ok (.invokevirtual 200, 3) := by decide +kernel
theorem d_M_moveValue_226 : decode y_M_moveValue.2.1 226 = .ok (.goto 3, 3) := by decide +kernel
theorem d_M_moveValue_229 : decode y_M_moveValue.2.1 229 = .ok (.return_, 1) := by decide +kernel
theorem d_F_localAt_0 : decode y_F_localAt.2.1 0 = .ok (.aload_n 0, 1) := by decide +kernel
theorem d_F_localAt_1 : decode y_F_localAt.2.1 1 = .ok (.getfield 18, 3) := by decide +kernel
theorem d_F_localAt_4 : decode y_F_localAt.2.1 4 = .ok (.ifnull 27, 3) := by decide +kernel
theorem d_F_localAt_7 : decode y_F_localAt.2.1 7 = .ok (.iload_n 1, 1) := by decide +kernel
theorem d_F_localAt_8 : decode y_F_localAt.2.1 8 = .ok (.ifCond .lt 23, 3) := by decide +kernel
theorem d_F_localAt_11 : decode y_F_localAt.2.1 11 = .ok (.iload_n 1, 1) := by decide +kernel
theorem d_F_localAt_12 : decode y_F_localAt.2.1 12 = .ok (.aload_n 0, 1) := by decide +kernel
theorem d_F_localAt_13 : decode y_F_localAt.2.1 13 = .ok (.getfield 18, 3) := by decide +kernel
theorem d_F_localAt_16 : decode y_F_localAt.2.1 16 = .ok (.invokevirtual 43, 3) := by decide +kernel
theorem d_F_localAt_19 : decode y_F_localAt.2.1 19 = .ok (.if_icmp .ge 12, 3) := by decide +kernel
theorem d_F_localAt_22 : decode y_F_localAt.2.1 22 = .ok (.aload_n 0, 1) := by decide +kernel
theorem d_F_localAt_23 : decode y_F_localAt.2.1 23 = .ok (.getfield 15, 3) := by decide +kernel
theorem d_F_localAt_26 : decode y_F_localAt.2.1 26 = .ok (.iload_n 1, 1) := by decide +kernel
theorem d_F_localAt_27 : decode y_F_localAt.2.1 27 = .ok (.iaload, 1) := by decide +kernel
theorem d_F_localAt_28 : decode y_F_localAt.2.1 28 = .ok (.goto 4, 3) := by decide +kernel
theorem d_F_localAt_31 : decode y_F_localAt.2.1 31 = .ok (.iconst 0, 1) := by decide +kernel
theorem d_F_localAt_32 : decode y_F_localAt.2.1 32 = .ok (.ireturn, 1) := by decide +kernel
theorem d_H_make_0 : decode y_H_make.2.1 0 = .ok (.aload_n 0, 1) := by decide +kernel
theorem d_H_make_1 : decode y_H_make.2.1 1 = .ok (.invokevirtual 29, 3) := by decide +kernel
theorem d_H_make_4 : decode y_H_make.2.1 4 = .ok (.ifCond .eq 5, 3) := by decide +kernel
theorem d_H_make_7 : decode y_H_make.2.1 7 = .ok (.iconst 0, 1) := by decide +kernel
theorem d_H_make_8 : decode y_H_make.2.1 8 = .ok (.ireturn, 1) := by decide +kernel
theorem d_H_make_9 : decode y_H_make.2.1 9 = .ok (.aload_n 0, 1) := by decide +kernel
theorem d_H_make_10 : decode y_H_make.2.1 10 = .ok (.getfield 11, 3) := by decide +kernel
theorem d_H_make_13 : decode y_H_make.2.1 13 = .ok (.aload_n 0, 1) := by decide +kernel
theorem d_H_make_14 : decode y_H_make.2.1 14 = .ok (.getfield 21, 3) := by decide +kernel
theorem d_H_make_17 : decode y_H_make.2.1 17 = .ok (.aaload, 1) := by decide +kernel
theorem d_H_make_18 : decode y_H_make.2.1 18 = .ok (.astore_n 2, 1) := by decide +kernel
theorem d_H_make_19 : decode y_H_make.2.1 19 = .ok (.aload_n 2, 1) := by decide +kernel
theorem d_H_make_20 : decode y_H_make.2.1 20 = .ok (.ifnonnull 21, 3) := by decide +kernel
theorem d_H_make_23 : decode y_H_make.2.1 23 = .ok (.new 9, 3) := by decide +kernel
theorem d_H_make_26 : decode y_H_make.2.1 26 = .ok (.dup, 1) := by decide +kernel
theorem d_H_make_27 : decode y_H_make.2.1 27 = .ok (.invokespecial 33, 3) := by decide +kernel
theorem d_H_make_30 : decode y_H_make.2.1 30 = .ok (.astore_n 2, 1) := by decide +kernel
theorem d_H_make_31 : decode y_H_make.2.1 31 = .ok (.aload_n 0, 1) := by decide +kernel
theorem d_H_make_32 : decode y_H_make.2.1 32 = .ok (.getfield 11, 3) := by decide +kernel
theorem d_H_make_35 : decode y_H_make.2.1 35 = .ok (.aload_n 0, 1) := by decide +kernel
theorem d_H_make_36 : decode y_H_make.2.1 36 = .ok (.getfield 21, 3) := by decide +kernel
theorem d_H_make_39 : decode y_H_make.2.1 39 = .ok (.aload_n 2, 1) := by decide +kernel
theorem d_H_make_40 : decode y_H_make.2.1 40 = .ok (.aastore, 1) := by decide +kernel
theorem d_H_make_41 : decode y_H_make.2.1 41 = .ok (.aload_n 2, 1) := by decide +kernel
theorem d_H_make_42 : decode y_H_make.2.1 42 = .ok (.iload_n 1, 1) := by decide +kernel
theorem d_H_make_43 : decode y_H_make.2.1 43 = .ok (.invokevirtual 34, 3) := by decide +kernel
theorem d_H_make_46 : decode y_H_make.2.1 46 = .ok (.aload_n 0, 1) := by decide +kernel
theorem d_H_make_47 : decode y_H_make.2.1 47 = .ok (.dup, 1) := by decide +kernel
theorem d_H_make_48 : decode y_H_make.2.1 48 = .ok (.getfield 21, 3) := by decide +kernel
theorem d_H_make_51 : decode y_H_make.2.1 51 = .ok (.iconst 1, 1) := by decide +kernel
theorem d_H_make_52 : decode y_H_make.2.1 52 = .ok (.iadd, 1) := by decide +kernel
theorem d_H_make_53 : decode y_H_make.2.1 53 = .ok (.putfield 21, 3) := by decide +kernel
theorem d_H_make_56 : decode y_H_make.2.1 56 = .ok (.aload_n 0, 1) := by decide +kernel
theorem d_H_make_57 : decode y_H_make.2.1 57 = .ok (.dup, 1) := by decide +kernel
theorem d_H_make_58 : decode y_H_make.2.1 58 = .ok (.getfield 25, 3) := by decide +kernel
theorem d_H_make_61 : decode y_H_make.2.1 61 = .ok (.iconst 1, 1) := by decide +kernel
theorem d_H_make_62 : decode y_H_make.2.1 62 = .ok (.iadd, 1) := by decide +kernel
theorem d_H_make_63 : decode y_H_make.2.1 63 = .ok (.putfield 25, 3) := by decide +kernel
theorem d_H_make_66 : decode y_H_make.2.1 66 = .ok (.aload_n 0, 1) := by decide +kernel
theorem d_H_make_67 : decode y_H_make.2.1 67 = .ok (.getfield 21, 3) := by decide +kernel
theorem d_H_make_70 : decode y_H_make.2.1 70 = .ok (.ireturn, 1) := by decide +kernel
theorem d_T_init_0 : decode y_T_init.2.1 0 = .ok (.aload_n 0, 1) := by decide +kernel
theorem d_T_init_1 : decode y_T_init.2.1 1 = .ok (.invokespecial 3, 3) := by decide +kernel
theorem d_T_init_4 : decode y_T_init.2.1 4 = .ok (.aload_n 0, 1) := by decide +kernel
theorem d_T_init_5 : decode y_T_init.2.1 5 = .ok (.bipush 8, 2) := by decide +kernel
theorem d_T_init_7 : decode y_T_init.2.1 7 = .ok (.newarray .int, 2) := by decide +kernel
theorem d_T_init_9 : decode y_T_init.2.1 9 = .ok (.putfield 9, 3) := by decide +kernel
theorem d_T_init_12 : decode y_T_init.2.1 12 = .ok (.return_, 1) := by decide +kernel
theorem d_T_begin_0 : decode y_T_begin.2.1 0 = .ok (.aload_n 0, 1) := by decide +kernel
theorem d_T_begin_1 : decode y_T_begin.2.1 1 = .ok (.iload_n 1, 1) := by decide +kernel
theorem d_T_begin_2 : decode y_T_begin.2.1 2 = .ok (.putfield 15, 3) := by decide +kernel
theorem d_T_begin_5 : decode y_T_begin.2.1 5 = .ok (.aload_n 0, 1) := by decide +kernel
theorem d_T_begin_6 : decode y_T_begin.2.1 6 = .ok (.invokevirtual 19, 3) := by decide +kernel
theorem d_T_begin_9 : decode y_T_begin.2.1 9 = .ok (.iconst 0, 1) := by decide +kernel
theorem d_T_begin_10 : decode y_T_begin.2.1 10 = .ok (.istore_n 2, 1) := by decide +kernel
theorem d_T_begin_11 : decode y_T_begin.2.1 11 = .ok (.iload_n 2, 1) := by decide +kernel
theorem d_T_begin_12 : decode y_T_begin.2.1 12 = .ok (.bipush 8, 2) := by decide +kernel
theorem d_T_begin_14 : decode y_T_begin.2.1 14 = .ok (.if_icmp .ge 16, 3) := by decide +kernel
theorem d_T_begin_17 : decode y_T_begin.2.1 17 = .ok (.aload_n 0, 1) := by decide +kernel
theorem d_T_begin_18 : decode y_T_begin.2.1 18 = .ok (.getfield 9, 3) := by decide +kernel
theorem d_T_begin_21 : decode y_T_begin.2.1 21 = .ok (.iload_n 2, 1) := by decide +kernel
theorem d_T_begin_22 : decode y_T_begin.2.1 22 = .ok (.iconst 0, 1) := by decide +kernel
theorem d_T_begin_23 : decode y_T_begin.2.1 23 = .ok (.iastore, 1) := by decide +kernel
theorem d_T_begin_24 : decode y_T_begin.2.1 24 = .ok (.iinc 2 1, 3) := by decide +kernel
theorem d_T_begin_27 : decode y_T_begin.2.1 27 = .ok (.goto (-16), 3) := by decide +kernel
theorem d_T_begin_30 : decode y_T_begin.2.1 30 = .ok (.return_, 1) := by decide +kernel
theorem d_H_globalAt_0 : decode y_H_globalAt.2.1 0 = .ok (.iload_n 1, 1) := by decide +kernel
theorem d_H_globalAt_1 : decode y_H_globalAt.2.1 1 = .ok (.ifCond .lt 17, 3) := by decide +kernel
theorem d_H_globalAt_4 : decode y_H_globalAt.2.1 4 = .ok (.iload_n 1, 1) := by decide +kernel
theorem d_H_globalAt_5 : decode y_H_globalAt.2.1 5 = .ok (.iconst 4, 1) := by decide +kernel
theorem d_H_globalAt_6 : decode y_H_globalAt.2.1 6 = .ok (.if_icmp .ge 12, 3) := by decide +kernel
theorem d_H_globalAt_9 : decode y_H_globalAt.2.1 9 = .ok (.aload_n 0, 1) := by decide +kernel
theorem d_H_globalAt_10 : decode y_H_globalAt.2.1 10 = .ok (.getfield 17, 3) := by decide +kernel
theorem d_H_globalAt_13 : decode y_H_globalAt.2.1 13 = .ok (.iload_n 1, 1) := by decide +kernel
theorem d_H_globalAt_14 : decode y_H_globalAt.2.1 14 = .ok (.iaload, 1) := by decide +kernel
theorem d_H_globalAt_15 : decode y_H_globalAt.2.1 15 = .ok (.goto 4, 3) := by decide +kernel
theorem d_H_globalAt_18 : decode y_H_globalAt.2.1 18 = .ok (.iconst 0, 1) := by decide +kernel
theorem d_H_globalAt_19 : decode y_H_globalAt.2.1 19 = .ok (.ireturn, 1) := by decide +kernel
theorem d_H_setGlobal_0 : decode y_H_setGlobal.2.1 0 = .ok (.iload_n 1, 1) := by decide +kernel
theorem d_H_setGlobal_1 : decode y_H_setGlobal.2.1 1 = .ok (.ifCond .lt 15, 3) := by decide +kernel
theorem d_H_setGlobal_4 : decode y_H_setGlobal.2.1 4 = .ok (.iload_n 1, 1) := by decide +kernel
theorem d_H_setGlobal_5 : decode y_H_setGlobal.2.1 5 = .ok (.iconst 4, 1) := by decide +kernel
theorem d_H_setGlobal_6 : decode y_H_setGlobal.2.1 6 = .ok (.if_icmp .ge 10, 3) := by decide +kernel
theorem d_H_setGlobal_9 : decode y_H_setGlobal.2.1 9 = .ok (.aload_n 0, 1) := by decide +kernel
theorem d_H_setGlobal_10 : decode y_H_setGlobal.2.1 10 = .ok (.getfield 17, 3) := by decide +kernel
theorem d_H_setGlobal_13 : decode y_H_setGlobal.2.1 13 = .ok (.iload_n 1, 1) := by decide +kernel
theorem d_H_setGlobal_14 : decode y_H_setGlobal.2.1 14 = .ok (.iload_n 2, 1) := by decide +kernel
theorem d_H_setGlobal_15 : decode y_H_setGlobal.2.1 15 = .ok (.iastore, 1) := by decide +kernel
theorem d_H_setGlobal_16 : decode y_H_setGlobal.2.1 16 = .ok (.return_, 1) := by decide +kernel
theorem d_S_state_0 : decode y_S_state.2.1 0 = .ok (.aload_n 0, 1) := by decide +kernel
theorem d_S_state_1 : decode y_S_state.2.1 1 = .ok (.getfield 28, 3) := by decide +kernel
theorem d_S_state_4 : decode y_S_state.2.1 4 = .ok (.ireturn, 1) := by decide +kernel
theorem d_J_told_0 : decode y_J_told.2.1 0 = .ok (.aload_n 0, 1) := by decide +kernel
theorem d_J_told_1 : decode y_J_told.2.1 1 = .ok (.getfield 37, 3) := by decide +kernel
theorem d_J_told_4 : decode y_J_told.2.1 4 = .ok (.iload_n 1, 1) := by decide +kernel
theorem d_J_told_5 : decode y_J_told.2.1 5 = .ok (.invokevirtual 84, 3) := by decide +kernel
theorem d_J_told_8 : decode y_J_told.2.1 8 = .ok (.astore_n 3, 1) := by decide +kernel
theorem d_J_told_9 : decode y_J_told.2.1 9 = .ok (.aload_n 3, 1) := by decide +kernel
theorem d_J_told_10 : decode y_J_told.2.1 10 = .ok (.ifnonnull 6, 3) := by decide +kernel
theorem d_J_told_13 : decode y_J_told.2.1 13 = .ok (.bipush (-14), 2) := by decide +kernel
theorem d_J_told_15 : decode y_J_told.2.1 15 = .ok (.ireturn, 1) := by decide +kernel
theorem d_J_told_16 : decode y_J_told.2.1 16 = .ok (.iload_n 2, 1) := by decide +kernel
theorem d_J_told_17 : decode y_J_told.2.1 17 = .ok (.bipush 6, 2) := by decide +kernel
theorem d_J_told_19 : decode y_J_told.2.1 19 = .ok (.if_icmp .ne 14, 3) := by decide +kernel
theorem d_J_told_22 : decode y_J_told.2.1 22 = .ok (.aload_n 0, 1) := by decide +kernel
theorem d_J_told_23 : decode y_J_told.2.1 23 = .ok (.getfield 37, 3) := by decide +kernel
theorem d_J_told_26 : decode y_J_told.2.1 26 = .ok (.aload_n 3, 1) := by decide +kernel
theorem d_J_told_27 : decode y_J_told.2.1 27 = .ok (.invokevirtual 91, 3) := by decide +kernel
theorem d_J_told_30 : decode y_J_told.2.1 30 = .ok (.goto 8, 3) := by decide +kernel
theorem d_J_told_33 : decode y_J_told.2.1 33 = .ok (.aload_n 3, 1) := by decide +kernel
theorem d_J_told_34 : decode y_J_told.2.1 34 = .ok (.iload_n 2, 1) := by decide +kernel
theorem d_J_told_35 : decode y_J_told.2.1 35 = .ok (.invokevirtual 95, 3) := by decide +kernel
theorem d_J_told_38 : decode y_J_told.2.1 38 = .ok (.ireturn, 1) := by decide +kernel
theorem d_S_tell_0 : decode y_S_tell.2.1 0 = .ok (.aload_n 0, 1) := by decide +kernel
theorem d_S_tell_1 : decode y_S_tell.2.1 1 = .ok (.invokevirtual 52, 3) := by decide +kernel
theorem d_S_tell_4 : decode y_S_tell.2.1 4 = .ok (.astore_n 2, 1) := by decide +kernel
theorem d_S_tell_5 : decode y_S_tell.2.1 5 = .ok (.iload_n 1, 1) := by decide +kernel
theorem d_S_tell_6 : decode y_S_tell.2.1 6 = .ok (.tableswitch 114 0 5 #[38, 45, 52, 59, 84, 99], 38) := by decide +kernel
theorem d_S_tell_44 : decode y_S_tell.2.1 44 = .ok (.aload_n 0, 1) := by decide +kernel
theorem d_S_tell_45 : decode y_S_tell.2.1 45 = .ok (.getfield 25, 3) := by decide +kernel
theorem d_S_tell_48 : decode y_S_tell.2.1 48 = .ok (.goto 74, 3) := by decide +kernel
theorem d_S_tell_51 : decode y_S_tell.2.1 51 = .ok (.aload_n 0, 1) := by decide +kernel
theorem d_S_tell_52 : decode y_S_tell.2.1 52 = .ok (.getfield 22, 3) := by decide +kernel
theorem d_S_tell_55 : decode y_S_tell.2.1 55 = .ok (.goto 67, 3) := by decide +kernel
theorem d_S_tell_58 : decode y_S_tell.2.1 58 = .ok (.aload_n 0, 1) := by decide +kernel
theorem d_S_tell_59 : decode y_S_tell.2.1 59 = .ok (.getfield 31, 3) := by decide +kernel
theorem d_S_tell_62 : decode y_S_tell.2.1 62 = .ok (.goto 60, 3) := by decide +kernel
theorem d_S_tell_65 : decode y_S_tell.2.1 65 = .ok (.aload_n 2, 1) := by decide +kernel
theorem d_S_tell_66 : decode y_S_tell.2.1 66 = .ok (.ifnull 10, 3) := by decide +kernel
theorem d_S_tell_69 : decode y_S_tell.2.1 69 = .ok (.aload_n 2, 1) := by decide +kernel
theorem d_S_tell_70 : decode y_S_tell.2.1 70 = .ok (.invokevirtual 56, 3) := by decide +kernel
theorem d_S_tell_73 : decode y_S_tell.2.1 73 = .ok (.ifnonnull 7, 3) := by decide +kernel
theorem d_S_tell_76 : decode y_S_tell.2.1 76 = .ok (.iconst (-1), 1) := by decide +kernel
theorem d_S_tell_77 : decode y_S_tell.2.1 77 = .ok (.goto 45, 3) := by decide +kernel
theorem d_S_tell_80 : decode y_S_tell.2.1 80 = .ok (.aload_n 2, 1) := by decide +kernel
theorem d_S_tell_81 : decode y_S_tell.2.1 81 = .ok (.invokevirtual 56, 3) := by decide +kernel
theorem d_S_tell_84 : decode y_S_tell.2.1 84 = .ok (.getfield 60, 3) := by decide +kernel
theorem d_S_tell_87 : decode y_S_tell.2.1 87 = .ok (.goto 35, 3) := by decide +kernel
theorem d_S_tell_90 : decode y_S_tell.2.1 90 = .ok (.aload_n 2, 1) := by decide +kernel
theorem d_S_tell_91 : decode y_S_tell.2.1 91 = .ok (.ifnonnull 7, 3) := by decide +kernel
theorem d_S_tell_94 : decode y_S_tell.2.1 94 = .ok (.iconst (-1), 1) := by decide +kernel
theorem d_S_tell_95 : decode y_S_tell.2.1 95 = .ok (.goto 27, 3) := by decide +kernel
theorem d_S_tell_98 : decode y_S_tell.2.1 98 = .ok (.aload_n 2, 1) := by decide +kernel
theorem d_S_tell_99 : decode y_S_tell.2.1 99 = .ok (.invokevirtual 63, 3) := by decide +kernel
theorem d_S_tell_102 : decode y_S_tell.2.1 102 = .ok (.goto 20, 3) := by decide +kernel
theorem d_S_tell_105 : decode y_S_tell.2.1 105 = .ok (.aload_n 2, 1) := by decide +kernel
theorem d_S_tell_106 : decode y_S_tell.2.1 106 = .ok (.ifnonnull 7, 3) := by decide +kernel
theorem d_S_tell_109 : decode y_S_tell.2.1 109 = .ok (.iconst 0, 1) := by decide +kernel
theorem d_S_tell_110 : decode y_S_tell.2.1 110 = .ok (.goto 12, 3) := by decide +kernel
theorem d_S_tell_113 : decode y_S_tell.2.1 113 = .ok (.aload_n 2, 1) := by decide +kernel
theorem d_S_tell_114 : decode y_S_tell.2.1 114 = .ok (.invokevirtual 67, 3) := by decide +kernel
theorem d_S_tell_117 : decode y_S_tell.2.1 117 = .ok (.goto 5, 3) := by decide +kernel
theorem d_S_tell_120 : decode y_S_tell.2.1 120 = .ok (.bipush (-14), 2) := by decide +kernel
theorem d_S_tell_122 : decode y_S_tell.2.1 122 = .ok (.ireturn, 1) := by decide +kernel
theorem d_F_depth_0 : decode y_F_depth.2.1 0 = .ok (.aload_n 0, 1) := by decide +kernel
theorem d_F_depth_1 : decode y_F_depth.2.1 1 = .ok (.getfield 22, 3) := by decide +kernel
theorem d_F_depth_4 : decode y_F_depth.2.1 4 = .ok (.ireturn, 1) := by decide +kernel
theorem d_J_object_0 : decode y_J_object.2.1 0 = .ok (.aload_n 0, 1) := by decide +kernel
theorem d_J_object_1 : decode y_J_object.2.1 1 = .ok (.getfield 28, 3) := by decide +kernel
theorem d_J_object_4 : decode y_J_object.2.1 4 = .ok (.iload_n 1, 1) := by decide +kernel
theorem d_J_object_5 : decode y_J_object.2.1 5 = .ok (.invokevirtual 100, 3) := by decide +kernel
theorem d_J_object_8 : decode y_J_object.2.1 8 = .ok (.astore_n 3, 1) := by decide +kernel
theorem d_J_object_9 : decode y_J_object.2.1 9 = .ok (.aload_n 3, 1) := by decide +kernel
theorem d_J_object_10 : decode y_J_object.2.1 10 = .ok (.ifnonnull 8, 3) := by decide +kernel
theorem d_J_object_13 : decode y_J_object.2.1 13 = .ok (.bipush (-14), 2) := by decide +kernel
theorem d_J_object_15 : decode y_J_object.2.1 15 = .ok (.goto 8, 3) := by decide +kernel
theorem d_J_object_18 : decode y_J_object.2.1 18 = .ok (.aload_n 3, 1) := by decide +kernel
theorem d_J_object_19 : decode y_J_object.2.1 19 = .ok (.iload_n 2, 1) := by decide +kernel
theorem d_J_object_20 : decode y_J_object.2.1 20 = .ok (.invokevirtual 103, 3) := by decide +kernel
theorem d_J_object_23 : decode y_J_object.2.1 23 = .ok (.ireturn, 1) := by decide +kernel
theorem d_T_tell_0 : decode y_T_tell.2.1 0 = .ok (.iload_n 1, 1) := by decide +kernel
theorem d_T_tell_1 : decode y_T_tell.2.1 1 = .ok (.bipush 10, 2) := by decide +kernel
theorem d_T_tell_3 : decode y_T_tell.2.1 3 = .ok (.if_icmp .lt 18, 3) := by decide +kernel
theorem d_T_tell_6 : decode y_T_tell.2.1 6 = .ok (.iload_n 1, 1) := by decide +kernel
theorem d_T_tell_7 : decode y_T_tell.2.1 7 = .ok (.bipush 18, 2) := by decide +kernel
theorem d_T_tell_9 : decode y_T_tell.2.1 9 = .ok (.if_icmp .ge 12, 3) := by decide +kernel
theorem d_T_tell_12 : decode y_T_tell.2.1 12 = .ok (.aload_n 0, 1) := by decide +kernel
theorem d_T_tell_13 : decode y_T_tell.2.1 13 = .ok (.iload_n 1, 1) := by decide +kernel
theorem d_T_tell_14 : decode y_T_tell.2.1 14 = .ok (.bipush 10, 2) := by decide +kernel
theorem d_T_tell_16 : decode y_T_tell.2.1 16 = .ok (.isub, 1) := by decide +kernel
theorem d_T_tell_17 : decode y_T_tell.2.1 17 = .ok (.invokevirtual 28, 3) := by decide +kernel
theorem d_T_tell_20 : decode y_T_tell.2.1 20 = .ok (.ireturn, 1) := by decide +kernel
theorem d_T_tell_21 : decode y_T_tell.2.1 21 = .ok (.iload_n 1, 1) := by decide +kernel
theorem d_T_tell_22 : decode y_T_tell.2.1 22 = .ok (.tableswitch 47 0 2 #[26, 33, 40], 26) := by decide +kernel
theorem d_T_tell_48 : decode y_T_tell.2.1 48 = .ok (.aload_n 0, 1) := by decide +kernel
theorem d_T_tell_49 : decode y_T_tell.2.1 49 = .ok (.getfield 15, 3) := by decide +kernel
theorem d_T_tell_52 : decode y_T_tell.2.1 52 = .ok (.goto 19, 3) := by decide +kernel
theorem d_T_tell_55 : decode y_T_tell.2.1 55 = .ok (.aload_n 0, 1) := by decide +kernel
theorem d_T_tell_56 : decode y_T_tell.2.1 56 = .ok (.getfield 22, 3) := by decide +kernel
theorem d_T_tell_59 : decode y_T_tell.2.1 59 = .ok (.goto 12, 3) := by decide +kernel
theorem d_T_tell_62 : decode y_T_tell.2.1 62 = .ok (.aload_n 0, 1) := by decide +kernel
theorem d_T_tell_63 : decode y_T_tell.2.1 63 = .ok (.getfield 25, 3) := by decide +kernel
theorem d_T_tell_66 : decode y_T_tell.2.1 66 = .ok (.goto 5, 3) := by decide +kernel
theorem d_T_tell_69 : decode y_T_tell.2.1 69 = .ok (.bipush (-14), 2) := by decide +kernel
theorem d_T_tell_71 : decode y_T_tell.2.1 71 = .ok (.ireturn, 1) := by decide +kernel
theorem d_J_value_0 : decode y_J_value.2.1 0 = .ok (.aload_n 0, 1) := by decide +kernel
theorem d_J_value_1 : decode y_J_value.2.1 1 = .ok (.getfield 37, 3) := by decide +kernel
theorem d_J_value_4 : decode y_J_value.2.1 4 = .ok (.iload_n 1, 1) := by decide +kernel
theorem d_J_value_5 : decode y_J_value.2.1 5 = .ok (.invokevirtual 84, 3) := by decide +kernel
theorem d_J_value_8 : decode y_J_value.2.1 8 = .ok (.astore_n 3, 1) := by decide +kernel
theorem d_J_value_9 : decode y_J_value.2.1 9 = .ok (.aload_n 3, 1) := by decide +kernel
theorem d_J_value_10 : decode y_J_value.2.1 10 = .ok (.ifnonnull 7, 3) := by decide +kernel
theorem d_J_value_13 : decode y_J_value.2.1 13 = .ok (.aconst_null, 1) := by decide +kernel
theorem d_J_value_14 : decode y_J_value.2.1 14 = .ok (.goto 7, 3) := by decide +kernel
theorem d_J_value_17 : decode y_J_value.2.1 17 = .ok (.aload_n 3, 1) := by decide +kernel
theorem d_J_value_18 : decode y_J_value.2.1 18 = .ok (.invokevirtual 106, 3) := by decide +kernel
theorem d_J_value_21 : decode y_J_value.2.1 21 = .ok (.astore 4, 2) := by decide +kernel
theorem d_J_value_23 : decode y_J_value.2.1 23 = .ok (.aload 4, 2) := by decide +kernel
theorem d_J_value_25 : decode y_J_value.2.1 25 = .ok (.ifnonnull 5, 3) := by decide +kernel
theorem d_J_value_28 : decode y_J_value.2.1 28 = .ok (.iconst 0, 1) := by decide +kernel
theorem d_J_value_29 : decode y_J_value.2.1 29 = .ok (.ireturn, 1) := by decide +kernel
theorem d_J_value_30 : decode y_J_value.2.1 30 = .ok (.iload_n 2, 1) := by decide +kernel
theorem d_J_value_31 : decode y_J_value.2.1 31 = .ok (.ifCond .lt 12, 3) := by decide +kernel
theorem d_J_value_34 : decode y_J_value.2.1 34 = .ok (.aload 4, 2) := by decide +kernel
theorem d_J_value_36 : decode y_J_value.2.1 36 = .ok (.iload_n 2, 1) := by decide +kernel
theorem d_J_value_37 : decode y_J_value.2.1 37 = .ok (.invokevirtual 110, 3) := by decide +kernel
theorem d_J_value_40 : decode y_J_value.2.1 40 = .ok (.goto 11, 3) := by decide +kernel
theorem d_J_value_43 : decode y_J_value.2.1 43 = .ok (.aload 4, 2) := by decide +kernel
theorem d_J_value_45 : decode y_J_value.2.1 45 = .ok (.iconst (-1), 1) := by decide +kernel
theorem d_J_value_46 : decode y_J_value.2.1 46 = .ok (.iload_n 2, 1) := by decide +kernel
theorem d_J_value_47 : decode y_J_value.2.1 47 = .ok (.isub, 1) := by decide +kernel
theorem d_J_value_48 : decode y_J_value.2.1 48 = .ok (.invokevirtual 115, 3) := by decide +kernel
theorem d_J_value_51 : decode y_J_value.2.1 51 = .ok (.ireturn, 1) := by decide +kernel
theorem d_J_global_0 : decode y_J_global.2.1 0 = .ok (.iload_n 1, 1) := by decide +kernel
theorem d_J_global_1 : decode y_J_global.2.1 1 = .ok (.iconst 0, 1) := by decide +kernel
theorem d_J_global_2 : decode y_J_global.2.1 2 = .ok (.iconst 3, 1) := by decide +kernel
theorem d_J_global_3 : decode y_J_global.2.1 3 = .ok (.invokestatic 41, 3) := by decide +kernel
theorem d_J_global_6 : decode y_J_global.2.1 6 = .ok (.ifCond .eq 14, 3) := by decide +kernel
theorem d_J_global_9 : decode y_J_global.2.1 9 = .ok (.aload_n 0, 1) := by decide +kernel
theorem d_J_global_10 : decode y_J_global.2.1 10 = .ok (.getfield 28, 3) := by decide +kernel
theorem d_J_global_13 : decode y_J_global.2.1 13 = .ok (.iload_n 1, 1) := by decide +kernel
theorem d_J_global_14 : decode y_J_global.2.1 14 = .ok (.invokevirtual 118, 3) := by decide +kernel
theorem d_J_global_17 : decode y_J_global.2.1 17 = .ok (.goto 5, 3) := by decide +kernel
theorem d_J_global_20 : decode y_J_global.2.1 20 = .ok (.bipush (-14), 2) := by decide +kernel
theorem d_J_global_22 : decode y_J_global.2.1 22 = .ok (.ireturn, 1) := by decide +kernel
theorem d_J_stuck_0 : decode y_J_stuck.2.1 0 = .ok (.aload_n 0, 1) := by decide +kernel
theorem d_J_stuck_1 : decode y_J_stuck.2.1 1 = .ok (.getfield 37, 3) := by decide +kernel
theorem d_J_stuck_4 : decode y_J_stuck.2.1 4 = .ok (.invokevirtual 121, 3) := by decide +kernel
theorem d_J_stuck_7 : decode y_J_stuck.2.1 7 = .ok (.ireturn, 1) := by decide +kernel
theorem d_M_countStuck_0 : decode y_M_countStuck.2.1 0 = .ok (.iconst 0, 1) := by decide +kernel
theorem d_M_countStuck_1 : decode y_M_countStuck.2.1 1 = .ok (.istore_n 1, 1) := by decide +kernel
theorem d_M_countStuck_2 : decode y_M_countStuck.2.1 2 = .ok (.iconst 0, 1) := by decide +kernel
theorem d_M_countStuck_3 : decode y_M_countStuck.2.1 3 = .ok (.istore_n 2, 1) := by decide +kernel
theorem d_M_countStuck_4 : decode y_M_countStuck.2.1 4 = .ok (.iload_n 2, 1) := by decide +kernel
theorem d_M_countStuck_5 : decode y_M_countStuck.2.1 5 = .ok (.aload_n 0, 1) := by decide +kernel
theorem d_M_countStuck_6 : decode y_M_countStuck.2.1 6 = .ok (.getfield 29, 3) := by decide +kernel
theorem d_M_countStuck_9 : decode y_M_countStuck.2.1 9 = .ok (.if_icmp .ge 39, 3) := by decide +kernel
theorem d_M_countStuck_12 : decode y_M_countStuck.2.1 12 = .ok (.aload_n 0, 1) := by decide +kernel
theorem d_M_countStuck_13 : decode y_M_countStuck.2.1 13 = .ok (.iload_n 2, 1) := by decide +kernel
theorem d_M_countStuck_14 : decode y_M_countStuck.2.1 14 = .ok (.invokevirtual 122, 3) := by decide +kernel
theorem d_M_countStuck_17 : decode y_M_countStuck.2.1 17 = .ok (.astore_n 3, 1) := by decide +kernel
theorem d_M_countStuck_18 : decode y_M_countStuck.2.1 18 = .ok (.aload_n 3, 1) := by decide +kernel
theorem d_M_countStuck_19 : decode y_M_countStuck.2.1 19 = .ok (.ifnull 23, 3) := by decide +kernel
theorem d_M_countStuck_22 : decode y_M_countStuck.2.1 22 = .ok (.aload_n 3, 1) := by decide +kernel
theorem d_M_countStuck_23 : decode y_M_countStuck.2.1 23 = .ok (.invokevirtual 60, 3) := by decide +kernel
theorem d_M_countStuck_26 : decode y_M_countStuck.2.1 26 = .ok (.ifCond .ne 16, 3) := by decide +kernel
theorem d_M_countStuck_29 : decode y_M_countStuck.2.1 29 = .ok (.aload_n 0, 1) := by decide +kernel
theorem d_M_countStuck_30 : decode y_M_countStuck.2.1 30 = .ok (.aload_n 3, 1) := by decide +kernel
theorem d_M_countStuck_31 : decode y_M_countStuck.2.1 31 = .ok (.invokevirtual 64, 3) := by decide +kernel
theorem d_M_countStuck_34 : decode y_M_countStuck.2.1 34 = .ok (.ifCond .ne 5, 3) := by decide +kernel
theorem d_M_countStuck_37 : decode y_M_countStuck.2.1 37 = .ok (.iconst 0, 1) := by decide +kernel
theorem d_M_countStuck_38 : decode y_M_countStuck.2.1 38 = .ok (.ireturn, 1) := by decide +kernel
theorem d_M_countStuck_39 : decode y_M_countStuck.2.1 39 = .ok (.iinc 1 1, 3) := by decide +kernel
theorem d_M_countStuck_42 : decode y_M_countStuck.2.1 42 = .ok (.iinc 2 1, 3) := by decide +kernel
theorem d_M_countStuck_45 : decode y_M_countStuck.2.1 45 = .ok (.goto (-41), 3) := by decide +kernel
theorem d_M_countStuck_48 : decode y_M_countStuck.2.1 48 = .ok (.iload_n 1, 1) := by decide +kernel
theorem d_M_countStuck_49 : decode y_M_countStuck.2.1 49 = .ok (.ireturn, 1) := by decide +kernel
theorem d_J_reset_0 : decode y_J_reset.2.1 0 = .ok (.aload_n 0, 1) := by decide +kernel
theorem d_J_reset_1 : decode y_J_reset.2.1 1 = .ok (.getfield 10, 3) := by decide +kernel
theorem d_J_reset_4 : decode y_J_reset.2.1 4 = .ok (.invokevirtual 125, 3) := by decide +kernel
theorem d_J_reset_7 : decode y_J_reset.2.1 7 = .ok (.aload_n 0, 1) := by decide +kernel
theorem d_J_reset_8 : decode y_J_reset.2.1 8 = .ok (.getfield 37, 3) := by decide +kernel
theorem d_J_reset_11 : decode y_J_reset.2.1 11 = .ok (.invokevirtual 128, 3) := by decide +kernel
theorem d_J_reset_14 : decode y_J_reset.2.1 14 = .ok (.aload_n 0, 1) := by decide +kernel
theorem d_J_reset_15 : decode y_J_reset.2.1 15 = .ok (.getfield 28, 3) := by decide +kernel
theorem d_J_reset_18 : decode y_J_reset.2.1 18 = .ok (.invokevirtual 131, 3) := by decide +kernel
theorem d_J_reset_21 : decode y_J_reset.2.1 21 = .ok (.return_, 1) := by decide +kernel
theorem d_M_clear_0 : decode y_M_clear.2.1 0 = .ok (.aload_n 0, 1) := by decide +kernel
theorem d_M_clear_1 : decode y_M_clear.2.1 1 = .ok (.iconst 0, 1) := by decide +kernel
theorem d_M_clear_2 : decode y_M_clear.2.1 2 = .ok (.putfield 29, 3) := by decide +kernel
theorem d_M_clear_5 : decode y_M_clear.2.1 5 = .ok (.return_, 1) := by decide +kernel
theorem d_H_clear_0 : decode y_H_clear.2.1 0 = .ok (.aload_n 0, 1) := by decide +kernel
theorem d_H_clear_1 : decode y_H_clear.2.1 1 = .ok (.iconst 0, 1) := by decide +kernel
theorem d_H_clear_2 : decode y_H_clear.2.1 2 = .ok (.putfield 21, 3) := by decide +kernel
theorem d_H_clear_5 : decode y_H_clear.2.1 5 = .ok (.iconst 0, 1) := by decide +kernel
theorem d_H_clear_6 : decode y_H_clear.2.1 6 = .ok (.istore_n 1, 1) := by decide +kernel
theorem d_H_clear_7 : decode y_H_clear.2.1 7 = .ok (.iload_n 1, 1) := by decide +kernel
theorem d_H_clear_8 : decode y_H_clear.2.1 8 = .ok (.iconst 4, 1) := by decide +kernel
theorem d_H_clear_9 : decode y_H_clear.2.1 9 = .ok (.if_icmp .ge 16, 3) := by decide +kernel
theorem d_H_clear_12 : decode y_H_clear.2.1 12 = .ok (.aload_n 0, 1) := by decide +kernel
theorem d_H_clear_13 : decode y_H_clear.2.1 13 = .ok (.getfield 17, 3) := by decide +kernel
theorem d_H_clear_16 : decode y_H_clear.2.1 16 = .ok (.iload_n 1, 1) := by decide +kernel
theorem d_H_clear_17 : decode y_H_clear.2.1 17 = .ok (.iconst 0, 1) := by decide +kernel
theorem d_H_clear_18 : decode y_H_clear.2.1 18 = .ok (.iastore, 1) := by decide +kernel
theorem d_H_clear_19 : decode y_H_clear.2.1 19 = .ok (.iinc 1 1, 3) := by decide +kernel
theorem d_H_clear_22 : decode y_H_clear.2.1 22 = .ok (.goto (-15), 3) := by decide +kernel
theorem d_H_clear_25 : decode y_H_clear.2.1 25 = .ok (.return_, 1) := by decide +kernel
