theorem d_G_follow_214 : decode y_G_follow.2.1 214 = .ok (.invokevirtual 148, 3) := by decide +kernel
theorem d_G_follow_217 : decode y_G_follow.2.1 217 = .ok (.aload_n 0, 1) := by decide +kernel
theorem d_G_follow_218 : decode y_G_follow.2.1 218 = .ok (.iload_n 3, 1) := by decide +kernel
theorem d_G_follow_219 : decode y_G_follow.2.1 219 = .ok (.invokevirtual 154, 3) := by decide +kernel
theorem d_G_follow_222 : decode y_G_follow.2.1 222 = .ok (.goto 60, 3) := by decide +kernel
theorem d_G_follow_225 : decode y_G_follow.2.1 225 = .ok (.aload_n 0, 1) := by decide +kernel
theorem d_G_follow_226 : decode y_G_follow.2.1 226 = .ok (.iconst 2, 1) := by decide +kernel
theorem d_G_follow_227 : decode y_G_follow.2.1 227 = .ok (.invokevirtual 148, 3) := by decide +kernel
theorem d_G_follow_230 : decode y_G_follow.2.1 230 = .ok (.aload_n 0, 1) := by decide +kernel
theorem d_G_follow_231 : decode y_G_follow.2.1 231 = .ok (.iload_n 3, 1) := by decide +kernel
theorem d_G_follow_232 : decode y_G_follow.2.1 232 = .ok (.invokevirtual 154, 3) := by decide +kernel
theorem d_G_follow_235 : decode y_G_follow.2.1 235 = .ok (.goto 47, 3) := by decide +kernel
theorem d_G_follow_238 : decode y_G_follow.2.1 238 = .ok (.aload_n 0, 1) := by decide +kernel
theorem d_G_follow_239 : decode y_G_follow.2.1 239 = .ok (.iconst 2, 1) := by decide +kernel
theorem d_G_follow_240 : decode y_G_follow.2.1 240 = .ok (.invokevirtual 148, 3) := by decide +kernel
theorem d_G_follow_243 : decode y_G_follow.2.1 243 = .ok (.goto 39, 3) := by decide +kernel
theorem d_G_follow_246 : decode y_G_follow.2.1 246 = .ok (.aload_n 0, 1) := by decide +kernel
theorem d_G_follow_247 : decode y_G_follow.2.1 247 = .ok (.iload_n 2, 1) := by decide +kernel
theorem d_G_follow_248 : decode y_G_follow.2.1 248 = .ok (.invokevirtual 157, 3) := by decide +kernel
theorem d_G_follow_251 : decode y_G_follow.2.1 251 = .ok (.goto 31, 3) := by decide +kernel
theorem d_G_follow_254 : decode y_G_follow.2.1 254 = .ok (.aload_n 0, 1) := by decide +kernel
theorem d_G_follow_255 : decode y_G_follow.2.1 255 = .ok (.aload_n 0, 1) := by decide +kernel
theorem d_G_follow_256 : decode y_G_follow.2.1 256 = .ok (.getfield 25, 3) := by decide +kernel
theorem d_G_follow_259 : decode y_G_follow.2.1 259 = .ok (.iload_n 3, 1) := by decide +kernel
theorem d_G_follow_260 : decode y_G_follow.2.1 260 = .ok (.invokevirtual 85, 3) := by decide +kernel
theorem d_G_follow_263 : decode y_G_follow.2.1 263 = .ok (.invokevirtual 160, 3) := by decide +kernel
theorem d_G_follow_266 : decode y_G_follow.2.1 266 = .ok (.goto 16, 3) := by decide +kernel
theorem d_G_follow_269 : decode y_G_follow.2.1 269 = .ok (.aload_n 0, 1) := by decide +kernel
theorem d_G_follow_270 : decode y_G_follow.2.1 270 = .ok (.aload_n 1, 1) := by decide +kernel
theorem d_G_follow_271 : decode y_G_follow.2.1 271 = .ok (.invokevirtual 163, 3) := by decide +kernel
theorem d_G_follow_274 : decode y_G_follow.2.1 274 = .ok (.goto 8, 3) := by decide +kernel
theorem d_G_follow_277 : decode y_G_follow.2.1 277 = .ok (.aload_n 0, 1) := by decide +kernel
theorem d_G_follow_278 : decode y_G_follow.2.1 278 = .ok (.iconst 0, 1) := by decide +kernel
theorem d_G_follow_279 : decode y_G_follow.2.1 279 = .ok (.invokevirtual 137, 3) := by decide +kernel
theorem d_G_follow_282 : decode y_G_follow.2.1 282 = .ok (.return_, 1) := by decide +kernel
theorem d_G_topKind_0 : decode y_G_topKind.2.1 0 = .ok (.aload_n 0, 1) := by decide +kernel
theorem d_G_topKind_1 : decode y_G_topKind.2.1 1 = .ok (.getfield 65, 3) := by decide +kernel
theorem d_G_topKind_4 : decode y_G_topKind.2.1 4 = .ok (.iconst 1, 1) := by decide +kernel
theorem d_G_topKind_5 : decode y_G_topKind.2.1 5 = .ok (.if_icmp .lt 26, 3) := by decide +kernel
theorem d_G_topKind_8 : decode y_G_topKind.2.1 8 = .ok (.aload_n 0, 1) := by decide +kernel
theorem d_G_topKind_9 : decode y_G_topKind.2.1 9 = .ok (.getfield 65, 3) := by decide +kernel
theorem d_G_topKind_12 : decode y_G_topKind.2.1 12 = .ok (.bipush 12, 2) := by decide +kernel
theorem d_G_topKind_14 : decode y_G_topKind.2.1 14 = .ok (.if_icmp .gt 17, 3) := by decide +kernel
theorem d_G_topKind_17 : decode y_G_topKind.2.1 17 = .ok (.aload_n 0, 1) := by decide +kernel
theorem d_G_topKind_18 : decode y_G_topKind.2.1 18 = .ok (.getfield 15, 3) := by decide +kernel
theorem d_G_topKind_21 : decode y_G_topKind.2.1 21 = .ok (.aload_n 0, 1) := by decide +kernel
theorem d_G_topKind_22 : decode y_G_topKind.2.1 22 = .ok (.getfield 65, 3) := by decide +kernel
theorem d_G_topKind_25 : decode y_G_topKind.2.1 25 = .ok (.iconst 1, 1) := by decide +kernel
theorem d_G_topKind_26 : decode y_G_topKind.2.1 26 = .ok (.isub, 1) := by decide +kernel
theorem d_G_topKind_27 : decode y_G_topKind.2.1 27 = .ok (.iaload, 1) := by decide +kernel
theorem d_G_topKind_28 : decode y_G_topKind.2.1 28 = .ok (.goto 4, 3) := by decide +kernel
theorem d_G_topKind_31 : decode y_G_topKind.2.1 31 = .ok (.iconst 0, 1) := by decide +kernel
theorem d_G_topKind_32 : decode y_G_topKind.2.1 32 = .ok (.ireturn, 1) := by decide +kernel
theorem d_G_take_0 : decode y_G_take.2.1 0 = .ok (.iload_n 1, 1) := by decide +kernel
theorem d_G_take_1 : decode y_G_take.2.1 1 = .ok (.ifCond .eq 11, 3) := by decide +kernel
theorem d_G_take_4 : decode y_G_take.2.1 4 = .ok (.aload_n 0, 1) := by decide +kernel
theorem d_G_take_5 : decode y_G_take.2.1 5 = .ok (.invokevirtual 145, 3) := by decide +kernel
theorem d_G_take_8 : decode y_G_take.2.1 8 = .ok (.iload_n 1, 1) := by decide +kernel
theorem d_G_take_9 : decode y_G_take.2.1 9 = .ok (.if_icmp .eq 9, 3) := by decide +kernel
theorem d_G_take_12 : decode y_G_take.2.1 12 = .ok (.aload_n 0, 1) := by decide +kernel
theorem d_G_take_13 : decode y_G_take.2.1 13 = .ok (.iconst 0, 1) := by decide +kernel
theorem d_G_take_14 : decode y_G_take.2.1 14 = .ok (.invokevirtual 137, 3) := by decide +kernel
theorem d_G_take_17 : decode y_G_take.2.1 17 = .ok (.return_, 1) := by decide +kernel
theorem d_G_take_18 : decode y_G_take.2.1 18 = .ok (.aload_n 0, 1) := by decide +kernel
theorem d_G_take_19 : decode y_G_take.2.1 19 = .ok (.dup, 1) := by decide +kernel
theorem d_G_take_20 : decode y_G_take.2.1 20 = .ok (.getfield 65, 3) := by decide +kernel
theorem d_G_take_23 : decode y_G_take.2.1 23 = .ok (.iconst 1, 1) := by decide +kernel
theorem d_G_take_24 : decode y_G_take.2.1 24 = .ok (.isub, 1) := by decide +kernel
theorem d_G_take_25 : decode y_G_take.2.1 25 = .ok (.putfield 65, 3) := by decide +kernel
theorem d_G_take_28 : decode y_G_take.2.1 28 = .ok (.return_, 1) := by decide +kernel
theorem d_C_localKind_0 : decode y_C_localKind.2.1 0 = .ok (.iload_n 1, 1) := by decide +kernel
theorem d_C_localKind_1 : decode y_C_localKind.2.1 1 = .ok (.ifCond .lt 20, 3) := by decide +kernel
theorem d_C_localKind_4 : decode y_C_localKind.2.1 4 = .ok (.iload_n 1, 1) := by decide +kernel
theorem d_C_localKind_5 : decode y_C_localKind.2.1 5 = .ok (.aload_n 0, 1) := by decide +kernel
theorem d_C_localKind_6 : decode y_C_localKind.2.1 6 = .ok (.getfield 37, 3) := by decide +kernel
theorem d_C_localKind_9 : decode y_C_localKind.2.1 9 = .ok (.if_icmp .ge 12, 3) := by decide +kernel
theorem d_C_localKind_12 : decode y_C_localKind.2.1 12 = .ok (.aload_n 0, 1) := by decide +kernel
theorem d_C_localKind_13 : decode y_C_localKind.2.1 13 = .ok (.getfield 9, 3) := by decide +kernel
theorem d_C_localKind_16 : decode y_C_localKind.2.1 16 = .ok (.iload_n 1, 1) := by decide +kernel
theorem d_C_localKind_17 : decode y_C_localKind.2.1 17 = .ok (.iaload, 1) := by decide +kernel
theorem d_C_localKind_18 : decode y_C_localKind.2.1 18 = .ok (.goto 4, 3) := by decide +kernel
theorem d_C_localKind_21 : decode y_C_localKind.2.1 21 = .ok (.iconst 0, 1) := by decide +kernel
theorem d_C_localKind_22 : decode y_C_localKind.2.1 22 = .ok (.ireturn, 1) := by decide +kernel
theorem d_G_leaveFor_0 : decode y_G_leaveFor.2.1 0 = .ok (.aload_n 0, 1) := by decide +kernel
theorem d_G_leaveFor_1 : decode y_G_leaveFor.2.1 1 = .ok (.aload_n 0, 1) := by decide +kernel
theorem d_G_leaveFor_2 : decode y_G_leaveFor.2.1 2 = .ok (.getfield 65, 3) := by decide +kernel
theorem d_G_leaveFor_5 : decode y_G_leaveFor.2.1 5 = .ok (.ifCond .ne 16, 3) := by decide +kernel
theorem d_G_leaveFor_8 : decode y_G_leaveFor.2.1 8 = .ok (.aload_n 0, 1) := by decide +kernel
theorem d_G_leaveFor_9 : decode y_G_leaveFor.2.1 9 = .ok (.iload_n 1, 1) := by decide +kernel
theorem d_G_leaveFor_10 : decode y_G_leaveFor.2.1 10 = .ok (.invokevirtual 134, 3) := by decide +kernel
theorem d_G_leaveFor_13 : decode y_G_leaveFor.2.1 13 = .ok (.iconst 2, 1) := by decide +kernel
theorem d_G_leaveFor_14 : decode y_G_leaveFor.2.1 14 = .ok (.if_icmp .eq 7, 3) := by decide +kernel
theorem d_G_leaveFor_17 : decode y_G_leaveFor.2.1 17 = .ok (.iconst 1, 1) := by decide +kernel
theorem d_G_leaveFor_18 : decode y_G_leaveFor.2.1 18 = .ok (.goto 4, 3) := by decide +kernel
theorem d_G_leaveFor_21 : decode y_G_leaveFor.2.1 21 = .ok (.iconst 0, 1) := by decide +kernel
theorem d_G_leaveFor_22 : decode y_G_leaveFor.2.1 22 = .ok (.invokevirtual 137, 3) := by decide +kernel
theorem d_G_leaveFor_25 : decode y_G_leaveFor.2.1 25 = .ok (.return_, 1) := by decide +kernel
theorem d_G_followUse_0 : decode y_G_followUse.2.1 0 = .ok (.iload_n 1, 1) := by decide +kernel
theorem d_G_followUse_1 : decode y_G_followUse.2.1 1 = .ok (.bipush 17, 2) := by decide +kernel
theorem d_G_followUse_3 : decode y_G_followUse.2.1 3 = .ok (.if_icmp .ne 11, 3) := by decide +kernel
theorem d_G_followUse_6 : decode y_G_followUse.2.1 6 = .ok (.aload_n 0, 1) := by decide +kernel
theorem d_G_followUse_7 : decode y_G_followUse.2.1 7 = .ok (.iconst 1, 1) := by decide +kernel
theorem d_G_followUse_8 : decode y_G_followUse.2.1 8 = .ok (.invokevirtual 148, 3) := by decide +kernel
theorem d_G_followUse_11 : decode y_G_followUse.2.1 11 = .ok (.goto 14, 3) := by decide +kernel
theorem d_G_followUse_14 : decode y_G_followUse.2.1 14 = .ok (.iload_n 1, 1) := by decide +kernel
theorem d_G_followUse_15 : decode y_G_followUse.2.1 15 = .ok (.bipush 24, 2) := by decide +kernel
theorem d_G_followUse_17 : decode y_G_followUse.2.1 17 = .ok (.if_icmp .ne 8, 3) := by decide +kernel
theorem d_G_followUse_20 : decode y_G_followUse.2.1 20 = .ok (.aload_n 0, 1) := by decide +kernel
theorem d_G_followUse_21 : decode y_G_followUse.2.1 21 = .ok (.iconst 2, 1) := by decide +kernel
theorem d_G_followUse_22 : decode y_G_followUse.2.1 22 = .ok (.invokevirtual 148, 3) := by decide +kernel
theorem d_G_followUse_25 : decode y_G_followUse.2.1 25 = .ok (.aload_n 0, 1) := by decide +kernel
theorem d_G_followUse_26 : decode y_G_followUse.2.1 26 = .ok (.iconst 2, 1) := by decide +kernel
theorem d_G_followUse_27 : decode y_G_followUse.2.1 27 = .ok (.invokevirtual 148, 3) := by decide +kernel
theorem d_G_followUse_30 : decode y_G_followUse.2.1 30 = .ok (.iload_n 1, 1) := by decide +kernel
theorem d_G_followUse_31 : decode y_G_followUse.2.1 31 = .ok (.bipush 15, 2) := by decide +kernel
theorem d_G_followUse_33 : decode y_G_followUse.2.1 33 = .ok (.if_icmp .eq 9, 3) := by decide +kernel
theorem d_G_followUse_36 : decode y_G_followUse.2.1 36 = .ok (.iload_n 1, 1) := by decide +kernel
theorem d_G_followUse_37 : decode y_G_followUse.2.1 37 = .ok (.bipush 16, 2) := by decide +kernel
theorem d_G_followUse_39 : decode y_G_followUse.2.1 39 = .ok (.if_icmp .ne 11, 3) := by decide +kernel
theorem d_G_followUse_42 : decode y_G_followUse.2.1 42 = .ok (.aload_n 0, 1) := by decide +kernel
theorem d_G_followUse_43 : decode y_G_followUse.2.1 43 = .ok (.iconst 1, 1) := by decide +kernel
theorem d_G_followUse_44 : decode y_G_followUse.2.1 44 = .ok (.invokevirtual 141, 3) := by decide +kernel
theorem d_G_followUse_47 : decode y_G_followUse.2.1 47 = .ok (.goto 14, 3) := by decide +kernel
theorem d_G_followUse_50 : decode y_G_followUse.2.1 50 = .ok (.iload_n 1, 1) := by decide +kernel
theorem d_G_followUse_51 : decode y_G_followUse.2.1 51 = .ok (.bipush 23, 2) := by decide +kernel
theorem d_G_followUse_53 : decode y_G_followUse.2.1 53 = .ok (.if_icmp .ne 8, 3) := by decide +kernel
theorem d_G_followUse_56 : decode y_G_followUse.2.1 56 = .ok (.aload_n 0, 1) := by decide +kernel
theorem d_G_followUse_57 : decode y_G_followUse.2.1 57 = .ok (.iconst 2, 1) := by decide +kernel
theorem d_G_followUse_58 : decode y_G_followUse.2.1 58 = .ok (.invokevirtual 141, 3) := by decide +kernel
theorem d_G_followUse_61 : decode y_G_followUse.2.1 61 = .ok (.return_, 1) := by decide +kernel
theorem d_G_followCall_0 : decode y_G_followCall.2.1 0 = .ok (.aload_n 1, 1) := by decide +kernel
theorem d_G_followCall_1 : decode y_G_followCall.2.1 1 = .ok (.ifnonnull 9, 3) := by decide +kernel
theorem d_G_followCall_4 : decode y_G_followCall.2.1 4 = .ok (.aload_n 0, 1) := by decide +kernel
theorem d_G_followCall_5 : decode y_G_followCall.2.1 5 = .ok (.iconst 0, 1) := by decide +kernel
theorem d_G_followCall_6 : decode y_G_followCall.2.1 6 = .ok (.invokevirtual 137, 3) := by decide +kernel
theorem d_G_followCall_9 : decode y_G_followCall.2.1 9 = .ok (.return_, 1) := by decide +kernel
theorem d_G_followCall_10 : decode y_G_followCall.2.1 10 = .ok (.aload_n 1, 1) := by decide +kernel
theorem d_G_followCall_11 : decode y_G_followCall.2.1 11 = .ok (.getfield 46, 3) := by decide +kernel
theorem d_G_followCall_14 : decode y_G_followCall.2.1 14 = .ok (.iconst 1, 1) := by decide +kernel
theorem d_G_followCall_15 : decode y_G_followCall.2.1 15 = .ok (.isub, 1) := by decide +kernel
theorem d_G_followCall_16 : decode y_G_followCall.2.1 16 = .ok (.istore_n 2, 1) := by decide +kernel
theorem d_G_followCall_17 : decode y_G_followCall.2.1 17 = .ok (.iload_n 2, 1) := by decide +kernel
theorem d_G_followCall_18 : decode y_G_followCall.2.1 18 = .ok (.ifCond .lt 18, 3) := by decide +kernel
theorem d_G_followCall_21 : decode y_G_followCall.2.1 21 = .ok (.aload_n 0, 1) := by decide +kernel
theorem d_G_followCall_22 : decode y_G_followCall.2.1 22 = .ok (.aload_n 1, 1) := by decide +kernel
theorem d_G_followCall_23 : decode y_G_followCall.2.1 23 = .ok (.iload_n 2, 1) := by decide +kernel
theorem d_G_followCall_24 : decode y_G_followCall.2.1 24 = .ok (.invokevirtual 151, 3) := by decide +kernel
theorem d_G_followCall_27 : decode y_G_followCall.2.1 27 = .ok (.invokevirtual 148, 3) := by decide +kernel
theorem d_G_followCall_30 : decode y_G_followCall.2.1 30 = .ok (.iinc 2 (-1), 3) := by decide +kernel
theorem d_G_followCall_33 : decode y_G_followCall.2.1 33 = .ok (.goto (-16), 3) := by decide +kernel
theorem d_G_followCall_36 : decode y_G_followCall.2.1 36 = .ok (.aload_n 1, 1) := by decide +kernel
theorem d_G_followCall_37 : decode y_G_followCall.2.1 37 = .ok (.getfield 166, 3) := by decide +kernel
theorem d_G_followCall_40 : decode y_G_followCall.2.1 40 = .ok (.ifCond .eq 11, 3) := by decide +kernel
theorem d_G_followCall_43 : decode y_G_followCall.2.1 43 = .ok (.aload_n 0, 1) := by decide +kernel
theorem d_G_followCall_44 : decode y_G_followCall.2.1 44 = .ok (.aload_n 1, 1) := by decide +kernel
theorem d_G_followCall_45 : decode y_G_followCall.2.1 45 = .ok (.getfield 166, 3) := by decide +kernel
theorem d_G_followCall_48 : decode y_G_followCall.2.1 48 = .ok (.invokevirtual 141, 3) := by decide +kernel
theorem d_G_followCall_51 : decode y_G_followCall.2.1 51 = .ok (.return_, 1) := by decide +kernel
theorem d_G_followReturn_0 : decode y_G_followReturn.2.1 0 = .ok (.aload_n 1, 1) := by decide +kernel
theorem d_G_followReturn_1 : decode y_G_followReturn.2.1 1 = .ok (.getfield 166, 3) := by decide +kernel
theorem d_G_followReturn_4 : decode y_G_followReturn.2.1 4 = .ok (.ifCond .eq 11, 3) := by decide +kernel
theorem d_G_followReturn_7 : decode y_G_followReturn.2.1 7 = .ok (.aload_n 0, 1) := by decide +kernel
theorem d_G_followReturn_8 : decode y_G_followReturn.2.1 8 = .ok (.aload_n 1, 1) := by decide +kernel
theorem d_G_followReturn_9 : decode y_G_followReturn.2.1 9 = .ok (.getfield 166, 3) := by decide +kernel
theorem d_G_followReturn_12 : decode y_G_followReturn.2.1 12 = .ok (.invokevirtual 148, 3) := by decide +kernel
theorem d_G_followReturn_15 : decode y_G_followReturn.2.1 15 = .ok (.aload_n 0, 1) := by decide +kernel
theorem d_G_followReturn_16 : decode y_G_followReturn.2.1 16 = .ok (.aload_n 0, 1) := by decide +kernel
theorem d_G_followReturn_17 : decode y_G_followReturn.2.1 17 = .ok (.getfield 65, 3) := by decide +kernel
theorem d_G_followReturn_20 : decode y_G_followReturn.2.1 20 = .ok (.ifCond .ne 7, 3) := by decide +kernel
theorem d_G_followReturn_23 : decode y_G_followReturn.2.1 23 = .ok (.iconst 1, 1) := by decide +kernel
theorem d_G_followReturn_24 : decode y_G_followReturn.2.1 24 = .ok (.goto 4, 3) := by decide +kernel
theorem d_G_followReturn_27 : decode y_G_followReturn.2.1 27 = .ok (.iconst 0, 1) := by decide +kernel
theorem d_G_followReturn_28 : decode y_G_followReturn.2.1 28 = .ok (.invokevirtual 137, 3) := by decide +kernel
theorem d_G_followReturn_31 : decode y_G_followReturn.2.1 31 = .ok (.return_, 1) := by decide +kernel
theorem d_J_thread_0 : decode y_J_thread.2.1 0 = .ok (.aload_n 0, 1) := by decide +kernel
theorem d_J_thread_1 : decode y_J_thread.2.1 1 = .ok (.getfield 37, 3) := by decide +kernel
theorem d_J_thread_4 : decode y_J_thread.2.1 4 = .ok (.iload_n 1, 1) := by decide +kernel
theorem d_J_thread_5 : decode y_J_thread.2.1 5 = .ok (.invokevirtual 82, 3) := by decide +kernel
theorem d_J_thread_8 : decode y_J_thread.2.1 8 = .ok (.ireturn, 1) := by decide +kernel
theorem d_M_begin_0 : decode y_M_begin.2.1 0 = .ok (.aload_n 0, 1) := by decide +kernel
theorem d_M_begin_1 : decode y_M_begin.2.1 1 = .ok (.getfield 17, 3) := by decide +kernel
theorem d_M_begin_4 : decode y_M_begin.2.1 4 = .ok (.iload_n 1, 1) := by decide +kernel
theorem d_M_begin_5 : decode y_M_begin.2.1 5 = .ok (.invokevirtual 33, 3) := by decide +kernel
theorem d_M_begin_8 : decode y_M_begin.2.1 8 = .ok (.astore_n 2, 1) := by decide +kernel
theorem d_M_begin_9 : decode y_M_begin.2.1 9 = .ok (.aload_n 2, 1) := by decide +kernel
theorem d_M_begin_10 : decode y_M_begin.2.1 10 = .ok (.ifnonnull 6, 3) := by decide +kernel
theorem d_M_begin_13 : decode y_M_begin.2.1 13 = .ok (.bipush (-14), 2) := by decide +kernel
theorem d_M_begin_15 : decode y_M_begin.2.1 15 = .ok (.ireturn, 1) := by decide +kernel
theorem d_M_begin_16 : decode y_M_begin.2.1 16 = .ok (.aload_n 2, 1) := by decide +kernel
theorem d_M_begin_17 : decode y_M_begin.2.1 17 = .ok (.getfield 39, 3) := by decide +kernel
theorem d_M_begin_20 : decode y_M_begin.2.1 20 = .ok (.ifCond .gt 14, 3) := by decide +kernel
theorem d_M_begin_23 : decode y_M_begin.2.1 23 = .ok (.aload_n 0, 1) := by decide +kernel
theorem d_M_begin_24 : decode y_M_begin.2.1 24 = .ok (.getfield 21, 3) := by decide +kernel
theorem d_M_begin_27 : decode y_M_begin.2.1 27 = .ok (.aload_n 2, 1) := by decide +kernel
theorem d_M_begin_28 : decode y_M_begin.2.1 28 = .ok (.invokevirtual 44, 3) := by decide +kernel
theorem d_M_begin_31 : decode y_M_begin.2.1 31 = .ok (.ifCond .ne 5, 3) := by decide +kernel
theorem d_M_begin_34 : decode y_M_begin.2.1 34 = .ok (.iconst (-1), 1) := by decide +kernel
theorem d_M_begin_35 : decode y_M_begin.2.1 35 = .ok (.ireturn, 1) := by decide +kernel
theorem d_M_begin_36 : decode y_M_begin.2.1 36 = .ok (.aload_n 0, 1) := by decide +kernel
theorem d_M_begin_37 : decode y_M_begin.2.1 37 = .ok (.getfield 29, 3) := by decide +kernel
theorem d_M_begin_40 : decode y_M_begin.2.1 40 = .ok (.bipush 8, 2) := by decide +kernel
theorem d_M_begin_42 : decode y_M_begin.2.1 42 = .ok (.if_icmp .lt 6, 3) := by decide +kernel
theorem d_M_begin_45 : decode y_M_begin.2.1 45 = .ok (.bipush (-12), 2) := by decide +kernel
theorem d_M_begin_47 : decode y_M_begin.2.1 47 = .ok (.ireturn, 1) := by decide +kernel
theorem d_M_begin_48 : decode y_M_begin.2.1 48 = .ok (.aload_n 0, 1) := by decide +kernel
theorem d_M_begin_49 : decode y_M_begin.2.1 49 = .ok (.getfield 11, 3) := by decide +kernel
theorem d_M_begin_52 : decode y_M_begin.2.1 52 = .ok (.aload_n 0, 1) := by decide +kernel
theorem d_M_begin_53 : decode y_M_begin.2.1 53 = .ok (.getfield 29, 3) := by decide +kernel
theorem d_M_begin_56 : decode y_M_begin.2.1 56 = .ok (.aaload, 1) := by decide +kernel
theorem d_M_begin_57 : decode y_M_begin.2.1 57 = .ok (.ifnonnull 23, 3) := by decide +kernel
theorem d_M_begin_60 : decode y_M_begin.2.1 60 = .ok (.aload_n 0, 1) := by decide +kernel
theorem d_M_begin_61 : decode y_M_begin.2.1 61 = .ok (.getfield 11, 3) := by decide +kernel
theorem d_M_begin_64 : decode y_M_begin.2.1 64 = .ok (.aload_n 0, 1) := by decide +kernel
theorem d_M_begin_65 : decode y_M_begin.2.1 65 = .ok (.getfield 29, 3) := by decide +kernel
theorem d_M_begin_68 : decode y_M_begin.2.1 68 = .ok (.new 9, 3) := by decide +kernel
theorem d_M_begin_71 : decode y_M_begin.2.1 71 = .ok (.dup, 1) := by decide +kernel
theorem d_M_begin_72 : decode y_M_begin.2.1 72 = .ok (.aload_n 0, 1) := by decide +kernel
theorem d_M_begin_73 : decode y_M_begin.2.1 73 = .ok (.getfield 29, 3) := by decide +kernel
theorem d_M_begin_76 : decode y_M_begin.2.1 76 = .ok (.invokespecial 50, 3) := by decide +kernel
theorem d_M_begin_79 : decode y_M_begin.2.1 79 = .ok (.aastore, 1) := by decide +kernel
theorem d_M_begin_80 : decode y_M_begin.2.1 80 = .ok (.aload_n 0, 1) := by decide +kernel
theorem d_M_begin_81 : decode y_M_begin.2.1 81 = .ok (.getfield 11, 3) := by decide +kernel
theorem d_M_begin_84 : decode y_M_begin.2.1 84 = .ok (.aload_n 0, 1) := by decide +kernel
theorem d_M_begin_85 : decode y_M_begin.2.1 85 = .ok (.getfield 29, 3) := by decide +kernel
theorem d_M_begin_88 : decode y_M_begin.2.1 88 = .ok (.aaload, 1) := by decide +kernel
theorem d_M_begin_89 : decode y_M_begin.2.1 89 = .ok (.aload_n 2, 1) := by decide +kernel
theorem d_M_begin_90 : decode y_M_begin.2.1 90 = .ok (.invokevirtual 53, 3) := by decide +kernel
theorem d_M_begin_93 : decode y_M_begin.2.1 93 = .ok (.aload_n 0, 1) := by decide +kernel
theorem d_M_begin_94 : decode y_M_begin.2.1 94 = .ok (.getfield 17, 3) := by decide +kernel
theorem d_M_begin_97 : decode y_M_begin.2.1 97 = .ok (.invokevirtual 57, 3) := by decide +kernel
theorem d_M_begin_100 : decode y_M_begin.2.1 100 = .ok (.aload_n 0, 1) := by decide +kernel
theorem d_M_begin_101 : decode y_M_begin.2.1 101 = .ok (.dup, 1) := by decide +kernel
theorem d_M_begin_102 : decode y_M_begin.2.1 102 = .ok (.getfield 29, 3) := by decide +kernel
theorem d_M_begin_105 : decode y_M_begin.2.1 105 = .ok (.iconst 1, 1) := by decide +kernel
theorem d_M_begin_106 : decode y_M_begin.2.1 106 = .ok (.iadd, 1) := by decide +kernel
theorem d_M_begin_107 : decode y_M_begin.2.1 107 = .ok (.putfield 29, 3) := by decide +kernel
theorem d_M_begin_110 : decode y_M_begin.2.1 110 = .ok (.aload_n 0, 1) := by decide +kernel
theorem d_M_begin_111 : decode y_M_begin.2.1 111 = .ok (.getfield 29, 3) := by decide +kernel
theorem d_M_begin_114 : decode y_M_begin.2.1 114 = .ok (.iconst 1, 1) := by decide +kernel
theorem d_M_begin_115 : decode y_M_begin.2.1 115 = .ok (.isub, 1) := by decide +kernel
theorem d_M_begin_116 : decode y_M_begin.2.1 116 = .ok (.ireturn, 1) := by decide +kernel
theorem d_G_isGoodThroughout_0 : decode y_G_isGoodThroughout.2.1 0 = .ok (.iconst 0, 1) := by decide +kernel
theorem d_G_isGoodThroughout_1 : decode y_G_isGoodThroughout.2.1 1 = .ok (.istore_n 2, 1) := by decide +kernel
theorem d_G_isGoodThroughout_2 : decode y_G_isGoodThroughout.2.1 2 = .ok (.iload_n 2, 1) := by decide +kernel
theorem d_G_isGoodThroughout_3 : decode y_G_isGoodThroughout.2.1 3 = .ok (.bipush 40, 2) := by decide +kernel
theorem d_G_isGoodThroughout_5 : decode y_G_isGoodThroughout.2.1 5 = .ok (.if_icmp .ge 16, 3) := by decide +kernel
theorem d_G_isGoodThroughout_8 : decode y_G_isGoodThroughout.2.1 8 = .ok (.aload_n 0, 1) := by decide +kernel
theorem d_G_isGoodThroughout_9 : decode y_G_isGoodThroughout.2.1 9 = .ok (.getfield 21, 3) := by decide +kernel
theorem d_G_isGoodThroughout_12 : decode y_G_isGoodThroughout.2.1 12 = .ok (.iload_n 2, 1) := by decide +kernel
theorem d_G_isGoodThroughout_13 : decode y_G_isGoodThroughout.2.1 13 = .ok (.iconst 0, 1) := by decide +kernel
theorem d_G_isGoodThroughout_14 : decode y_G_isGoodThroughout.2.1 14 = .ok (.bastore, 1) := by decide +kernel
theorem d_G_isGoodThroughout_15 : decode y_G_isGoodThroughout.2.1 15 = .ok (.iinc 2 1, 3) := by decide +kernel
theorem d_G_isGoodThroughout_18 : decode y_G_isGoodThroughout.2.1 18 = .ok (.goto (-16), 3) := by decide +kernel
theorem d_G_isGoodThroughout_21 : decode y_G_isGoodThroughout.2.1 21 = .ok (.aload_n 0, 1) := by decide +kernel
theorem d_G_isGoodThroughout_22 : decode y_G_isGoodThroughout.2.1 22 = .ok (.iconst 0, 1) := by decide +kernel
theorem d_G_isGoodThroughout_23 : decode y_G_isGoodThroughout.2.1 23 = .ok (.putfield 79, 3) := by decide +kernel
theorem d_G_isGoodThroughout_26 : decode y_G_isGoodThroughout.2.1 26 = .ok (.aload_n 0, 1) := by decide +kernel
theorem d_G_isGoodThroughout_27 : decode y_G_isGoodThroughout.2.1 27 = .ok (.aload_n 1, 1) := by decide +kernel
theorem d_G_isGoodThroughout_28 : decode y_G_isGoodThroughout.2.1 28 = .ok (.invokevirtual 82, 3) := by decide +kernel
theorem d_G_isGoodThroughout_31 : decode y_G_isGoodThroughout.2.1 31 = .ok (.iconst 0, 1) := by decide +kernel
theorem d_G_isGoodThroughout_32 : decode y_G_isGoodThroughout.2.1 32 = .ok (.istore_n 2, 1) := by decide +kernel
theorem d_G_isGoodThroughout_33 : decode y_G_isGoodThroughout.2.1 33 = .ok (.iload_n 2, 1) := by decide +kernel
theorem d_G_isGoodThroughout_34 : decode y_G_isGoodThroughout.2.1 34 = .ok (.bipush 40, 2) := by decide +kernel
theorem d_G_isGoodThroughout_36 : decode y_G_isGoodThroughout.2.1 36 = .ok (.if_icmp .ge 50, 3) := by decide +kernel
theorem d_G_isGoodThroughout_39 : decode y_G_isGoodThroughout.2.1 39 = .ok (.iload_n 2, 1) := by decide +kernel
theorem d_G_isGoodThroughout_40 : decode y_G_isGoodThroughout.2.1 40 = .ok (.aload_n 0, 1) := by decide +kernel
theorem d_G_isGoodThroughout_41 : decode y_G_isGoodThroughout.2.1 41 = .ok (.getfield 79, 3) := by decide +kernel
theorem d_G_isGoodThroughout_44 : decode y_G_isGoodThroughout.2.1 44 = .ok (.if_icmp .ge 42, 3) := by decide +kernel
theorem d_G_isGoodThroughout_47 : decode y_G_isGoodThroughout.2.1 47 = .ok (.aload_n 0, 1) := by decide +kernel
theorem d_G_isGoodThroughout_48 : decode y_G_isGoodThroughout.2.1 48 = .ok (.getfield 25, 3) := by decide +kernel
theorem d_G_isGoodThroughout_51 : decode y_G_isGoodThroughout.2.1 51 = .ok (.aload_n 0, 1) := by decide +kernel
theorem d_G_isGoodThroughout_52 : decode y_G_isGoodThroughout.2.1 52 = .ok (.getfield 18, 3) := by decide +kernel
theorem d_G_isGoodThroughout_55 : decode y_G_isGoodThroughout.2.1 55 = .ok (.iload_n 2, 1) := by decide +kernel
theorem d_G_isGoodThroughout_56 : decode y_G_isGoodThroughout.2.1 56 = .ok (.iaload, 1) := by decide +kernel
theorem d_G_isGoodThroughout_57 : decode y_G_isGoodThroughout.2.1 57 = .ok (.invokevirtual 85, 3) := by decide +kernel
theorem d_G_isGoodThroughout_60 : decode y_G_isGoodThroughout.2.1 60 = .ok (.astore_n 3, 1) := by decide +kernel
theorem d_G_isGoodThroughout_61 : decode y_G_isGoodThroughout.2.1 61 = .ok (.aload_n 3, 1) := by decide +kernel
theorem d_G_isGoodThroughout_62 : decode y_G_isGoodThroughout.2.1 62 = .ok (.ifnull 11, 3) := by decide +kernel
theorem d_G_isGoodThroughout_65 : decode y_G_isGoodThroughout.2.1 65 = .ok (.aload_n 0, 1) := by decide +kernel
theorem d_G_isGoodThroughout_66 : decode y_G_isGoodThroughout.2.1 66 = .ok (.aload_n 3, 1) := by decide +kernel
theorem d_G_isGoodThroughout_67 : decode y_G_isGoodThroughout.2.1 67 = .ok (.invokevirtual 91, 3) := by decide +kernel
theorem d_G_isGoodThroughout_70 : decode y_G_isGoodThroughout.2.1 70 = .ok (.ifCond .ne 5, 3) := by decide +kernel
theorem d_G_isGoodThroughout_73 : decode y_G_isGoodThroughout.2.1 73 = .ok (.iconst 0, 1) := by decide +kernel
theorem d_G_isGoodThroughout_74 : decode y_G_isGoodThroughout.2.1 74 = .ok (.ireturn, 1) := by decide +kernel
theorem d_G_isGoodThroughout_75 : decode y_G_isGoodThroughout.2.1 75 = .ok (.aload_n 0, 1) := by decide +kernel
theorem d_G_isGoodThroughout_76 : decode y_G_isGoodThroughout.2.1 76 = .ok (.aload_n 3, 1) := by decide +kernel
theorem d_G_isGoodThroughout_77 : decode y_G_isGoodThroughout.2.1 77 = .ok (.invokevirtual 94, 3) := by decide +kernel
theorem d_G_isGoodThroughout_80 : decode y_G_isGoodThroughout.2.1 80 = .ok (.iinc 2 1, 3) := by decide +kernel
theorem d_G_isGoodThroughout_83 : decode y_G_isGoodThroughout.2.1 83 = .ok (.goto (-50), 3) := by decide +kernel
theorem d_G_isGoodThroughout_86 : decode y_G_isGoodThroughout.2.1 86 = .ok (.iconst 1, 1) := by decide +kernel
theorem d_G_isGoodThroughout_87 : decode y_G_isGoodThroughout.2.1 87 = .ok (.ireturn, 1) := by decide +kernel
theorem d_G_reach_0 : decode y_G_reach.2.1 0 = .ok (.aload_n 1, 1) := by decide +kernel
theorem d_G_reach_1 : decode y_G_reach.2.1 1 = .ok (.ifnull 57, 3) := by decide +kernel
theorem d_G_reach_4 : decode y_G_reach.2.1 4 = .ok (.aload_n 0, 1) := by decide +kernel
theorem d_G_reach_5 : decode y_G_reach.2.1 5 = .ok (.getfield 21, 3) := by decide +kernel
theorem d_G_reach_8 : decode y_G_reach.2.1 8 = .ok (.aload_n 1, 1) := by decide +kernel
theorem d_G_reach_9 : decode y_G_reach.2.1 9 = .ok (.getfield 97, 3) := by decide +kernel
theorem d_G_reach_12 : decode y_G_reach.2.1 12 = .ok (.baload, 1) := by decide +kernel
theorem d_G_reach_13 : decode y_G_reach.2.1 13 = .ok (.ifCond .ne 45, 3) := by decide +kernel
theorem d_G_reach_16 : decode y_G_reach.2.1 16 = .ok (.aload_n 0, 1) := by decide +kernel
theorem d_G_reach_17 : decode y_G_reach.2.1 17 = .ok (.getfield 79, 3) := by decide +kernel
theorem d_G_reach_20 : decode y_G_reach.2.1 20 = .ok (.bipush 40, 2) := by decide +kernel
theorem d_G_reach_22 : decode y_G_reach.2.1 22 = .ok (.if_icmp .ge 36, 3) := by decide +kernel
theorem d_G_reach_25 : decode y_G_reach.2.1 25 = .ok (.aload_n 0, 1) := by decide +kernel
theorem d_G_reach_26 : decode y_G_reach.2.1 26 = .ok (.getfield 21, 3) := by decide +kernel
theorem d_G_reach_29 : decode y_G_reach.2.1 29 = .ok (.aload_n 1, 1) := by decide +kernel
theorem d_G_reach_30 : decode y_G_reach.2.1 30 = .ok (.getfield 97, 3) := by decide +kernel
theorem d_G_reach_33 : decode y_G_reach.2.1 33 = .ok (.iconst 1, 1) := by decide +kernel
theorem d_G_reach_34 : decode y_G_reach.2.1 34 = .ok (.bastore, 1) := by decide +kernel
theorem d_G_reach_35 : decode y_G_reach.2.1 35 = .ok (.aload_n 0, 1) := by decide +kernel
theorem d_G_reach_36 : decode y_G_reach.2.1 36 = .ok (.getfield 18, 3) := by decide +kernel
theorem d_G_reach_39 : decode y_G_reach.2.1 39 = .ok (.aload_n 0, 1) := by decide +kernel
theorem d_G_reach_40 : decode y_G_reach.2.1 40 = .ok (.getfield 79, 3) := by decide +kernel
theorem d_G_reach_43 : decode y_G_reach.2.1 43 = .ok (.aload_n 1, 1) := by decide +kernel
theorem d_G_reach_44 : decode y_G_reach.2.1 44 = .ok (.getfield 97, 3) := by decide +kernel
theorem d_G_reach_47 : decode y_G_reach.2.1 47 = .ok (.iastore, 1) := by decide +kernel
theorem d_G_reach_48 : decode y_G_reach.2.1 48 = .ok (.aload_n 0, 1) := by decide +kernel
theorem d_G_reach_49 : decode y_G_reach.2.1 49 = .ok (.dup, 1) := by decide +kernel
theorem d_G_reach_50 : decode y_G_reach.2.1 50 = .ok (.getfield 79, 3) := by decide +kernel
theorem d_G_reach_53 : decode y_G_reach.2.1 53 = .ok (.iconst 1, 1) := by decide +kernel
theorem d_G_reach_54 : decode y_G_reach.2.1 54 = .ok (.iadd, 1) := by decide +kernel
theorem d_G_reach_55 : decode y_G_reach.2.1 55 = .ok (.putfield 79, 3) := by decide +kernel
theorem d_G_reach_58 : decode y_G_reach.2.1 58 = .ok (.return_, 1) := by decide +kernel
theorem d_G_reachCallsOf_0 : decode y_G_reachCallsOf.2.1 0 = .ok (.iconst 0, 1) := by decide +kernel
theorem d_G_reachCallsOf_1 : decode y_G_reachCallsOf.2.1 1 = .ok (.istore_n 2, 1) := by decide +kernel
theorem d_G_reachCallsOf_2 : decode y_G_reachCallsOf.2.1 2 = .ok (.iload_n 2, 1) := by decide +kernel
theorem d_G_reachCallsOf_3 : decode y_G_reachCallsOf.2.1 3 = .ok (.aload_n 1, 1) := by decide +kernel
theorem d_G_reachCallsOf_4 : decode y_G_reachCallsOf.2.1 4 = .ok (.invokevirtual 29, 3) := by decide +kernel
theorem d_G_reachCallsOf_7 : decode y_G_reachCallsOf.2.1 7 = .ok (.if_icmp .ge 35, 3) := by decide +kernel
theorem d_G_reachCallsOf_10 : decode y_G_reachCallsOf.2.1 10 = .ok (.aload_n 1, 1) := by decide +kernel
theorem d_G_reachCallsOf_11 : decode y_G_reachCallsOf.2.1 11 = .ok (.iload_n 2, 1) := by decide +kernel
theorem d_G_reachCallsOf_12 : decode y_G_reachCallsOf.2.1 12 = .ok (.invokevirtual 35, 3) := by decide +kernel
theorem d_G_reachCallsOf_15 : decode y_G_reachCallsOf.2.1 15 = .ok (.bipush 18, 2) := by decide +kernel
theorem d_G_reachCallsOf_17 : decode y_G_reachCallsOf.2.1 17 = .ok (.if_icmp .ne 19, 3) := by decide +kernel
theorem d_G_reachCallsOf_20 : decode y_G_reachCallsOf.2.1 20 = .ok (.aload_n 0, 1) := by decide +kernel
theorem d_G_reachCallsOf_21 : decode y_G_reachCallsOf.2.1 21 = .ok (.aload_n 0, 1) := by decide +kernel
theorem d_G_reachCallsOf_22 : decode y_G_reachCallsOf.2.1 22 = .ok (.getfield 25, 3) := by decide +kernel
theorem d_G_reachCallsOf_25 : decode y_G_reachCallsOf.2.1 25 = .ok (.aload_n 1, 1) := by decide +kernel
theorem d_G_reachCallsOf_26 : decode y_G_reachCallsOf.2.1 26 = .ok (.iload_n 2, 1) := by decide +kernel
theorem d_G_reachCallsOf_27 : decode y_G_reachCallsOf.2.1 27 = .ok (.invokevirtual 72, 3) := by decide +kernel
theorem d_G_reachCallsOf_30 : decode y_G_reachCallsOf.2.1 30 = .ok (.invokevirtual 85, 3) := by decide +kernel
theorem d_G_reachCallsOf_33 : decode y_G_reachCallsOf.2.1 33 = .ok (.invokevirtual 82, 3) := by decide +kernel
theorem d_G_reachCallsOf_36 : decode y_G_reachCallsOf.2.1 36 = .ok (.iinc 2 1, 3) := by decide +kernel
theorem d_G_reachCallsOf_39 : decode y_G_reachCallsOf.2.1 39 = .ok (.goto (-37), 3) := by decide +kernel
theorem d_G_reachCallsOf_42 : decode y_G_reachCallsOf.2.1 42 = .ok (.return_, 1) := by decide +kernel
theorem d_S_init_0 : decode y_S_init.2.1 0 = .ok (.aload_n 0, 1) := by decide +kernel
theorem d_S_init_1 : decode y_S_init.2.1 1 = .ok (.invokespecial 3, 3) := by decide +kernel
theorem d_S_init_4 : decode y_S_init.2.1 4 = .ok (.aload_n 0, 1) := by decide +kernel
theorem d_S_init_5 : decode y_S_init.2.1 5 = .ok (.bipush 30, 2) := by decide +kernel
theorem d_S_init_7 : decode y_S_init.2.1 7 = .ok (.anewarray 9, 3) := by decide +kernel
theorem d_S_init_10 : decode y_S_init.2.1 10 = .ok (.putfield 11, 3) := by decide +kernel
theorem d_S_init_13 : decode y_S_init.2.1 13 = .ok (.aload_n 0, 1) := by decide +kernel
theorem d_S_init_14 : decode y_S_init.2.1 14 = .ok (.iload_n 1, 1) := by decide +kernel
theorem d_S_init_15 : decode y_S_init.2.1 15 = .ok (.putfield 17, 3) := by decide +kernel
theorem d_S_init_18 : decode y_S_init.2.1 18 = .ok (.iconst 0, 1) := by decide +kernel
theorem d_S_init_19 : decode y_S_init.2.1 19 = .ok (.istore_n 2, 1) := by decide +kernel
theorem d_S_init_20 : decode y_S_init.2.1 20 = .ok (.iload_n 2, 1) := by decide +kernel
theorem d_S_init_21 : decode y_S_init.2.1 21 = .ok (.bipush 30, 2) := by decide +kernel
theorem d_S_init_23 : decode y_S_init.2.1 23 = .ok (.if_icmp .ge 22, 3) := by decide +kernel
theorem d_S_init_26 : decode y_S_init.2.1 26 = .ok (.aload_n 0, 1) := by decide +kernel
theorem d_S_init_27 : decode y_S_init.2.1 27 = .ok (.getfield 11, 3) := by decide +kernel
theorem d_S_init_30 : decode y_S_init.2.1 30 = .ok (.iload_n 2, 1) := by decide +kernel
theorem d_S_init_31 : decode y_S_init.2.1 31 = .ok (.new 9, 3) := by decide +kernel
theorem d_S_init_34 : decode y_S_init.2.1 34 = .ok (.dup, 1) := by decide +kernel
theorem d_S_init_35 : decode y_S_init.2.1 35 = .ok (.invokespecial 21, 3) := by decide +kernel
theorem d_S_init_38 : decode y_S_init.2.1 38 = .ok (.aastore, 1) := by decide +kernel
theorem d_S_init_39 : decode y_S_init.2.1 39 = .ok (.iinc 2 1, 3) := by decide +kernel
theorem d_S_init_42 : decode y_S_init.2.1 42 = .ok (.goto (-22), 3) := by decide +kernel
theorem d_S_init_45 : decode y_S_init.2.1 45 = .ok (.return_, 1) := by decide +kernel
theorem d_F_init_0 : decode y_F_init.2.1 0 = .ok (.aload_n 0, 1) := by decide +kernel
theorem d_F_init_1 : decode y_F_init.2.1 1 = .ok (.invokespecial 3, 3) := by decide +kernel
theorem d_F_init_4 : decode y_F_init.2.1 4 = .ok (.aload_n 0, 1) := by decide +kernel
theorem d_F_init_5 : decode y_F_init.2.1 5 = .ok (.bipush 12, 2) := by decide +kernel
theorem d_F_init_7 : decode y_F_init.2.1 7 = .ok (.newarray .int, 2) := by decide +kernel
theorem d_F_init_9 : decode y_F_init.2.1 9 = .ok (.putfield 9, 3) := by decide +kernel
theorem d_F_init_12 : decode y_F_init.2.1 12 = .ok (.aload_n 0, 1) := by decide +kernel
theorem d_F_init_13 : decode y_F_init.2.1 13 = .ok (.bipush 8, 2) := by decide +kernel
theorem d_F_init_15 : decode y_F_init.2.1 15 = .ok (.newarray .int, 2) := by decide +kernel
theorem d_F_init_17 : decode y_F_init.2.1 17 = .ok (.putfield 15, 3) := by decide +kernel
theorem d_F_init_20 : decode y_F_init.2.1 20 = .ok (.return_, 1) := by decide +kernel
theorem d_S_begin_0 : decode y_S_begin.2.1 0 = .ok (.aload_n 0, 1) := by decide +kernel
theorem d_S_begin_1 : decode y_S_begin.2.1 1 = .ok (.iconst 0, 1) := by decide +kernel
theorem d_S_begin_2 : decode y_S_begin.2.1 2 = .ok (.putfield 22, 3) := by decide +kernel
theorem d_S_begin_5 : decode y_S_begin.2.1 5 = .ok (.aload_n 0, 1) := by decide +kernel
theorem d_S_begin_6 : decode y_S_begin.2.1 6 = .ok (.iconst 0, 1) := by decide +kernel
theorem d_S_begin_7 : decode y_S_begin.2.1 7 = .ok (.putfield 25, 3) := by decide +kernel
theorem d_S_begin_10 : decode y_S_begin.2.1 10 = .ok (.aload_n 0, 1) := by decide +kernel
theorem d_S_begin_11 : decode y_S_begin.2.1 11 = .ok (.iconst 0, 1) := by decide +kernel
theorem d_S_begin_12 : decode y_S_begin.2.1 12 = .ok (.putfield 28, 3) := by decide +kernel
theorem d_S_begin_15 : decode y_S_begin.2.1 15 = .ok (.aload_n 0, 1) := by decide +kernel
theorem d_S_begin_16 : decode y_S_begin.2.1 16 = .ok (.iconst 0, 1) := by decide +kernel
theorem d_S_begin_17 : decode y_S_begin.2.1 17 = .ok (.putfield 31, 3) := by decide +kernel
theorem d_S_begin_20 : decode y_S_begin.2.1 20 = .ok (.aload_n 0, 1) := by decide +kernel
theorem d_S_begin_21 : decode y_S_begin.2.1 21 = .ok (.iconst 0, 1) := by decide +kernel
theorem d_S_begin_22 : decode y_S_begin.2.1 22 = .ok (.putfield 34, 3) := by decide +kernel
theorem d_S_begin_25 : decode y_S_begin.2.1 25 = .ok (.aload_n 0, 1) := by decide +kernel
theorem d_S_begin_26 : decode y_S_begin.2.1 26 = .ok (.aload_n 1, 1) := by decide +kernel
theorem d_S_begin_27 : decode y_S_begin.2.1 27 = .ok (.invokevirtual 38, 3) := by decide +kernel
theorem d_S_begin_30 : decode y_S_begin.2.1 30 = .ok (.pop, 1) := by decide +kernel
theorem d_S_begin_31 : decode y_S_begin.2.1 31 = .ok (.return_, 1) := by decide +kernel
theorem d_S_beginFrame_0 : decode y_S_beginFrame.2.1 0 = .ok (.aload_n 0, 1) := by decide +kernel
theorem d_S_beginFrame_1 : decode y_S_beginFrame.2.1 1 = .ok (.getfield 22, 3) := by decide +kernel
theorem d_S_beginFrame_4 : decode y_S_beginFrame.2.1 4 = .ok (.ifCond .lt 12, 3) := by decide +kernel
theorem d_S_beginFrame_7 : decode y_S_beginFrame.2.1 7 = .ok (.aload_n 0, 1) := by decide +kernel
theorem d_S_beginFrame_8 : decode y_S_beginFrame.2.1 8 = .ok (.getfield 22, 3) := by decide +kernel
theorem d_S_beginFrame_11 : decode y_S_beginFrame.2.1 11 = .ok (.bipush 30, 2) := by decide +kernel
theorem d_S_beginFrame_13 : decode y_S_beginFrame.2.1 13 = .ok (.if_icmp .lt 5, 3) := by decide +kernel
theorem d_S_beginFrame_16 : decode y_S_beginFrame.2.1 16 = .ok (.aconst_null, 1) := by decide +kernel
theorem d_S_beginFrame_17 : decode y_S_beginFrame.2.1 17 = .ok (.areturn, 1) := by decide +kernel
theorem d_S_beginFrame_18 : decode y_S_beginFrame.2.1 18 = .ok (.aload_n 0, 1) := by decide +kernel
theorem d_S_beginFrame_19 : decode y_S_beginFrame.2.1 19 = .ok (.getfield 11, 3) := by decide +kernel
theorem d_S_beginFrame_22 : decode y_S_beginFrame.2.1 22 = .ok (.aload_n 0, 1) := by decide +kernel
theorem d_S_beginFrame_23 : decode y_S_beginFrame.2.1 23 = .ok (.getfield 22, 3) := by decide +kernel
theorem d_S_beginFrame_26 : decode y_S_beginFrame.2.1 26 = .ok (.aaload, 1) := by decide +kernel
theorem d_S_beginFrame_27 : decode y_S_beginFrame.2.1 27 = .ok (.astore_n 2, 1) := by decide +kernel
theorem d_S_beginFrame_28 : decode y_S_beginFrame.2.1 28 = .ok (.aload_n 2, 1) := by decide +kernel
theorem d_S_beginFrame_29 : decode y_S_beginFrame.2.1 29 = .ok (.aload_n 1, 1) := by decide +kernel
theorem d_S_beginFrame_30 : decode y_S_beginFrame.2.1 30 = .ok (.invokevirtual 42, 3) := by decide +kernel
theorem d_S_beginFrame_33 : decode y_S_beginFrame.2.1 33 = .ok (.aload_n 0, 1) := by decide +kernel
theorem d_S_beginFrame_34 : decode y_S_beginFrame.2.1 34 = .ok (.dup, 1) := by decide +kernel
theorem d_S_beginFrame_35 : decode y_S_beginFrame.2.1 35 = .ok (.getfield 22, 3) := by decide +kernel
theorem d_S_beginFrame_38 : decode y_S_beginFrame.2.1 38 = .ok (.iconst 1, 1) := by decide +kernel
theorem d_S_beginFrame_39 : decode y_S_beginFrame.2.1 39 = .ok (.iadd, 1) := by decide +kernel
theorem d_S_beginFrame_40 : decode y_S_beginFrame.2.1 40 = .ok (.putfield 22, 3) := by decide +kernel
theorem d_S_beginFrame_43 : decode y_S_beginFrame.2.1 43 = .ok (.aload_n 2, 1) := by decide +kernel
theorem d_S_beginFrame_44 : decode y_S_beginFrame.2.1 44 = .ok (.areturn, 1) := by decide +kernel
theorem d_F_begin_0 : decode y_F_begin.2.1 0 = .ok (.aload_n 0, 1) := by decide +kernel
theorem d_F_begin_1 : decode y_F_begin.2.1 1 = .ok (.aload_n 1, 1) := by decide +kernel
theorem d_F_begin_2 : decode y_F_begin.2.1 2 = .ok (.putfield 18, 3) := by decide +kernel
theorem d_F_begin_5 : decode y_F_begin.2.1 5 = .ok (.aload_n 0, 1) := by decide +kernel
theorem d_F_begin_6 : decode y_F_begin.2.1 6 = .ok (.iconst 0, 1) := by decide +kernel
theorem d_F_begin_7 : decode y_F_begin.2.1 7 = .ok (.putfield 22, 3) := by decide +kernel
theorem d_F_begin_10 : decode y_F_begin.2.1 10 = .ok (.aload_n 0, 1) := by decide +kernel
theorem d_F_begin_11 : decode y_F_begin.2.1 11 = .ok (.iconst 0, 1) := by decide +kernel
theorem d_F_begin_12 : decode y_F_begin.2.1 12 = .ok (.putfield 26, 3) := by decide +kernel
theorem d_F_begin_15 : decode y_F_begin.2.1 15 = .ok (.iconst 0, 1) := by decide +kernel
theorem d_F_begin_16 : decode y_F_begin.2.1 16 = .ok (.istore_n 2, 1) := by decide +kernel
theorem d_F_begin_17 : decode y_F_begin.2.1 17 = .ok (.iload_n 2, 1) := by decide +kernel
theorem d_F_begin_18 : decode y_F_begin.2.1 18 = .ok (.bipush 8, 2) := by decide +kernel
theorem d_F_begin_20 : decode y_F_begin.2.1 20 = .ok (.if_icmp .ge 16, 3) := by decide +kernel
theorem d_F_begin_23 : decode y_F_begin.2.1 23 = .ok (.aload_n 0, 1) := by decide +kernel
theorem d_F_begin_24 : decode y_F_begin.2.1 24 = .ok (.getfield 15, 3) := by decide +kernel
theorem d_F_begin_27 : decode y_F_begin.2.1 27 = .ok (.iload_n 2, 1) := by decide +kernel
theorem d_F_begin_28 : decode y_F_begin.2.1 28 = .ok (.iconst 0, 1) := by decide +kernel
theorem d_F_begin_29 : decode y_F_begin.2.1 29 = .ok (.iastore, 1) := by decide +kernel
theorem d_F_begin_30 : decode y_F_begin.2.1 30 = .ok (.iinc 2 1, 3) := by decide +kernel
theorem d_F_begin_33 : decode y_F_begin.2.1 33 = .ok (.goto (-16), 3) := by decide +kernel
theorem d_F_begin_36 : decode y_F_begin.2.1 36 = .ok (.return_, 1) := by decide +kernel
theorem d_Cs_close_0 : decode y_Cs_close.2.1 0 = .ok (.aload_n 0, 1) := by decide +kernel
theorem d_Cs_close_1 : decode y_Cs_close.2.1 1 = .ok (.aconst_null, 1) := by decide +kernel
theorem d_Cs_close_2 : decode y_Cs_close.2.1 2 = .ok (.putfield 24, 3) := by decide +kernel
theorem d_Cs_close_5 : decode y_Cs_close.2.1 5 = .ok (.return_, 1) := by decide +kernel
theorem d_J_run_0 : decode y_J_run.2.1 0 = .ok (.aload_n 0, 1) := by decide +kernel
theorem d_J_run_1 : decode y_J_run.2.1 1 = .ok (.getfield 37, 3) := by decide +kernel
theorem d_J_run_4 : decode y_J_run.2.1 4 = .ok (.iload_n 1, 1) := by decide +kernel
theorem d_J_run_5 : decode y_J_run.2.1 5 = .ok (.invokevirtual 84, 3) := by decide +kernel
theorem d_J_run_8 : decode y_J_run.2.1 8 = .ok (.astore_n 3, 1) := by decide +kernel
theorem d_J_run_9 : decode y_J_run.2.1 9 = .ok (.aload_n 3, 1) := by decide +kernel
theorem d_J_run_10 : decode y_J_run.2.1 10 = .ok (.ifnull 14, 3) := by decide +kernel
theorem d_J_run_13 : decode y_J_run.2.1 13 = .ok (.iload_n 2, 1) := by decide +kernel
theorem d_J_run_14 : decode y_J_run.2.1 14 = .ok (.iconst 0, 1) := by decide +kernel
theorem d_J_run_15 : decode y_J_run.2.1 15 = .ok (.sipush 10000, 3) := by decide +kernel
theorem d_J_run_18 : decode y_J_run.2.1 18 = .ok (.invokestatic 41, 3) := by decide +kernel
theorem d_J_run_21 : decode y_J_run.2.1 21 = .ok (.ifCond .ne 6, 3) := by decide +kernel
theorem d_J_run_24 : decode y_J_run.2.1 24 = .ok (.bipush (-14), 2) := by decide +kernel
theorem d_J_run_26 : decode y_J_run.2.1 26 = .ok (.ireturn, 1) := by decide +kernel
theorem d_J_run_27 : decode y_J_run.2.1 27 = .ok (.aload_n 0, 1) := by decide +kernel
theorem d_J_run_28 : decode y_J_run.2.1 28 = .ok (.getfield 37, 3) := by decide +kernel
theorem d_J_run_31 : decode y_J_run.2.1 31 = .ok (.aload_n 3, 1) := by decide +kernel
theorem d_J_run_32 : decode y_J_run.2.1 32 = .ok (.iload_n 2, 1) := by decide +kernel
theorem d_J_run_33 : decode y_J_run.2.1 33 = .ok (.invokevirtual 87, 3) := by decide +kernel
theorem d_J_run_36 : decode y_J_run.2.1 36 = .ok (.ireturn, 1) := by decide +kernel
theorem d_M_find_0 : decode y_M_find.2.1 0 = .ok (.iload_n 1, 1) := by decide +kernel
theorem d_M_find_1 : decode y_M_find.2.1 1 = .ok (.ifCond .lt 20, 3) := by decide +kernel
theorem d_M_find_4 : decode y_M_find.2.1 4 = .ok (.iload_n 1, 1) := by decide +kernel
theorem d_M_find_5 : decode y_M_find.2.1 5 = .ok (.aload_n 0, 1) := by decide +kernel
theorem d_M_find_6 : decode y_M_find.2.1 6 = .ok (.getfield 29, 3) := by decide +kernel
theorem d_M_find_9 : decode y_M_find.2.1 9 = .ok (.if_icmp .ge 12, 3) := by decide +kernel
theorem d_M_find_12 : decode y_M_find.2.1 12 = .ok (.aload_n 0, 1) := by decide +kernel
theorem d_M_find_13 : decode y_M_find.2.1 13 = .ok (.getfield 11, 3) := by decide +kernel
theorem d_M_find_16 : decode y_M_find.2.1 16 = .ok (.iload_n 1, 1) := by decide +kernel
theorem d_M_find_17 : decode y_M_find.2.1 17 = .ok (.aaload, 1) := by decide +kernel
theorem d_M_find_18 : decode y_M_find.2.1 18 = .ok (.goto 4, 3) := by decide +kernel
theorem d_M_find_21 : decode y_M_find.2.1 21 = .ok (.aconst_null, 1) := by decide +kernel
theorem d_M_find_22 : decode y_M_find.2.1 22 = .ok (.areturn, 1) := by decide +kernel
theorem d_M_advance_0 : decode y_M_advance.2.1 0 = .ok (.iconst 0, 1) := by decide +kernel
theorem d_M_advance_1 : decode y_M_advance.2.1 1 = .ok (.istore_n 3, 1) := by decide +kernel
theorem d_M_advance_2 : decode y_M_advance.2.1 2 = .ok (.iload_n 3, 1) := by decide +kernel
theorem d_M_advance_3 : decode y_M_advance.2.1 3 = .ok (.iload_n 2, 1) := by decide +kernel
theorem d_M_advance_4 : decode y_M_advance.2.1 4 = .ok (.if_icmp .ge 57, 3) := by decide +kernel
theorem d_M_advance_7 : decode y_M_advance.2.1 7 = .ok (.aload_n 1, 1) := by decide +kernel
theorem d_M_advance_8 : decode y_M_advance.2.1 8 = .ok (.invokevirtual 60, 3) := by decide +kernel
theorem d_M_advance_11 : decode y_M_advance.2.1 11 = .ok (.ifCond .ne 50, 3) := by decide +kernel
theorem d_M_advance_14 : decode y_M_advance.2.1 14 = .ok (.aload_n 0, 1) := by decide +kernel
theorem d_M_advance_15 : decode y_M_advance.2.1 15 = .ok (.aload_n 1, 1) := by decide +kernel
theorem d_M_advance_16 : decode y_M_advance.2.1 16 = .ok (.invokevirtual 64, 3) := by decide +kernel
theorem d_M_advance_19 : decode y_M_advance.2.1 19 = .ok (.ifCond .ne 42, 3) := by decide +kernel
theorem d_M_advance_22 : decode y_M_advance.2.1 22 = .ok (.aload_n 0, 1) := by decide +kernel
theorem d_M_advance_23 : decode y_M_advance.2.1 23 = .ok (.getfield 25, 3) := by decide +kernel
theorem d_M_advance_26 : decode y_M_advance.2.1 26 = .ok (.invokevirtual 68, 3) := by decide +kernel
theorem d_M_advance_29 : decode y_M_advance.2.1 29 = .ok (.ifCond .eq 6, 3) := by decide +kernel
theorem d_M_advance_32 : decode y_M_advance.2.1 32 = .ok (.bipush (-12), 2) := by decide +kernel
theorem d_M_advance_34 : decode y_M_advance.2.1 34 = .ok (.ireturn, 1) := by decide +kernel
theorem d_M_advance_35 : decode y_M_advance.2.1 35 = .ok (.aload_n 0, 1) := by decide +kernel
theorem d_M_advance_36 : decode y_M_advance.2.1 36 = .ok (.aload_n 1, 1) := by decide +kernel
theorem d_M_advance_37 : decode y_M_advance.2.1 37 = .ok (.invokevirtual 73, 3) := by decide +kernel
theorem d_M_advance_40 : decode y_M_advance.2.1 40 = .ok (.ifCond .eq 10, 3) := by decide +kernel
theorem d_M_advance_43 : decode y_M_advance.2.1 43 = .ok (.aload_n 1, 1) := by decide +kernel
theorem d_M_advance_44 : decode y_M_advance.2.1 44 = .ok (.invokevirtual 76, 3) := by decide +kernel
theorem d_M_advance_47 : decode y_M_advance.2.1 47 = .ok (.goto 8, 3) := by decide +kernel
theorem d_M_advance_50 : decode y_M_advance.2.1 50 = .ok (.aload_n 0, 1) := by decide +kernel
theorem d_M_advance_51 : decode y_M_advance.2.1 51 = .ok (.aload_n 1, 1) := by decide +kernel
theorem d_M_advance_52 : decode y_M_advance.2.1 52 = .ok (.invokevirtual 79, 3) := by decide +kernel
theorem d_M_advance_55 : decode y_M_advance.2.1 55 = .ok (.iinc 3 1, 3) := by decide +kernel
theorem d_M_advance_58 : decode y_M_advance.2.1 58 = .ok (.goto (-56), 3) := by decide +kernel
theorem d_M_advance_61 : decode y_M_advance.2.1 61 = .ok (.aload_n 0, 1) := by decide +kernel
theorem d_M_advance_62 : decode y_M_advance.2.1 62 = .ok (.aload_n 1, 1) := by decide +kernel
theorem d_M_advance_63 : decode y_M_advance.2.1 63 = .ok (.invokevirtual 64, 3) := by decide +kernel
theorem d_M_advance_66 : decode y_M_advance.2.1 66 = .ok (.ifCond .eq 7, 3) := by decide +kernel
theorem d_M_advance_69 : decode y_M_advance.2.1 69 = .ok (.iconst 3, 1) := by decide +kernel
theorem d_M_advance_70 : decode y_M_advance.2.1 70 = .ok (.goto 7, 3) := by decide +kernel
theorem d_M_advance_73 : decode y_M_advance.2.1 73 = .ok (.aload_n 1, 1) := by decide +kernel
theorem d_M_advance_74 : decode y_M_advance.2.1 74 = .ok (.invokevirtual 83, 3) := by decide +kernel
theorem d_M_advance_77 : decode y_M_advance.2.1 77 = .ok (.ireturn, 1) := by decide +kernel
theorem d_S_hasEnded_0 : decode y_S_hasEnded.2.1 0 = .ok (.aload_n 0, 1) := by decide +kernel
theorem d_S_hasEnded_1 : decode y_S_hasEnded.2.1 1 = .ok (.getfield 28, 3) := by decide +kernel
theorem d_S_hasEnded_4 : decode y_S_hasEnded.2.1 4 = .ok (.iconst 1, 1) := by decide +kernel
theorem d_S_hasEnded_5 : decode y_S_hasEnded.2.1 5 = .ok (.if_icmp .eq 11, 3) := by decide +kernel
theorem d_S_hasEnded_8 : decode y_S_hasEnded.2.1 8 = .ok (.aload_n 0, 1) := by decide +kernel
theorem d_S_hasEnded_9 : decode y_S_hasEnded.2.1 9 = .ok (.getfield 28, 3) := by decide +kernel
theorem d_S_hasEnded_12 : decode y_S_hasEnded.2.1 12 = .ok (.iconst 2, 1) := by decide +kernel
theorem d_S_hasEnded_13 : decode y_S_hasEnded.2.1 13 = .ok (.if_icmp .ne 7, 3) := by decide +kernel
theorem d_S_hasEnded_16 : decode y_S_hasEnded.2.1 16 = .ok (.iconst 1, 1) := by decide +kernel
theorem d_S_hasEnded_17 : decode y_S_hasEnded.2.1 17 = .ok (.goto 4, 3) := by decide +kernel
theorem d_S_hasEnded_20 : decode y_S_hasEnded.2.1 20 = .ok (.iconst 0, 1) := by decide +kernel
theorem d_S_hasEnded_21 : decode y_S_hasEnded.2.1 21 = .ok (.ireturn, 1) := by decide +kernel
theorem d_M_awaitedBy_0 : decode y_M_awaitedBy.2.1 0 = .ok (.aload_n 1, 1) := by decide +kernel
theorem d_M_awaitedBy_1 : decode y_M_awaitedBy.2.1 1 = .ok (.invokevirtual 87, 3) := by decide +kernel
theorem d_M_awaitedBy_4 : decode y_M_awaitedBy.2.1 4 = .ok (.ifCond .eq 11, 3) := by decide +kernel
theorem d_M_awaitedBy_7 : decode y_M_awaitedBy.2.1 7 = .ok (.aload_n 0, 1) := by decide +kernel
theorem d_M_awaitedBy_8 : decode y_M_awaitedBy.2.1 8 = .ok (.aload_n 1, 1) := by decide +kernel
theorem d_M_awaitedBy_9 : decode y_M_awaitedBy.2.1 9 = .ok (.invokevirtual 73, 3) := by decide +kernel
theorem d_M_awaitedBy_12 : decode y_M_awaitedBy.2.1 12 = .ok (.goto 4, 3) := by decide +kernel
theorem d_M_awaitedBy_15 : decode y_M_awaitedBy.2.1 15 = .ok (.iconst 0, 1) := by decide +kernel
theorem d_M_awaitedBy_16 : decode y_M_awaitedBy.2.1 16 = .ok (.ireturn, 1) := by decide +kernel
theorem d_S_isStopped_0 : decode y_S_isStopped.2.1 0 = .ok (.aload_n 0, 1) := by decide +kernel
theorem d_S_isStopped_1 : decode y_S_isStopped.2.1 1 = .ok (.getfield 34, 3) := by decide +kernel
theorem d_S_isStopped_4 : decode y_S_isStopped.2.1 4 = .ok (.ireturn, 1) := by decide +kernel
theorem d_M_objectHeldAgainst_0 : decode y_M_objectHeldAgainst.2.1 0 = .ok (.aload_n 1, 1) := by decide +kernel
theorem d_M_objectHeldAgainst_1 : decode y_M_objectHeldAgainst.2.1 1 = .ok (.invokevirtual 90, 3) := by decide +kernel
theorem d_M_objectHeldAgainst_4 : decode y_M_objectHeldAgainst.2.1 4 = .ok (.astore_n 2, 1) := by decide +kernel
theorem d_M_objectHeldAgainst_5 : decode y_M_objectHeldAgainst.2.1 5 = .ok (.aload_n 2, 1) := by decide +kernel
theorem d_M_objectHeldAgainst_6 : decode y_M_objectHeldAgainst.2.1 6 = .ok (.ifnonnull 7, 3) := by decide +kernel
theorem d_M_objectHeldAgainst_9 : decode y_M_objectHeldAgainst.2.1 9 = .ok (.aconst_null, 1) := by decide +kernel
theorem d_M_objectHeldAgainst_10 : decode y_M_objectHeldAgainst.2.1 10 = .ok (.goto 7, 3) := by decide +kernel
theorem d_M_objectHeldAgainst_13 : decode y_M_objectHeldAgainst.2.1 13 = .ok (.aload_n 2, 1) := by decide +kernel
theorem d_M_objectHeldAgainst_14 : decode y_M_objectHeldAgainst.2.1 14 = .ok (.invokevirtual 94, 3) := by decide +kernel
theorem d_M_objectHeldAgainst_17 : decode y_M_objectHeldAgainst.2.1 17 = .ok (.astore_n 3, 1) := by decide +kernel
theorem d_M_objectHeldAgainst_18 : decode y_M_objectHeldAgainst.2.1 18 = .ok (.aload_n 3, 1) := by decide +kernel
theorem d_M_objectHeldAgainst_19 : decode y_M_objectHeldAgainst.2.1 19 = .ok (.ifnull 16, 3) := by decide +kernel
theorem d_M_objectHeldAgainst_22 : decode y_M_objectHeldAgainst.2.1 22 = .ok (.aload_n 3, 1) := by decide +kernel
theorem d_M_objectHeldAgainst_23 : decode y_M_objectHeldAgainst.2.1 23 = .ok (.aload_n 2, 1) := by decide +kernel
theorem d_M_objectHeldAgainst_24 : decode y_M_objectHeldAgainst.2.1 24 = .ok (.invokevirtual 100, 3) := by decide +kernel
theorem d_M_objectHeldAgainst_27 : decode y_M_objectHeldAgainst.2.1 27 = .ok (.invokevirtual 103, 3) := by decide +kernel
theorem d_M_objectHeldAgainst_30 : decode y_M_objectHeldAgainst.2.1 30 = .ok (.bipush 20, 2) := by decide +kernel
theorem d_M_objectHeldAgainst_32 : decode y_M_objectHeldAgainst.2.1 32 = .ok (.if_icmp .eq 5, 3) := by decide +kernel
theorem d_M_objectHeldAgainst_35 : decode y_M_objectHeldAgainst.2.1 35 = .ok (.iconst 0, 1) := by decide +kernel
theorem d_M_objectHeldAgainst_36 : decode y_M_objectHeldAgainst.2.1 36 = .ok (.ireturn, 1) := by decide +kernel
theorem d_M_objectHeldAgainst_37 : decode y_M_objectHeldAgainst.2.1 37 = .ok (.aload_n 0, 1) := by decide +kernel
theorem d_M_objectHeldAgainst_38 : decode y_M_objectHeldAgainst.2.1 38 = .ok (.getfield 25, 3) := by decide +kernel
theorem d_M_objectHeldAgainst_41 : decode y_M_objectHeldAgainst.2.1 41 = .ok (.aload_n 2, 1) := by decide +kernel
theorem d_M_objectHeldAgainst_42 : decode y_M_objectHeldAgainst.2.1 42 = .ok (.iconst 0, 1) := by decide +kernel
theorem d_M_objectHeldAgainst_43 : decode y_M_objectHeldAgainst.2.1 43 = .ok (.invokevirtual 107, 3) := by decide +kernel
theorem d_M_objectHeldAgainst_46 : decode y_M_objectHeldAgainst.2.1 46 = .ok (.invokevirtual 110, 3) := by decide +kernel
theorem d_M_objectHeldAgainst_49 : decode y_M_objectHeldAgainst.2.1 49 = .ok (.astore 4, 2) := by decide +kernel
theorem d_M_objectHeldAgainst_51 : decode y_M_objectHeldAgainst.2.1 51 = .ok (.aload 4, 2) := by decide +kernel
theorem d_M_objectHeldAgainst_53 : decode y_M_objectHeldAgainst.2.1 53 = .ok (.ifnull 23, 3) := by decide +kernel
theorem d_M_objectHeldAgainst_56 : decode y_M_objectHeldAgainst.2.1 56 = .ok (.aload 4, 2) := by decide +kernel
theorem d_M_objectHeldAgainst_58 : decode y_M_objectHeldAgainst.2.1 58 = .ok (.aload_n 1, 1) := by decide +kernel
theorem d_M_objectHeldAgainst_59 : decode y_M_objectHeldAgainst.2.1 59 = .ok (.invokevirtual 113, 3) := by decide +kernel
theorem d_M_objectHeldAgainst_62 : decode y_M_objectHeldAgainst.2.1 62 = .ok (.invokevirtual 116, 3) := by decide +kernel
theorem d_M_objectHeldAgainst_65 : decode y_M_objectHeldAgainst.2.1 65 = .ok (.ifCond .eq 11, 3) := by decide +kernel
theorem d_M_objectHeldAgainst_68 : decode y_M_objectHeldAgainst.2.1 68 = .ok (.aload_n 2, 1) := by decide +kernel
theorem d_M_objectHeldAgainst_69 : decode y_M_objectHeldAgainst.2.1 69 = .ok (.iconst 0, 1) := by decide +kernel
theorem d_M_objectHeldAgainst_70 : decode y_M_objectHeldAgainst.2.1 70 = .ok (.invokevirtual 107, 3) := by decide +kernel
theorem d_M_objectHeldAgainst_73 : decode y_M_objectHeldAgainst.2.1 73 = .ok (.goto 4, 3) := by decide +kernel
theorem d_M_objectHeldAgainst_76 : decode y_M_objectHeldAgainst.2.1 76 = .ok (.iconst 0, 1) := by decide +kernel
theorem d_M_objectHeldAgainst_77 : decode y_M_objectHeldAgainst.2.1 77 = .ok (.ireturn, 1) := by decide +kernel
theorem d_S_top_0 : decode y_S_top.2.1 0 = .ok (.aload_n 0, 1) := by decide +kernel
theorem d_S_top_1 : decode y_S_top.2.1 1 = .ok (.getfield 22, 3) := by decide +kernel
theorem d_S_top_4 : decode y_S_top.2.1 4 = .ok (.iconst 1, 1) := by decide +kernel
theorem d_S_top_5 : decode y_S_top.2.1 5 = .ok (.if_icmp .lt 26, 3) := by decide +kernel
theorem d_S_top_8 : decode y_S_top.2.1 8 = .ok (.aload_n 0, 1) := by decide +kernel
theorem d_S_top_9 : decode y_S_top.2.1 9 = .ok (.getfield 22, 3) := by decide +kernel
theorem d_S_top_12 : decode y_S_top.2.1 12 = .ok (.bipush 30, 2) := by decide +kernel
theorem d_S_top_14 : decode y_S_top.2.1 14 = .ok (.if_icmp .gt 17, 3) := by decide +kernel
theorem d_S_top_17 : decode y_S_top.2.1 17 = .ok (.aload_n 0, 1) := by decide +kernel
theorem d_S_top_18 : decode y_S_top.2.1 18 = .ok (.getfield 11, 3) := by decide +kernel
theorem d_S_top_21 : decode y_S_top.2.1 21 = .ok (.aload_n 0, 1) := by decide +kernel
theorem d_S_top_22 : decode y_S_top.2.1 22 = .ok (.getfield 22, 3) := by decide +kernel
theorem d_S_top_25 : decode y_S_top.2.1 25 = .ok (.iconst 1, 1) := by decide +kernel
theorem d_S_top_26 : decode y_S_top.2.1 26 = .ok (.isub, 1) := by decide +kernel
theorem d_S_top_27 : decode y_S_top.2.1 27 = .ok (.aaload, 1) := by decide +kernel
theorem d_S_top_28 : decode y_S_top.2.1 28 = .ok (.goto 4, 3) := by decide +kernel
theorem d_S_top_31 : decode y_S_top.2.1 31 = .ok (.aconst_null, 1) := by decide +kernel
theorem d_S_top_32 : decode y_S_top.2.1 32 = .ok (.areturn, 1) := by decide +kernel
theorem d_F_ownCode_0 : decode y_F_ownCode.2.1 0 = .ok (.aload_n 0, 1) := by decide +kernel
theorem d_F_ownCode_1 : decode y_F_ownCode.2.1 1 = .ok (.getfield 18, 3) := by decide +kernel
theorem d_F_ownCode_4 : decode y_F_ownCode.2.1 4 = .ok (.areturn, 1) := by decide +kernel
theorem d_F_at_0 : decode y_F_at.2.1 0 = .ok (.aload_n 0, 1) := by decide +kernel
theorem d_F_at_1 : decode y_F_at.2.1 1 = .ok (.getfield 26, 3) := by decide +kernel
theorem d_F_at_4 : decode y_F_at.2.1 4 = .ok (.ireturn, 1) := by decide +kernel
theorem d_F_peek_0 : decode y_F_peek.2.1 0 = .ok (.iload_n 1, 1) := by decide +kernel
theorem d_F_peek_1 : decode y_F_peek.2.1 1 = .ok (.ifCond .lt 27, 3) := by decide +kernel
theorem d_F_peek_4 : decode y_F_peek.2.1 4 = .ok (.iload_n 1, 1) := by decide +kernel
theorem d_F_peek_5 : decode y_F_peek.2.1 5 = .ok (.aload_n 0, 1) := by decide +kernel
theorem d_F_peek_6 : decode y_F_peek.2.1 6 = .ok (.getfield 22, 3) := by decide +kernel
theorem d_F_peek_9 : decode y_F_peek.2.1 9 = .ok (.if_icmp .ge 19, 3) := by decide +kernel
theorem d_F_peek_12 : decode y_F_peek.2.1 12 = .ok (.aload_n 0, 1) := by decide +kernel
theorem d_F_peek_13 : decode y_F_peek.2.1 13 = .ok (.getfield 9, 3) := by decide +kernel
theorem d_F_peek_16 : decode y_F_peek.2.1 16 = .ok (.aload_n 0, 1) := by decide +kernel
theorem d_F_peek_17 : decode y_F_peek.2.1 17 = .ok (.getfield 22, 3) := by decide +kernel
theorem d_F_peek_20 : decode y_F_peek.2.1 20 = .ok (.iconst 1, 1) := by decide +kernel
theorem d_F_peek_21 : decode y_F_peek.2.1 21 = .ok (.isub, 1) := by decide +kernel
theorem d_F_peek_22 : decode y_F_peek.2.1 22 = .ok (.iload_n 1, 1) := by decide +kernel
theorem d_F_peek_23 : decode y_F_peek.2.1 23 = .ok (.isub, 1) := by decide +kernel
theorem d_F_peek_24 : decode y_F_peek.2.1 24 = .ok (.iaload, 1) := by decide +kernel
theorem d_F_peek_25 : decode y_F_peek.2.1 25 = .ok (.goto 4, 3) := by decide +kernel
theorem d_F_peek_28 : decode y_F_peek.2.1 28 = .ok (.iconst 0, 1) := by decide +kernel
theorem d_F_peek_29 : decode y_F_peek.2.1 29 = .ok (.ireturn, 1) := by decide +kernel
theorem d_H_find_0 : decode y_H_find.2.1 0 = .ok (.iload_n 1, 1) := by decide +kernel
theorem d_H_find_1 : decode y_H_find.2.1 1 = .ok (.iconst 1, 1) := by decide +kernel
theorem d_H_find_2 : decode y_H_find.2.1 2 = .ok (.if_icmp .lt 22, 3) := by decide +kernel
theorem d_H_find_5 : decode y_H_find.2.1 5 = .ok (.iload_n 1, 1) := by decide +kernel
theorem d_H_find_6 : decode y_H_find.2.1 6 = .ok (.aload_n 0, 1) := by decide +kernel
theorem d_H_find_7 : decode y_H_find.2.1 7 = .ok (.getfield 21, 3) := by decide +kernel
theorem d_H_find_10 : decode y_H_find.2.1 10 = .ok (.if_icmp .gt 14, 3) := by decide +kernel
theorem d_H_find_13 : decode y_H_find.2.1 13 = .ok (.aload_n 0, 1) := by decide +kernel
theorem d_H_find_14 : decode y_H_find.2.1 14 = .ok (.getfield 11, 3) := by decide +kernel
theorem d_H_find_17 : decode y_H_find.2.1 17 = .ok (.iload_n 1, 1) := by decide +kernel
theorem d_H_find_18 : decode y_H_find.2.1 18 = .ok (.iconst 1, 1) := by decide +kernel
theorem d_H_find_19 : decode y_H_find.2.1 19 = .ok (.isub, 1) := by decide +kernel
theorem d_H_find_20 : decode y_H_find.2.1 20 = .ok (.aaload, 1) := by decide +kernel
theorem d_H_find_21 : decode y_H_find.2.1 21 = .ok (.goto 4, 3) := by decide +kernel
theorem d_H_find_24 : decode y_H_find.2.1 24 = .ok (.aconst_null, 1) := by decide +kernel
theorem d_H_find_25 : decode y_H_find.2.1 25 = .ok (.areturn, 1) := by decide +kernel
theorem d_S_number_0 : decode y_S_number.2.1 0 = .ok (.aload_n 0, 1) := by decide +kernel
theorem d_S_number_1 : decode y_S_number.2.1 1 = .ok (.getfield 17, 3) := by decide +kernel
theorem d_S_number_4 : decode y_S_number.2.1 4 = .ok (.ireturn, 1) := by decide +kernel
theorem d_T_isHeldByAnotherThan_0 : decode y_T_isHeldByAnotherThan.2.1 0 = .ok (.aload_n 0, 1) := by decide +kernel
theorem d_T_isHeldByAnotherThan_1 : decode y_T_isHeldByAnotherThan.2.1 1 = .ok (.getfield 22, 3) := by decide +kernel
theorem d_T_isHeldByAnotherThan_4 : decode y_T_isHeldByAnotherThan.2.1 4 = .ok (.iconst (-1), 1) := by decide +kernel
theorem d_T_isHeldByAnotherThan_5 : decode y_T_isHeldByAnotherThan.2.1 5 = .ok (.if_icmp .eq 15, 3) := by decide +kernel
theorem d_T_isHeldByAnotherThan_8 : decode y_T_isHeldByAnotherThan.2.1 8 = .ok (.aload_n 0, 1) := by decide +kernel
theorem d_T_isHeldByAnotherThan_9 : decode y_T_isHeldByAnotherThan.2.1 9 = .ok (.getfield 22, 3) := by decide +kernel
theorem d_T_isHeldByAnotherThan_12 : decode y_T_isHeldByAnotherThan.2.1 12 = .ok (.iload_n 1, 1) := by decide +kernel
theorem d_T_isHeldByAnotherThan_13 : decode y_T_isHeldByAnotherThan.2.1 13 = .ok (.if_icmp .eq 7, 3) := by decide +kernel
theorem d_T_isHeldByAnotherThan_16 : decode y_T_isHeldByAnotherThan.2.1 16 = .ok (.iconst 1, 1) := by decide +kernel
theorem d_T_isHeldByAnotherThan_17 : decode y_T_isHeldByAnotherThan.2.1 17 = .ok (.goto 4, 3) := by decide +kernel
theorem d_T_isHeldByAnotherThan_20 : decode y_T_isHeldByAnotherThan.2.1 20 = .ok (.iconst 0, 1) := by decide +kernel
theorem d_T_isHeldByAnotherThan_21 : decode y_T_isHeldByAnotherThan.2.1 21 = .ok (.ireturn, 1) := by decide +kernel
theorem d_H_isFull_0 : decode y_H_isFull.2.1 0 = .ok (.aload_n 0, 1) := by decide +kernel
theorem d_H_isFull_1 : decode y_H_isFull.2.1 1 = .ok (.getfield 21, 3) := by decide +kernel
theorem d_H_isFull_4 : decode y_H_isFull.2.1 4 = .ok (.sipush 2000, 3) := by decide +kernel
theorem d_H_isFull_7 : decode y_H_isFull.2.1 7 = .ok (.if_icmp .ge 12, 3) := by decide +kernel
theorem d_H_isFull_10 : decode y_H_isFull.2.1 10 = .ok (.aload_n 0, 1) := by decide +kernel
theorem d_H_isFull_11 : decode y_H_isFull.2.1 11 = .ok (.getfield 25, 3) := by decide +kernel
theorem d_H_isFull_14 : decode y_H_isFull.2.1 14 = .ok (.ldc 28, 2) := by decide +kernel
theorem d_H_isFull_16 : decode y_H_isFull.2.1 16 = .ok (.if_icmp .lt 7, 3) := by decide +kernel
theorem d_H_isFull_19 : decode y_H_isFull.2.1 19 = .ok (.iconst 1, 1) := by decide +kernel
theorem d_H_isFull_20 : decode y_H_isFull.2.1 20 = .ok (.goto 4, 3) := by decide +kernel
theorem d_H_isFull_23 : decode y_H_isFull.2.1 23 = .ok (.iconst 0, 1) := by decide +kernel
theorem d_H_isFull_24 : decode y_H_isFull.2.1 24 = .ok (.ireturn, 1) := by decide +kernel
theorem d_S_stop_0 : decode y_S_stop.2.1 0 = .ok (.aload_n 0, 1) := by decide +kernel
theorem d_S_stop_1 : decode y_S_stop.2.1 1 = .ok (.iconst 1, 1) := by decide +kernel
theorem d_S_stop_2 : decode y_S_stop.2.1 2 = .ok (.putfield 34, 3) := by decide +kernel
theorem d_S_stop_5 : decode y_S_stop.2.1 5 = .ok (.return_, 1) := by decide +kernel
theorem d_M_step_0 : decode y_M_step.2.1 0 = .ok (.aload_n 1, 1) := by decide +kernel
theorem d_M_step_1 : decode y_M_step.2.1 1 = .ok (.invokevirtual 90, 3) := by decide +kernel
theorem d_M_step_4 : decode y_M_step.2.1 4 = .ok (.astore_n 2, 1) := by decide +kernel
theorem d_M_step_5 : decode y_M_step.2.1 5 = .ok (.aload_n 2, 1) := by decide +kernel
theorem d_M_step_6 : decode y_M_step.2.1 6 = .ok (.ifnonnull 7, 3) := by decide +kernel
theorem d_M_step_9 : decode y_M_step.2.1 9 = .ok (.aconst_null, 1) := by decide +kernel
theorem d_M_step_10 : decode y_M_step.2.1 10 = .ok (.goto 7, 3) := by decide +kernel
theorem d_M_step_13 : decode y_M_step.2.1 13 = .ok (.aload_n 2, 1) := by decide +kernel
theorem d_M_step_14 : decode y_M_step.2.1 14 = .ok (.invokevirtual 94, 3) := by decide +kernel
theorem d_M_step_17 : decode y_M_step.2.1 17 = .ok (.astore_n 3, 1) := by decide +kernel
theorem d_M_step_18 : decode y_M_step.2.1 18 = .ok (.aload_n 3, 1) := by decide +kernel
theorem d_M_step_19 : decode y_M_step.2.1 19 = .ok (.ifnonnull 4, 3) := by decide +kernel
theorem d_M_step_22 : decode y_M_step.2.1 22 = .ok (.return_, 1) := by decide +kernel
theorem d_M_step_23 : decode y_M_step.2.1 23 = .ok (.aload_n 1, 1) := by decide +kernel
theorem d_M_step_24 : decode y_M_step.2.1 24 = .ok (.invokevirtual 125, 3) := by decide +kernel
theorem d_M_step_27 : decode y_M_step.2.1 27 = .ok (.aload_n 3, 1) := by decide +kernel
theorem d_M_step_28 : decode y_M_step.2.1 28 = .ok (.aload_n 2, 1) := by decide +kernel
theorem d_M_step_29 : decode y_M_step.2.1 29 = .ok (.invokevirtual 100, 3) := by decide +kernel
theorem d_M_step_32 : decode y_M_step.2.1 32 = .ok (.invokevirtual 103, 3) := by decide +kernel
theorem d_M_step_35 : decode y_M_step.2.1 35 = .ok (.istore 4, 2) := by decide +kernel
theorem d_M_step_37 : decode y_M_step.2.1 37 = .ok (.aload_n 0, 1) := by decide +kernel
theorem d_M_step_38 : decode y_M_step.2.1 38 = .ok (.aload_n 1, 1) := by decide +kernel
theorem d_M_step_39 : decode y_M_step.2.1 39 = .ok (.aload_n 2, 1) := by decide +kernel
theorem d_M_step_40 : decode y_M_step.2.1 40 = .ok (.iload 4, 2) := by decide +kernel
theorem d_M_step_42 : decode y_M_step.2.1 42 = .ok (.invokevirtual 128, 3) := by decide +kernel
theorem d_M_step_45 : decode y_M_step.2.1 45 = .ok (.istore 5, 2) := by decide +kernel
theorem d_M_step_47 : decode y_M_step.2.1 47 = .ok (.iload 5, 2) := by decide +kernel
theorem d_M_step_49 : decode y_M_step.2.1 49 = .ok (.ifCond .ne 22, 3) := by decide +kernel
theorem d_M_step_52 : decode y_M_step.2.1 52 = .ok (.aload_n 0, 1) := by decide +kernel
theorem d_M_step_53 : decode y_M_step.2.1 53 = .ok (.aload_n 1, 1) := by decide +kernel
theorem d_M_step_54 : decode y_M_step.2.1 54 = .ok (.aload_n 2, 1) := by decide +kernel
theorem d_M_step_55 : decode y_M_step.2.1 55 = .ok (.iload 4, 2) := by decide +kernel
theorem d_M_step_57 : decode y_M_step.2.1 57 = .ok (.aload_n 3, 1) := by decide +kernel
theorem d_M_step_58 : decode y_M_step.2.1 58 = .ok (.aload_n 2, 1) := by decide +kernel
theorem d_M_step_59 : decode y_M_step.2.1 59 = .ok (.invokevirtual 100, 3) := by decide +kernel
theorem d_M_step_62 : decode y_M_step.2.1 62 = .ok (.invokevirtual 132, 3) := by decide +kernel
theorem d_M_step_65 : decode y_M_step.2.1 65 = .ok (.invokevirtual 135, 3) := by decide +kernel
theorem d_M_step_68 : decode y_M_step.2.1 68 = .ok (.goto 17, 3) := by decide +kernel
theorem d_M_step_71 : decode y_M_step.2.1 71 = .ok (.aload_n 0, 1) := by decide +kernel
theorem d_M_step_72 : decode y_M_step.2.1 72 = .ok (.aload_n 1, 1) := by decide +kernel
theorem d_M_step_73 : decode y_M_step.2.1 73 = .ok (.aload_n 0, 1) := by decide +kernel
theorem d_M_step_74 : decode y_M_step.2.1 74 = .ok (.getfield 25, 3) := by decide +kernel
theorem d_M_step_77 : decode y_M_step.2.1 77 = .ok (.iload 5, 2) := by decide +kernel
theorem d_M_step_79 : decode y_M_step.2.1 79 = .ok (.invokevirtual 139, 3) := by decide +kernel
theorem d_M_step_82 : decode y_M_step.2.1 82 = .ok (.invokevirtual 142, 3) := by decide +kernel
theorem d_M_step_85 : decode y_M_step.2.1 85 = .ok (.return_, 1) := by decide +kernel
theorem d_S_countStep_0 : decode y_S_countStep.2.1 0 = .ok (.aload_n 0, 1) := by decide +kernel
theorem d_S_countStep_1 : decode y_S_countStep.2.1 1 = .ok (.dup, 1) := by decide +kernel
theorem d_S_countStep_2 : decode y_S_countStep.2.1 2 = .ok (.getfield 25, 3) := by decide +kernel
theorem d_S_countStep_5 : decode y_S_countStep.2.1 5 = .ok (.iconst 1, 1) := by decide +kernel
theorem d_S_countStep_6 : decode y_S_countStep.2.1 6 = .ok (.iadd, 1) := by decide +kernel
theorem d_S_countStep_7 : decode y_S_countStep.2.1 7 = .ok (.putfield 25, 3) := by decide +kernel
theorem d_S_countStep_10 : decode y_S_countStep.2.1 10 = .ok (.aload_n 0, 1) := by decide +kernel
theorem d_S_countStep_11 : decode y_S_countStep.2.1 11 = .ok (.iconst 0, 1) := by decide +kernel
theorem d_S_countStep_12 : decode y_S_countStep.2.1 12 = .ok (.putfield 34, 3) := by decide +kernel
theorem d_S_countStep_15 : decode y_S_countStep.2.1 15 = .ok (.return_, 1) := by decide +kernel
theorem d_M_failureOf_0 : decode y_M_failureOf.2.1 0 = .ok (.iload_n 3, 1) := by decide +kernel
theorem d_M_failureOf_1 : decode y_M_failureOf.2.1 1 = .ok (.tableswitch 157 7 24 #[87, 157, 157, 157, 157, 157, 157, 157, 157, 104, 116, 141, 104, 104, 128, 157, 104, 116], 87) := by decide +kernel
theorem d_M_failureOf_88 : decode y_M_failureOf.2.1 88 = .ok (.aload_n 2, 1) := by decide +kernel
theorem d_M_failureOf_89 : decode y_M_failureOf.2.1 89 = .ok (.iconst 0, 1) := by decide +kernel
theorem d_M_failureOf_90 : decode y_M_failureOf.2.1 90 = .ok (.invokevirtual 107, 3) := by decide +kernel
theorem d_M_failureOf_93 : decode y_M_failureOf.2.1 93 = .ok (.ifCond .ne 8, 3) := by decide +kernel
theorem d_M_failureOf_96 : decode y_M_failureOf.2.1 96 = .ok (.bipush 7, 2) := by decide +kernel
theorem d_M_failureOf_98 : decode y_M_failureOf.2.1 98 = .ok (.goto 61, 3) := by decide +kernel
theorem d_M_failureOf_101 : decode y_M_failureOf.2.1 101 = .ok (.iconst 0, 1) := by decide +kernel
theorem d_M_failureOf_102 : decode y_M_failureOf.2.1 102 = .ok (.goto 57, 3) := by decide +kernel
theorem d_M_failureOf_105 : decode y_M_failureOf.2.1 105 = .ok (.aload_n 0, 1) := by decide +kernel
theorem d_M_failureOf_106 : decode y_M_failureOf.2.1 106 = .ok (.aload_n 2, 1) := by decide +kernel
theorem d_M_failureOf_107 : decode y_M_failureOf.2.1 107 = .ok (.iconst 0, 1) := by decide +kernel
theorem d_M_failureOf_108 : decode y_M_failureOf.2.1 108 = .ok (.invokevirtual 107, 3) := by decide +kernel
theorem d_M_failureOf_111 : decode y_M_failureOf.2.1 111 = .ok (.invokevirtual 146, 3) := by decide +kernel
theorem d_M_failureOf_114 : decode y_M_failureOf.2.1 114 = .ok (.goto 45, 3) := by decide +kernel
theorem d_M_failureOf_117 : decode y_M_failureOf.2.1 117 = .ok (.aload_n 0, 1) := by decide +kernel
theorem d_M_failureOf_118 : decode y_M_failureOf.2.1 118 = .ok (.aload_n 2, 1) := by decide +kernel
theorem d_M_failureOf_119 : decode y_M_failureOf.2.1 119 = .ok (.iconst 1, 1) := by decide +kernel
theorem d_M_failureOf_120 : decode y_M_failureOf.2.1 120 = .ok (.invokevirtual 107, 3) := by decide +kernel
theorem d_M_failureOf_123 : decode y_M_failureOf.2.1 123 = .ok (.invokevirtual 146, 3) := by decide +kernel
theorem d_M_failureOf_126 : decode y_M_failureOf.2.1 126 = .ok (.goto 33, 3) := by decide +kernel
theorem d_M_failureOf_129 : decode y_M_failureOf.2.1 129 = .ok (.aload_n 0, 1) := by decide +kernel
theorem d_M_failureOf_130 : decode y_M_failureOf.2.1 130 = .ok (.aload_n 1, 1) := by decide +kernel
theorem d_M_failureOf_131 : decode y_M_failureOf.2.1 131 = .ok (.aload_n 2, 1) := by decide +kernel
theorem d_M_failureOf_132 : decode y_M_failureOf.2.1 132 = .ok (.iconst 0, 1) := by decide +kernel
theorem d_M_failureOf_133 : decode y_M_failureOf.2.1 133 = .ok (.invokevirtual 107, 3) := by decide +kernel
theorem d_M_failureOf_136 : decode y_M_failureOf.2.1 136 = .ok (.invokevirtual 149, 3) := by decide +kernel
theorem d_M_failureOf_139 : decode y_M_failureOf.2.1 139 = .ok (.goto 20, 3) := by decide +kernel
theorem d_M_failureOf_142 : decode y_M_failureOf.2.1 142 = .ok (.aload_n 1, 1) := by decide +kernel
theorem d_M_failureOf_143 : decode y_M_failureOf.2.1 143 = .ok (.invokevirtual 153, 3) := by decide +kernel
theorem d_M_failureOf_146 : decode y_M_failureOf.2.1 146 = .ok (.ifCond .eq 8, 3) := by decide +kernel
theorem d_M_failureOf_149 : decode y_M_failureOf.2.1 149 = .ok (.bipush 9, 2) := by decide +kernel
theorem d_M_failureOf_151 : decode y_M_failureOf.2.1 151 = .ok (.goto 8, 3) := by decide +kernel
theorem d_M_failureOf_154 : decode y_M_failureOf.2.1 154 = .ok (.iconst 0, 1) := by decide +kernel
theorem d_M_failureOf_155 : decode y_M_failureOf.2.1 155 = .ok (.goto 4, 3) := by decide +kernel
theorem d_M_failureOf_158 : decode y_M_failureOf.2.1 158 = .ok (.iconst 0, 1) := by decide +kernel
theorem d_M_failureOf_159 : decode y_M_failureOf.2.1 159 = .ok (.ireturn, 1) := by decide +kernel
theorem d_M_nullFailureOf_0 : decode y_M_nullFailureOf.2.1 0 = .ok (.aload_n 0, 1) := by decide +kernel
theorem d_M_nullFailureOf_1 : decode y_M_nullFailureOf.2.1 1 = .ok (.getfield 25, 3) := by decide +kernel
theorem d_M_nullFailureOf_4 : decode y_M_nullFailureOf.2.1 4 = .ok (.iload_n 1, 1) := by decide +kernel
theorem d_M_nullFailureOf_5 : decode y_M_nullFailureOf.2.1 5 = .ok (.invokevirtual 110, 3) := by decide +kernel
theorem d_M_nullFailureOf_8 : decode y_M_nullFailureOf.2.1 8 = .ok (.ifnonnull 8, 3) := by decide +kernel
theorem d_M_nullFailureOf_11 : decode y_M_nullFailureOf.2.1 11 = .ok (.bipush 6, 2) := by decide +kernel
theorem d_M_nullFailureOf_13 : decode y_M_nullFailureOf.2.1 13 = .ok (.goto 4, 3) := by decide +kernel
theorem d_M_nullFailureOf_16 : decode y_M_nullFailureOf.2.1 16 = .ok (.iconst 0, 1) := by decide +kernel
theorem d_M_nullFailureOf_17 : decode y_M_nullFailureOf.2.1 17 = .ok (.ireturn, 1) := by decide +kernel
theorem d_M_failureOfLeave_0 : decode y_M_failureOfLeave.2.1 0 = .ok (.aload_n 0, 1) := by decide +kernel
theorem d_M_failureOfLeave_1 : decode y_M_failureOfLeave.2.1 1 = .ok (.getfield 25, 3) := by decide +kernel
theorem d_M_failureOfLeave_4 : decode y_M_failureOfLeave.2.1 4 = .ok (.iload_n 2, 1) := by decide +kernel
theorem d_M_failureOfLeave_5 : decode y_M_failureOfLeave.2.1 5 = .ok (.invokevirtual 110, 3) := by decide +kernel
theorem d_M_failureOfLeave_8 : decode y_M_failureOfLeave.2.1 8 = .ok (.astore_n 3, 1) := by decide +kernel
theorem d_M_failureOfLeave_9 : decode y_M_failureOfLeave.2.1 9 = .ok (.aload_n 3, 1) := by decide +kernel
theorem d_M_failureOfLeave_10 : decode y_M_failureOfLeave.2.1 10 = .ok (.ifnonnull 6, 3) := by decide +kernel
theorem d_M_failureOfLeave_13 : decode y_M_failureOfLeave.2.1 13 = .ok (.bipush 6, 2) := by decide +kernel
theorem d_M_failureOfLeave_15 : decode y_M_failureOfLeave.2.1 15 = .ok (.ireturn, 1) := by decide +kernel
theorem d_M_failureOfLeave_16 : decode y_M_failureOfLeave.2.1 16 = .ok (.aload_n 3, 1) := by decide +kernel
theorem d_M_failureOfLeave_17 : decode y_M_failureOfLeave.2.1 17 = .ok (.aload_n 1, 1) := by decide +kernel
theorem d_M_failureOfLeave_18 : decode y_M_failureOfLeave.2.1 18 = .ok (.invokevirtual 113, 3) := by decide +kernel
theorem d_M_failureOfLeave_21 : decode y_M_failureOfLeave.2.1 21 = .ok (.invokevirtual 156, 3) := by decide +kernel
theorem d_M_failureOfLeave_24 : decode y_M_failureOfLeave.2.1 24 = .ok (.ifCond .eq 7, 3) := by decide +kernel
theorem d_M_failureOfLeave_27 : decode y_M_failureOfLeave.2.1 27 = .ok (.iconst 0, 1) := by decide +kernel
theorem d_M_failureOfLeave_28 : decode y_M_failureOfLeave.2.1 28 = .ok (.goto 5, 3) := by decide +kernel
theorem d_M_failureOfLeave_31 : decode y_M_failureOfLeave.2.1 31 = .ok (.bipush 8, 2) := by decide +kernel
theorem d_M_failureOfLeave_33 : decode y_M_failureOfLeave.2.1 33 = .ok (.ireturn, 1) := by decide +kernel
theorem d_T_isHeldBy_0 : decode y_T_isHeldBy.2.1 0 = .ok (.aload_n 0, 1) := by decide +kernel
theorem d_T_isHeldBy_1 : decode y_T_isHeldBy.2.1 1 = .ok (.getfield 22, 3) := by decide +kernel
theorem d_T_isHeldBy_4 : decode y_T_isHeldBy.2.1 4 = .ok (.iload_n 1, 1) := by decide +kernel
theorem d_T_isHeldBy_5 : decode y_T_isHeldBy.2.1 5 = .ok (.if_icmp .ne 7, 3) := by decide +kernel
theorem d_T_isHeldBy_8 : decode y_T_isHeldBy.2.1 8 = .ok (.iconst 1, 1) := by decide +kernel
theorem d_T_isHeldBy_9 : decode y_T_isHeldBy.2.1 9 = .ok (.goto 4, 3) := by decide +kernel
theorem d_T_isHeldBy_12 : decode y_T_isHeldBy.2.1 12 = .ok (.iconst 0, 1) := by decide +kernel
theorem d_T_isHeldBy_13 : decode y_T_isHeldBy.2.1 13 = .ok (.ireturn, 1) := by decide +kernel
theorem d_S_hasAllFrames_0 : decode y_S_hasAllFrames.2.1 0 = .ok (.aload_n 0, 1) := by decide +kernel
theorem d_S_hasAllFrames_1 : decode y_S_hasAllFrames.2.1 1 = .ok (.getfield 22, 3) := by decide +kernel
theorem d_S_hasAllFrames_4 : decode y_S_hasAllFrames.2.1 4 = .ok (.bipush 30, 2) := by decide +kernel
theorem d_S_hasAllFrames_6 : decode y_S_hasAllFrames.2.1 6 = .ok (.if_icmp .lt 7, 3) := by decide +kernel
theorem d_S_hasAllFrames_9 : decode y_S_hasAllFrames.2.1 9 = .ok (.iconst 1, 1) := by decide +kernel
theorem d_S_hasAllFrames_10 : decode y_S_hasAllFrames.2.1 10 = .ok (.goto 4, 3) := by decide +kernel
theorem d_S_hasAllFrames_13 : decode y_S_hasAllFrames.2.1 13 = .ok (.iconst 0, 1) := by decide +kernel
theorem d_S_hasAllFrames_14 : decode y_S_hasAllFrames.2.1 14 = .ok (.ireturn, 1) := by decide +kernel
theorem d_M_perform_0 : decode y_M_perform.2.1 0 = .ok (.iload_n 3, 1) := by decide +kernel
theorem d_M_perform_1 : decode y_M_perform.2.1 1 = .ok (.tableswitch 215 4 24 #[172, 172, 172, 172, 172, 215, 215, 99, 108, 108, 215, 199, 199, 199, 133, 151, 199, 199, 163, 199, 199], 99) := by decide +kernel
theorem d_M_perform_100 : decode y_M_perform.2.1 100 = .ok (.aload_n 2, 1) := by decide +kernel
theorem d_M_perform_101 : decode y_M_perform.2.1 101 = .ok (.iload 4, 2) := by decide +kernel
theorem d_M_perform_103 : decode y_M_perform.2.1 103 = .ok (.invokevirtual 159, 3) := by decide +kernel
theorem d_M_perform_106 : decode y_M_perform.2.1 106 = .ok (.goto 122, 3) := by decide +kernel
theorem d_M_perform_109 : decode y_M_perform.2.1 109 = .ok (.aload_n 2, 1) := by decide +kernel
theorem d_M_perform_110 : decode y_M_perform.2.1 110 = .ok (.aload_n 2, 1) := by decide +kernel
theorem d_M_perform_111 : decode y_M_perform.2.1 111 = .ok (.invokevirtual 162, 3) := by decide +kernel
theorem d_M_perform_114 : decode y_M_perform.2.1 114 = .ok (.ifCond .ne 8, 3) := by decide +kernel
theorem d_M_perform_117 : decode y_M_perform.2.1 117 = .ok (.iload 4, 2) := by decide +kernel
theorem d_M_perform_119 : decode y_M_perform.2.1 119 = .ok (.goto 9, 3) := by decide +kernel
theorem d_M_perform_122 : decode y_M_perform.2.1 122 = .ok (.aload_n 2, 1) := by decide +kernel
theorem d_M_perform_123 : decode y_M_perform.2.1 123 = .ok (.invokevirtual 100, 3) := by decide +kernel
theorem d_M_perform_126 : decode y_M_perform.2.1 126 = .ok (.iconst 1, 1) := by decide +kernel
theorem d_M_perform_127 : decode y_M_perform.2.1 127 = .ok (.iadd, 1) := by decide +kernel
theorem d_M_perform_128 : decode y_M_perform.2.1 128 = .ok (.invokevirtual 159, 3) := by decide +kernel
theorem d_M_perform_131 : decode y_M_perform.2.1 131 = .ok (.goto 97, 3) := by decide +kernel
theorem d_M_perform_134 : decode y_M_perform.2.1 134 = .ok (.aload_n 0, 1) := by decide +kernel
theorem d_M_perform_135 : decode y_M_perform.2.1 135 = .ok (.aload_n 1, 1) := by decide +kernel
theorem d_M_perform_136 : decode y_M_perform.2.1 136 = .ok (.aload_n 2, 1) := by decide +kernel
theorem d_M_perform_137 : decode y_M_perform.2.1 137 = .ok (.aload_n 0, 1) := by decide +kernel
theorem d_M_perform_138 : decode y_M_perform.2.1 138 = .ok (.getfield 17, 3) := by decide +kernel
theorem d_M_perform_141 : decode y_M_perform.2.1 141 = .ok (.iload 4, 2) := by decide +kernel
theorem d_M_perform_143 : decode y_M_perform.2.1 143 = .ok (.invokevirtual 33, 3) := by decide +kernel
theorem d_M_perform_146 : decode y_M_perform.2.1 146 = .ok (.invokevirtual 165, 3) := by decide +kernel
theorem d_M_perform_149 : decode y_M_perform.2.1 149 = .ok (.goto 79, 3) := by decide +kernel
theorem d_M_perform_152 : decode y_M_perform.2.1 152 = .ok (.aload_n 0, 1) := by decide +kernel
theorem d_M_perform_153 : decode y_M_perform.2.1 153 = .ok (.aload_n 1, 1) := by decide +kernel
theorem d_M_perform_154 : decode y_M_perform.2.1 154 = .ok (.aload_n 2, 1) := by decide +kernel
theorem d_M_perform_155 : decode y_M_perform.2.1 155 = .ok (.invokevirtual 162, 3) := by decide +kernel
theorem d_M_perform_158 : decode y_M_perform.2.1 158 = .ok (.invokevirtual 142, 3) := by decide +kernel
theorem d_M_perform_161 : decode y_M_perform.2.1 161 = .ok (.goto 67, 3) := by decide +kernel
theorem d_M_perform_164 : decode y_M_perform.2.1 164 = .ok (.aload_n 0, 1) := by decide +kernel
theorem d_M_perform_165 : decode y_M_perform.2.1 165 = .ok (.aload_n 1, 1) := by decide +kernel
theorem d_M_perform_166 : decode y_M_perform.2.1 166 = .ok (.aload_n 2, 1) := by decide +kernel
