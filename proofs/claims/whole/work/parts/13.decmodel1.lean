theorem d_m_isGoodStep_430 : decode y_m_isGoodStep.2.1 430 = .ok (.iconst 2, 1) := by decide +kernel
theorem d_m_isGoodStep_431 : decode y_m_isGoodStep.2.1 431 = .ok (.invokevirtual 106, 3) := by decide +kernel
theorem d_m_isGoodStep_434 : decode y_m_isGoodStep.2.1 434 = .ok (.ifCond .eq 7, 3) := by decide +kernel
theorem d_m_isGoodStep_437 : decode y_m_isGoodStep.2.1 437 = .ok (.iconst 1, 1) := by decide +kernel
theorem d_m_isGoodStep_438 : decode y_m_isGoodStep.2.1 438 = .ok (.goto 4, 3) := by decide +kernel
theorem d_m_isGoodStep_441 : decode y_m_isGoodStep.2.1 441 = .ok (.iconst 0, 1) := by decide +kernel
theorem d_m_isGoodStep_442 : decode y_m_isGoodStep.2.1 442 = .ok (.ireturn, 1) := by decide +kernel
theorem d_m_isGoodStep_443 : decode y_m_isGoodStep.2.1 443 = .ok (.aload_n 0, 1) := by decide +kernel
theorem d_m_isGoodStep_444 : decode y_m_isGoodStep.2.1 444 = .ok (.iconst 2, 1) := by decide +kernel
theorem d_m_isGoodStep_445 : decode y_m_isGoodStep.2.1 445 = .ok (.invokevirtual 106, 3) := by decide +kernel
theorem d_m_isGoodStep_448 : decode y_m_isGoodStep.2.1 448 = .ok (.ireturn, 1) := by decide +kernel
theorem d_m_isGoodStep_449 : decode y_m_isGoodStep.2.1 449 = .ok (.aload_n 0, 1) := by decide +kernel
theorem d_m_isGoodStep_450 : decode y_m_isGoodStep.2.1 450 = .ok (.aload_n 1, 1) := by decide +kernel
theorem d_m_isGoodStep_451 : decode y_m_isGoodStep.2.1 451 = .ok (.getfield 117, 3) := by decide +kernel
theorem d_m_isGoodStep_454 : decode y_m_isGoodStep.2.1 454 = .ok (.invokevirtual 106, 3) := by decide +kernel
theorem d_m_isGoodStep_457 : decode y_m_isGoodStep.2.1 457 = .ok (.ifCond .eq 14, 3) := by decide +kernel
theorem d_m_isGoodStep_460 : decode y_m_isGoodStep.2.1 460 = .ok (.aload_n 0, 1) := by decide +kernel
theorem d_m_isGoodStep_461 : decode y_m_isGoodStep.2.1 461 = .ok (.getfield 84, 3) := by decide +kernel
theorem d_m_isGoodStep_464 : decode y_m_isGoodStep.2.1 464 = .ok (.ifCond .ne 7, 3) := by decide +kernel
theorem d_m_isGoodStep_467 : decode y_m_isGoodStep.2.1 467 = .ok (.iconst 1, 1) := by decide +kernel
theorem d_m_isGoodStep_468 : decode y_m_isGoodStep.2.1 468 = .ok (.goto 4, 3) := by decide +kernel
theorem d_m_isGoodStep_471 : decode y_m_isGoodStep.2.1 471 = .ok (.iconst 0, 1) := by decide +kernel
theorem d_m_isGoodStep_472 : decode y_m_isGoodStep.2.1 472 = .ok (.ireturn, 1) := by decide +kernel
theorem d_m_isGoodStep_473 : decode y_m_isGoodStep.2.1 473 = .ok (.aload_n 0, 1) := by decide +kernel
theorem d_m_isGoodStep_474 : decode y_m_isGoodStep.2.1 474 = .ok (.iload_n 3, 1) := by decide +kernel
theorem d_m_isGoodStep_475 : decode y_m_isGoodStep.2.1 475 = .ok (.invokevirtual 120, 3) := by decide +kernel
theorem d_m_isGoodStep_478 : decode y_m_isGoodStep.2.1 478 = .ok (.ireturn, 1) := by decide +kernel
theorem d_m_gives_0 : decode y_m_gives.2.1 0 = .ok (.iload_n 1, 1) := by decide +kernel
theorem d_m_gives_1 : decode y_m_gives.2.1 1 = .ok (.ifCond .ne 5, 3) := by decide +kernel
theorem d_m_gives_4 : decode y_m_gives.2.1 4 = .ok (.iconst 1, 1) := by decide +kernel
theorem d_m_gives_5 : decode y_m_gives.2.1 5 = .ok (.ireturn, 1) := by decide +kernel
theorem d_m_gives_6 : decode y_m_gives.2.1 6 = .ok (.aload_n 0, 1) := by decide +kernel
theorem d_m_gives_7 : decode y_m_gives.2.1 7 = .ok (.getfield 84, 3) := by decide +kernel
theorem d_m_gives_10 : decode y_m_gives.2.1 10 = .ok (.bipush 12, 2) := by decide +kernel
theorem d_m_gives_12 : decode y_m_gives.2.1 12 = .ok (.if_icmp .ne 5, 3) := by decide +kernel
theorem d_m_gives_15 : decode y_m_gives.2.1 15 = .ok (.iconst 0, 1) := by decide +kernel
theorem d_m_gives_16 : decode y_m_gives.2.1 16 = .ok (.ireturn, 1) := by decide +kernel
theorem d_m_gives_17 : decode y_m_gives.2.1 17 = .ok (.aload_n 0, 1) := by decide +kernel
theorem d_m_gives_18 : decode y_m_gives.2.1 18 = .ok (.getfield 26, 3) := by decide +kernel
theorem d_m_gives_21 : decode y_m_gives.2.1 21 = .ok (.aload_n 0, 1) := by decide +kernel
theorem d_m_gives_22 : decode y_m_gives.2.1 22 = .ok (.getfield 84, 3) := by decide +kernel
theorem d_m_gives_25 : decode y_m_gives.2.1 25 = .ok (.iload_n 1, 1) := by decide +kernel
theorem d_m_gives_26 : decode y_m_gives.2.1 26 = .ok (.iastore, 1) := by decide +kernel
theorem d_m_gives_27 : decode y_m_gives.2.1 27 = .ok (.aload_n 0, 1) := by decide +kernel
theorem d_m_gives_28 : decode y_m_gives.2.1 28 = .ok (.dup, 1) := by decide +kernel
theorem d_m_gives_29 : decode y_m_gives.2.1 29 = .ok (.getfield 84, 3) := by decide +kernel
theorem d_m_gives_32 : decode y_m_gives.2.1 32 = .ok (.iconst 1, 1) := by decide +kernel
theorem d_m_gives_33 : decode y_m_gives.2.1 33 = .ok (.iadd, 1) := by decide +kernel
theorem d_m_gives_34 : decode y_m_gives.2.1 34 = .ok (.putfield 84, 3) := by decide +kernel
theorem d_m_gives_37 : decode y_m_gives.2.1 37 = .ok (.iconst 1, 1) := by decide +kernel
theorem d_m_gives_38 : decode y_m_gives.2.1 38 = .ok (.ireturn, 1) := by decide +kernel
theorem d_m_takes_0 : decode y_m_takes.2.1 0 = .ok (.iload_n 1, 1) := by decide +kernel
theorem d_m_takes_1 : decode y_m_takes.2.1 1 = .ok (.ifCond .ne 5, 3) := by decide +kernel
theorem d_m_takes_4 : decode y_m_takes.2.1 4 = .ok (.iconst 1, 1) := by decide +kernel
theorem d_m_takes_5 : decode y_m_takes.2.1 5 = .ok (.ireturn, 1) := by decide +kernel
theorem d_m_takes_6 : decode y_m_takes.2.1 6 = .ok (.aload_n 0, 1) := by decide +kernel
theorem d_m_takes_7 : decode y_m_takes.2.1 7 = .ok (.getfield 84, 3) := by decide +kernel
theorem d_m_takes_10 : decode y_m_takes.2.1 10 = .ok (.ifCond .eq 18, 3) := by decide +kernel
theorem d_m_takes_13 : decode y_m_takes.2.1 13 = .ok (.aload_n 0, 1) := by decide +kernel
theorem d_m_takes_14 : decode y_m_takes.2.1 14 = .ok (.getfield 26, 3) := by decide +kernel
theorem d_m_takes_17 : decode y_m_takes.2.1 17 = .ok (.aload_n 0, 1) := by decide +kernel
theorem d_m_takes_18 : decode y_m_takes.2.1 18 = .ok (.getfield 84, 3) := by decide +kernel
theorem d_m_takes_21 : decode y_m_takes.2.1 21 = .ok (.iconst 1, 1) := by decide +kernel
theorem d_m_takes_22 : decode y_m_takes.2.1 22 = .ok (.isub, 1) := by decide +kernel
theorem d_m_takes_23 : decode y_m_takes.2.1 23 = .ok (.iaload, 1) := by decide +kernel
theorem d_m_takes_24 : decode y_m_takes.2.1 24 = .ok (.iload_n 1, 1) := by decide +kernel
theorem d_m_takes_25 : decode y_m_takes.2.1 25 = .ok (.if_icmp .eq 5, 3) := by decide +kernel
theorem d_m_takes_28 : decode y_m_takes.2.1 28 = .ok (.iconst 0, 1) := by decide +kernel
theorem d_m_takes_29 : decode y_m_takes.2.1 29 = .ok (.ireturn, 1) := by decide +kernel
theorem d_m_takes_30 : decode y_m_takes.2.1 30 = .ok (.aload_n 0, 1) := by decide +kernel
theorem d_m_takes_31 : decode y_m_takes.2.1 31 = .ok (.dup, 1) := by decide +kernel
theorem d_m_takes_32 : decode y_m_takes.2.1 32 = .ok (.getfield 84, 3) := by decide +kernel
theorem d_m_takes_35 : decode y_m_takes.2.1 35 = .ok (.iconst 1, 1) := by decide +kernel
theorem d_m_takes_36 : decode y_m_takes.2.1 36 = .ok (.isub, 1) := by decide +kernel
theorem d_m_takes_37 : decode y_m_takes.2.1 37 = .ok (.putfield 84, 3) := by decide +kernel
theorem d_m_takes_40 : decode y_m_takes.2.1 40 = .ok (.iconst 1, 1) := by decide +kernel
theorem d_m_takes_41 : decode y_m_takes.2.1 41 = .ok (.ireturn, 1) := by decide +kernel
theorem d_m_kindOf_0 : decode y_m_kindOf.2.1 0 = .ok (.iload_n 1, 1) := by decide +kernel
theorem d_m_kindOf_1 : decode y_m_kindOf.2.1 1 = .ok (.ifCond .lt 20, 3) := by decide +kernel
theorem d_m_kindOf_4 : decode y_m_kindOf.2.1 4 = .ok (.iload_n 1, 1) := by decide +kernel
theorem d_m_kindOf_5 : decode y_m_kindOf.2.1 5 = .ok (.aload_n 0, 1) := by decide +kernel
theorem d_m_kindOf_6 : decode y_m_kindOf.2.1 6 = .ok (.getfield 50, 3) := by decide +kernel
theorem d_m_kindOf_9 : decode y_m_kindOf.2.1 9 = .ok (.if_icmp .ge 12, 3) := by decide +kernel
theorem d_m_kindOf_12 : decode y_m_kindOf.2.1 12 = .ok (.aload_n 0, 1) := by decide +kernel
theorem d_m_kindOf_13 : decode y_m_kindOf.2.1 13 = .ok (.getfield 53, 3) := by decide +kernel
theorem d_m_kindOf_16 : decode y_m_kindOf.2.1 16 = .ok (.iload_n 1, 1) := by decide +kernel
theorem d_m_kindOf_17 : decode y_m_kindOf.2.1 17 = .ok (.iaload, 1) := by decide +kernel
theorem d_m_kindOf_18 : decode y_m_kindOf.2.1 18 = .ok (.goto 4, 3) := by decide +kernel
theorem d_m_kindOf_21 : decode y_m_kindOf.2.1 21 = .ok (.iconst 0, 1) := by decide +kernel
theorem d_m_kindOf_22 : decode y_m_kindOf.2.1 22 = .ok (.ireturn, 1) := by decide +kernel
theorem d_m_isTarget_0 : decode y_m_isTarget.2.1 0 = .ok (.aload_n 0, 1) := by decide +kernel
theorem d_m_isTarget_1 : decode y_m_isTarget.2.1 1 = .ok (.getfield 84, 3) := by decide +kernel
theorem d_m_isTarget_4 : decode y_m_isTarget.2.1 4 = .ok (.ifCond .ne 27, 3) := by decide +kernel
theorem d_m_isTarget_7 : decode y_m_isTarget.2.1 7 = .ok (.iload_n 2, 1) := by decide +kernel
theorem d_m_isTarget_8 : decode y_m_isTarget.2.1 8 = .ok (.ifCond .lt 23, 3) := by decide +kernel
theorem d_m_isTarget_11 : decode y_m_isTarget.2.1 11 = .ok (.iload_n 2, 1) := by decide +kernel
theorem d_m_isTarget_12 : decode y_m_isTarget.2.1 12 = .ok (.aload_n 1, 1) := by decide +kernel
theorem d_m_isTarget_13 : decode y_m_isTarget.2.1 13 = .ok (.getfield 56, 3) := by decide +kernel
theorem d_m_isTarget_16 : decode y_m_isTarget.2.1 16 = .ok (.if_icmp .ge 15, 3) := by decide +kernel
theorem d_m_isTarget_19 : decode y_m_isTarget.2.1 19 = .ok (.aload_n 1, 1) := by decide +kernel
theorem d_m_isTarget_20 : decode y_m_isTarget.2.1 20 = .ok (.iload_n 2, 1) := by decide +kernel
theorem d_m_isTarget_21 : decode y_m_isTarget.2.1 21 = .ok (.invokevirtual 96, 3) := by decide +kernel
theorem d_m_isTarget_24 : decode y_m_isTarget.2.1 24 = .ok (.ifCond .ne 7, 3) := by decide +kernel
theorem d_m_isTarget_27 : decode y_m_isTarget.2.1 27 = .ok (.iconst 1, 1) := by decide +kernel
theorem d_m_isTarget_28 : decode y_m_isTarget.2.1 28 = .ok (.goto 4, 3) := by decide +kernel
theorem d_m_isTarget_31 : decode y_m_isTarget.2.1 31 = .ok (.iconst 0, 1) := by decide +kernel
theorem d_m_isTarget_32 : decode y_m_isTarget.2.1 32 = .ok (.ireturn, 1) := by decide +kernel
theorem d_m_isGoodCall_0 : decode y_m_isGoodCall.2.1 0 = .ok (.aload_n 0, 1) := by decide +kernel
theorem d_m_isGoodCall_1 : decode y_m_isGoodCall.2.1 1 = .ok (.iload_n 1, 1) := by decide +kernel
theorem d_m_isGoodCall_2 : decode y_m_isGoodCall.2.1 2 = .ok (.invokevirtual 123, 3) := by decide +kernel
theorem d_m_isGoodCall_5 : decode y_m_isGoodCall.2.1 5 = .ok (.ifCond .ne 5, 3) := by decide +kernel
theorem d_m_isGoodCall_8 : decode y_m_isGoodCall.2.1 8 = .ok (.iconst 0, 1) := by decide +kernel
theorem d_m_isGoodCall_9 : decode y_m_isGoodCall.2.1 9 = .ok (.ireturn, 1) := by decide +kernel
theorem d_m_isGoodCall_10 : decode y_m_isGoodCall.2.1 10 = .ok (.aload_n 0, 1) := by decide +kernel
theorem d_m_isGoodCall_11 : decode y_m_isGoodCall.2.1 11 = .ok (.getfield 10, 3) := by decide +kernel
theorem d_m_isGoodCall_14 : decode y_m_isGoodCall.2.1 14 = .ok (.iload_n 1, 1) := by decide +kernel
theorem d_m_isGoodCall_15 : decode y_m_isGoodCall.2.1 15 = .ok (.invokevirtual 126, 3) := by decide +kernel
theorem d_m_isGoodCall_18 : decode y_m_isGoodCall.2.1 18 = .ok (.checkcast 37, 3) := by decide +kernel
theorem d_m_isGoodCall_21 : decode y_m_isGoodCall.2.1 21 = .ok (.astore_n 2, 1) := by decide +kernel
theorem d_m_isGoodCall_22 : decode y_m_isGoodCall.2.1 22 = .ok (.aload_n 2, 1) := by decide +kernel
theorem d_m_isGoodCall_23 : decode y_m_isGoodCall.2.1 23 = .ok (.getfield 87, 3) := by decide +kernel
theorem d_m_isGoodCall_26 : decode y_m_isGoodCall.2.1 26 = .ok (.iconst 1, 1) := by decide +kernel
theorem d_m_isGoodCall_27 : decode y_m_isGoodCall.2.1 27 = .ok (.isub, 1) := by decide +kernel
theorem d_m_isGoodCall_28 : decode y_m_isGoodCall.2.1 28 = .ok (.istore_n 3, 1) := by decide +kernel
theorem d_m_isGoodCall_29 : decode y_m_isGoodCall.2.1 29 = .ok (.iload_n 3, 1) := by decide +kernel
theorem d_m_isGoodCall_30 : decode y_m_isGoodCall.2.1 30 = .ok (.ifCond .lt 31, 3) := by decide +kernel
theorem d_m_isGoodCall_33 : decode y_m_isGoodCall.2.1 33 = .ok (.aload_n 2, 1) := by decide +kernel
theorem d_m_isGoodCall_34 : decode y_m_isGoodCall.2.1 34 = .ok (.iload_n 3, 1) := by decide +kernel
theorem d_m_isGoodCall_35 : decode y_m_isGoodCall.2.1 35 = .ok (.invokestatic 109, 3) := by decide +kernel
theorem d_m_isGoodCall_38 : decode y_m_isGoodCall.2.1 38 = .ok (.ifCond .eq 15, 3) := by decide +kernel
theorem d_m_isGoodCall_41 : decode y_m_isGoodCall.2.1 41 = .ok (.aload_n 0, 1) := by decide +kernel
theorem d_m_isGoodCall_42 : decode y_m_isGoodCall.2.1 42 = .ok (.aload_n 2, 1) := by decide +kernel
theorem d_m_isGoodCall_43 : decode y_m_isGoodCall.2.1 43 = .ok (.iload_n 3, 1) := by decide +kernel
theorem d_m_isGoodCall_44 : decode y_m_isGoodCall.2.1 44 = .ok (.invokestatic 109, 3) := by decide +kernel
theorem d_m_isGoodCall_47 : decode y_m_isGoodCall.2.1 47 = .ok (.invokevirtual 106, 3) := by decide +kernel
theorem d_m_isGoodCall_50 : decode y_m_isGoodCall.2.1 50 = .ok (.ifCond .ne 5, 3) := by decide +kernel
theorem d_m_isGoodCall_53 : decode y_m_isGoodCall.2.1 53 = .ok (.iconst 0, 1) := by decide +kernel
theorem d_m_isGoodCall_54 : decode y_m_isGoodCall.2.1 54 = .ok (.ireturn, 1) := by decide +kernel
theorem d_m_isGoodCall_55 : decode y_m_isGoodCall.2.1 55 = .ok (.iinc 3 (-1), 3) := by decide +kernel
theorem d_m_isGoodCall_58 : decode y_m_isGoodCall.2.1 58 = .ok (.goto (-29), 3) := by decide +kernel
theorem d_m_isGoodCall_61 : decode y_m_isGoodCall.2.1 61 = .ok (.aload_n 0, 1) := by decide +kernel
theorem d_m_isGoodCall_62 : decode y_m_isGoodCall.2.1 62 = .ok (.aload_n 2, 1) := by decide +kernel
theorem d_m_isGoodCall_63 : decode y_m_isGoodCall.2.1 63 = .ok (.getfield 117, 3) := by decide +kernel
theorem d_m_isGoodCall_66 : decode y_m_isGoodCall.2.1 66 = .ok (.invokevirtual 103, 3) := by decide +kernel
theorem d_m_isGoodCall_69 : decode y_m_isGoodCall.2.1 69 = .ok (.ireturn, 1) := by decide +kernel
theorem d_m_thread_0 : decode y_m_thread.2.1 0 = .ok (.aload_n 0, 1) := by decide +kernel
theorem d_m_thread_1 : decode y_m_thread.2.1 1 = .ok (.iload_n 1, 1) := by decide +kernel
theorem d_m_thread_2 : decode y_m_thread.2.1 2 = .ok (.invokevirtual 123, 3) := by decide +kernel
theorem d_m_thread_5 : decode y_m_thread.2.1 5 = .ok (.ifCond .ne 6, 3) := by decide +kernel
theorem d_m_thread_8 : decode y_m_thread.2.1 8 = .ok (.bipush (-14), 2) := by decide +kernel
theorem d_m_thread_10 : decode y_m_thread.2.1 10 = .ok (.ireturn, 1) := by decide +kernel
theorem d_m_thread_11 : decode y_m_thread.2.1 11 = .ok (.aload_n 0, 1) := by decide +kernel
theorem d_m_thread_12 : decode y_m_thread.2.1 12 = .ok (.getfield 10, 3) := by decide +kernel
theorem d_m_thread_15 : decode y_m_thread.2.1 15 = .ok (.iload_n 1, 1) := by decide +kernel
theorem d_m_thread_16 : decode y_m_thread.2.1 16 = .ok (.invokevirtual 126, 3) := by decide +kernel
theorem d_m_thread_19 : decode y_m_thread.2.1 19 = .ok (.checkcast 37, 3) := by decide +kernel
theorem d_m_thread_22 : decode y_m_thread.2.1 22 = .ok (.getfield 87, 3) := by decide +kernel
theorem d_m_thread_25 : decode y_m_thread.2.1 25 = .ok (.ifCond .gt 11, 3) := by decide +kernel
theorem d_m_thread_28 : decode y_m_thread.2.1 28 = .ok (.aload_n 0, 1) := by decide +kernel
theorem d_m_thread_29 : decode y_m_thread.2.1 29 = .ok (.iload_n 1, 1) := by decide +kernel
theorem d_m_thread_30 : decode y_m_thread.2.1 30 = .ok (.invokevirtual 134, 3) := by decide +kernel
theorem d_m_thread_33 : decode y_m_thread.2.1 33 = .ok (.ifCond .ne 5, 3) := by decide +kernel
theorem d_m_thread_36 : decode y_m_thread.2.1 36 = .ok (.iconst (-1), 1) := by decide +kernel
theorem d_m_thread_37 : decode y_m_thread.2.1 37 = .ok (.ireturn, 1) := by decide +kernel
theorem d_m_thread_38 : decode y_m_thread.2.1 38 = .ok (.aload_n 0, 1) := by decide +kernel
theorem d_m_thread_39 : decode y_m_thread.2.1 39 = .ok (.getfield 29, 3) := by decide +kernel
theorem d_m_thread_42 : decode y_m_thread.2.1 42 = .ok (.bipush 8, 2) := by decide +kernel
theorem d_m_thread_44 : decode y_m_thread.2.1 44 = .ok (.if_icmp .ne 6, 3) := by decide +kernel
theorem d_m_thread_47 : decode y_m_thread.2.1 47 = .ok (.bipush (-12), 2) := by decide +kernel
theorem d_m_thread_49 : decode y_m_thread.2.1 49 = .ok (.ireturn, 1) := by decide +kernel
theorem d_m_thread_50 : decode y_m_thread.2.1 50 = .ok (.aload_n 0, 1) := by decide +kernel
theorem d_m_thread_51 : decode y_m_thread.2.1 51 = .ok (.aconst_null, 1) := by decide +kernel
theorem d_m_thread_52 : decode y_m_thread.2.1 52 = .ok (.putfield 42, 3) := by decide +kernel
theorem d_m_thread_55 : decode y_m_thread.2.1 55 = .ok (.aload_n 0, 1) := by decide +kernel
theorem d_m_thread_56 : decode y_m_thread.2.1 56 = .ok (.getfield 29, 3) := by decide +kernel
theorem d_m_thread_59 : decode y_m_thread.2.1 59 = .ok (.aload_n 0, 1) := by decide +kernel
theorem d_m_thread_60 : decode y_m_thread.2.1 60 = .ok (.getfield 16, 3) := by decide +kernel
theorem d_m_thread_63 : decode y_m_thread.2.1 63 = .ok (.invokevirtual 33, 3) := by decide +kernel
theorem d_m_thread_66 : decode y_m_thread.2.1 66 = .ok (.if_icmp .ne 22, 3) := by decide +kernel
theorem d_m_thread_69 : decode y_m_thread.2.1 69 = .ok (.aload_n 0, 1) := by decide +kernel
theorem d_m_thread_70 : decode y_m_thread.2.1 70 = .ok (.getfield 16, 3) := by decide +kernel
theorem d_m_thread_73 : decode y_m_thread.2.1 73 = .ok (.new 137, 3) := by decide +kernel
theorem d_m_thread_76 : decode y_m_thread.2.1 76 = .ok (.dup, 1) := by decide +kernel
theorem d_m_thread_77 : decode y_m_thread.2.1 77 = .ok (.aload_n 0, 1) := by decide +kernel
theorem d_m_thread_78 : decode y_m_thread.2.1 78 = .ok (.getfield 29, 3) := by decide +kernel
theorem d_m_thread_81 : decode y_m_thread.2.1 81 = .ok (.invokespecial 139, 3) := by decide +kernel
theorem d_m_thread_84 : decode y_m_thread.2.1 84 = .ok (.invokevirtual 46, 3) := by decide +kernel
theorem d_m_thread_87 : decode y_m_thread.2.1 87 = .ok (.pop, 1) := by decide +kernel
theorem d_m_thread_88 : decode y_m_thread.2.1 88 = .ok (.aload_n 0, 1) := by decide +kernel
theorem d_m_thread_89 : decode y_m_thread.2.1 89 = .ok (.getfield 16, 3) := by decide +kernel
theorem d_m_thread_92 : decode y_m_thread.2.1 92 = .ok (.aload_n 0, 1) := by decide +kernel
theorem d_m_thread_93 : decode y_m_thread.2.1 93 = .ok (.getfield 29, 3) := by decide +kernel
theorem d_m_thread_96 : decode y_m_thread.2.1 96 = .ok (.invokevirtual 126, 3) := by decide +kernel
theorem d_m_thread_99 : decode y_m_thread.2.1 99 = .ok (.checkcast 137, 3) := by decide +kernel
theorem d_m_thread_102 : decode y_m_thread.2.1 102 = .ok (.astore_n 2, 1) := by decide +kernel
theorem d_m_thread_103 : decode y_m_thread.2.1 103 = .ok (.aload_n 0, 1) := by decide +kernel
theorem d_m_thread_104 : decode y_m_thread.2.1 104 = .ok (.dup, 1) := by decide +kernel
theorem d_m_thread_105 : decode y_m_thread.2.1 105 = .ok (.getfield 29, 3) := by decide +kernel
theorem d_m_thread_108 : decode y_m_thread.2.1 108 = .ok (.iconst 1, 1) := by decide +kernel
theorem d_m_thread_109 : decode y_m_thread.2.1 109 = .ok (.iadd, 1) := by decide +kernel
theorem d_m_thread_110 : decode y_m_thread.2.1 110 = .ok (.putfield 29, 3) := by decide +kernel
theorem d_m_thread_113 : decode y_m_thread.2.1 113 = .ok (.aload_n 2, 1) := by decide +kernel
theorem d_m_thread_114 : decode y_m_thread.2.1 114 = .ok (.invokevirtual 142, 3) := by decide +kernel
theorem d_m_thread_117 : decode y_m_thread.2.1 117 = .ok (.aload_n 2, 1) := by decide +kernel
theorem d_m_thread_118 : decode y_m_thread.2.1 118 = .ok (.aload_n 0, 1) := by decide +kernel
theorem d_m_thread_119 : decode y_m_thread.2.1 119 = .ok (.getfield 10, 3) := by decide +kernel
theorem d_m_thread_122 : decode y_m_thread.2.1 122 = .ok (.iload_n 1, 1) := by decide +kernel
theorem d_m_thread_123 : decode y_m_thread.2.1 123 = .ok (.invokevirtual 126, 3) := by decide +kernel
theorem d_m_thread_126 : decode y_m_thread.2.1 126 = .ok (.checkcast 37, 3) := by decide +kernel
theorem d_m_thread_129 : decode y_m_thread.2.1 129 = .ok (.iload_n 1, 1) := by decide +kernel
theorem d_m_thread_130 : decode y_m_thread.2.1 130 = .ok (.invokevirtual 145, 3) := by decide +kernel
theorem d_m_thread_133 : decode y_m_thread.2.1 133 = .ok (.astore_n 3, 1) := by decide +kernel
theorem d_m_thread_134 : decode y_m_thread.2.1 134 = .ok (.aload_n 2, 1) := by decide +kernel
theorem d_m_thread_135 : decode y_m_thread.2.1 135 = .ok (.getfield 149, 3) := by decide +kernel
theorem d_m_thread_138 : decode y_m_thread.2.1 138 = .ok (.ireturn, 1) := by decide +kernel
theorem d_m_isAllGood_0 : decode y_m_isAllGood.2.1 0 = .ok (.bipush 40, 2) := by decide +kernel
theorem d_m_isAllGood_2 : decode y_m_isAllGood.2.1 2 = .ok (.newarray .boolean, 2) := by decide +kernel
theorem d_m_isAllGood_4 : decode y_m_isAllGood.2.1 4 = .ok (.astore_n 2, 1) := by decide +kernel
theorem d_m_isAllGood_5 : decode y_m_isAllGood.2.1 5 = .ok (.aload_n 2, 1) := by decide +kernel
theorem d_m_isAllGood_6 : decode y_m_isAllGood.2.1 6 = .ok (.iload_n 1, 1) := by decide +kernel
theorem d_m_isAllGood_7 : decode y_m_isAllGood.2.1 7 = .ok (.iconst 1, 1) := by decide +kernel
theorem d_m_isAllGood_8 : decode y_m_isAllGood.2.1 8 = .ok (.bastore, 1) := by decide +kernel
theorem d_m_isAllGood_9 : decode y_m_isAllGood.2.1 9 = .ok (.iconst 1, 1) := by decide +kernel
theorem d_m_isAllGood_10 : decode y_m_isAllGood.2.1 10 = .ok (.istore_n 3, 1) := by decide +kernel
theorem d_m_isAllGood_11 : decode y_m_isAllGood.2.1 11 = .ok (.iload_n 3, 1) := by decide +kernel
theorem d_m_isAllGood_12 : decode y_m_isAllGood.2.1 12 = .ok (.ifCond .eq 126, 3) := by decide +kernel
theorem d_m_isAllGood_15 : decode y_m_isAllGood.2.1 15 = .ok (.iconst 0, 1) := by decide +kernel
theorem d_m_isAllGood_16 : decode y_m_isAllGood.2.1 16 = .ok (.istore_n 3, 1) := by decide +kernel
theorem d_m_isAllGood_17 : decode y_m_isAllGood.2.1 17 = .ok (.iconst 0, 1) := by decide +kernel
theorem d_m_isAllGood_18 : decode y_m_isAllGood.2.1 18 = .ok (.istore 4, 2) := by decide +kernel
theorem d_m_isAllGood_20 : decode y_m_isAllGood.2.1 20 = .ok (.iload 4, 2) := by decide +kernel
theorem d_m_isAllGood_22 : decode y_m_isAllGood.2.1 22 = .ok (.aload_n 0, 1) := by decide +kernel
theorem d_m_isAllGood_23 : decode y_m_isAllGood.2.1 23 = .ok (.getfield 10, 3) := by decide +kernel
theorem d_m_isAllGood_26 : decode y_m_isAllGood.2.1 26 = .ok (.invokevirtual 33, 3) := by decide +kernel
theorem d_m_isAllGood_29 : decode y_m_isAllGood.2.1 29 = .ok (.if_icmp .ge 106, 3) := by decide +kernel
theorem d_m_isAllGood_32 : decode y_m_isAllGood.2.1 32 = .ok (.aload_n 0, 1) := by decide +kernel
theorem d_m_isAllGood_33 : decode y_m_isAllGood.2.1 33 = .ok (.getfield 10, 3) := by decide +kernel
theorem d_m_isAllGood_36 : decode y_m_isAllGood.2.1 36 = .ok (.iload 4, 2) := by decide +kernel
theorem d_m_isAllGood_38 : decode y_m_isAllGood.2.1 38 = .ok (.invokevirtual 126, 3) := by decide +kernel
theorem d_m_isAllGood_41 : decode y_m_isAllGood.2.1 41 = .ok (.checkcast 37, 3) := by decide +kernel
theorem d_m_isAllGood_44 : decode y_m_isAllGood.2.1 44 = .ok (.astore 5, 2) := by decide +kernel
theorem d_m_isAllGood_46 : decode y_m_isAllGood.2.1 46 = .ok (.iconst 0, 1) := by decide +kernel
theorem d_m_isAllGood_47 : decode y_m_isAllGood.2.1 47 = .ok (.istore 6, 2) := by decide +kernel
theorem d_m_isAllGood_49 : decode y_m_isAllGood.2.1 49 = .ok (.iload 6, 2) := by decide +kernel
theorem d_m_isAllGood_51 : decode y_m_isAllGood.2.1 51 = .ok (.aload 5, 2) := by decide +kernel
theorem d_m_isAllGood_53 : decode y_m_isAllGood.2.1 53 = .ok (.getfield 56, 3) := by decide +kernel
theorem d_m_isAllGood_56 : decode y_m_isAllGood.2.1 56 = .ok (.if_icmp .ge 73, 3) := by decide +kernel
theorem d_m_isAllGood_59 : decode y_m_isAllGood.2.1 59 = .ok (.aload_n 2, 1) := by decide +kernel
theorem d_m_isAllGood_60 : decode y_m_isAllGood.2.1 60 = .ok (.iload 4, 2) := by decide +kernel
theorem d_m_isAllGood_62 : decode y_m_isAllGood.2.1 62 = .ok (.baload, 1) := by decide +kernel
theorem d_m_isAllGood_63 : decode y_m_isAllGood.2.1 63 = .ok (.ifCond .eq 66, 3) := by decide +kernel
theorem d_m_isAllGood_66 : decode y_m_isAllGood.2.1 66 = .ok (.aload 5, 2) := by decide +kernel
theorem d_m_isAllGood_68 : decode y_m_isAllGood.2.1 68 = .ok (.getfield 59, 3) := by decide +kernel
theorem d_m_isAllGood_71 : decode y_m_isAllGood.2.1 71 = .ok (.iload 6, 2) := by decide +kernel
theorem d_m_isAllGood_73 : decode y_m_isAllGood.2.1 73 = .ok (.iaload, 1) := by decide +kernel
theorem d_m_isAllGood_74 : decode y_m_isAllGood.2.1 74 = .ok (.bipush 18, 2) := by decide +kernel
theorem d_m_isAllGood_76 : decode y_m_isAllGood.2.1 76 = .ok (.if_icmp .ne 47, 3) := by decide +kernel
theorem d_m_isAllGood_79 : decode y_m_isAllGood.2.1 79 = .ok (.aload_n 0, 1) := by decide +kernel
theorem d_m_isAllGood_80 : decode y_m_isAllGood.2.1 80 = .ok (.aload 5, 2) := by decide +kernel
theorem d_m_isAllGood_82 : decode y_m_isAllGood.2.1 82 = .ok (.getfield 62, 3) := by decide +kernel
theorem d_m_isAllGood_85 : decode y_m_isAllGood.2.1 85 = .ok (.iload 6, 2) := by decide +kernel
theorem d_m_isAllGood_87 : decode y_m_isAllGood.2.1 87 = .ok (.iaload, 1) := by decide +kernel
theorem d_m_isAllGood_88 : decode y_m_isAllGood.2.1 88 = .ok (.invokevirtual 123, 3) := by decide +kernel
theorem d_m_isAllGood_91 : decode y_m_isAllGood.2.1 91 = .ok (.ifCond .eq 32, 3) := by decide +kernel
theorem d_m_isAllGood_94 : decode y_m_isAllGood.2.1 94 = .ok (.aload_n 2, 1) := by decide +kernel
theorem d_m_isAllGood_95 : decode y_m_isAllGood.2.1 95 = .ok (.aload 5, 2) := by decide +kernel
theorem d_m_isAllGood_97 : decode y_m_isAllGood.2.1 97 = .ok (.getfield 62, 3) := by decide +kernel
theorem d_m_isAllGood_100 : decode y_m_isAllGood.2.1 100 = .ok (.iload 6, 2) := by decide +kernel
theorem d_m_isAllGood_102 : decode y_m_isAllGood.2.1 102 = .ok (.iaload, 1) := by decide +kernel
theorem d_m_isAllGood_103 : decode y_m_isAllGood.2.1 103 = .ok (.baload, 1) := by decide +kernel
theorem d_m_isAllGood_104 : decode y_m_isAllGood.2.1 104 = .ok (.ifCond .eq 6, 3) := by decide +kernel
theorem d_m_isAllGood_107 : decode y_m_isAllGood.2.1 107 = .ok (.goto 16, 3) := by decide +kernel
theorem d_m_isAllGood_110 : decode y_m_isAllGood.2.1 110 = .ok (.aload_n 2, 1) := by decide +kernel
theorem d_m_isAllGood_111 : decode y_m_isAllGood.2.1 111 = .ok (.aload 5, 2) := by decide +kernel
theorem d_m_isAllGood_113 : decode y_m_isAllGood.2.1 113 = .ok (.getfield 62, 3) := by decide +kernel
theorem d_m_isAllGood_116 : decode y_m_isAllGood.2.1 116 = .ok (.iload 6, 2) := by decide +kernel
theorem d_m_isAllGood_118 : decode y_m_isAllGood.2.1 118 = .ok (.iaload, 1) := by decide +kernel
theorem d_m_isAllGood_119 : decode y_m_isAllGood.2.1 119 = .ok (.iconst 1, 1) := by decide +kernel
theorem d_m_isAllGood_120 : decode y_m_isAllGood.2.1 120 = .ok (.bastore, 1) := by decide +kernel
theorem d_m_isAllGood_121 : decode y_m_isAllGood.2.1 121 = .ok (.iconst 1, 1) := by decide +kernel
theorem d_m_isAllGood_122 : decode y_m_isAllGood.2.1 122 = .ok (.istore_n 3, 1) := by decide +kernel
theorem d_m_isAllGood_123 : decode y_m_isAllGood.2.1 123 = .ok (.iinc 6 1, 3) := by decide +kernel
theorem d_m_isAllGood_126 : decode y_m_isAllGood.2.1 126 = .ok (.goto (-77), 3) := by decide +kernel
theorem d_m_isAllGood_129 : decode y_m_isAllGood.2.1 129 = .ok (.iinc 4 1, 3) := by decide +kernel
theorem d_m_isAllGood_132 : decode y_m_isAllGood.2.1 132 = .ok (.goto (-112), 3) := by decide +kernel
theorem d_m_isAllGood_135 : decode y_m_isAllGood.2.1 135 = .ok (.goto (-124), 3) := by decide +kernel
theorem d_m_isAllGood_138 : decode y_m_isAllGood.2.1 138 = .ok (.iconst 0, 1) := by decide +kernel
theorem d_m_isAllGood_139 : decode y_m_isAllGood.2.1 139 = .ok (.istore 4, 2) := by decide +kernel
theorem d_m_isAllGood_141 : decode y_m_isAllGood.2.1 141 = .ok (.iload 4, 2) := by decide +kernel
theorem d_m_isAllGood_143 : decode y_m_isAllGood.2.1 143 = .ok (.aload_n 0, 1) := by decide +kernel
theorem d_m_isAllGood_144 : decode y_m_isAllGood.2.1 144 = .ok (.getfield 10, 3) := by decide +kernel
theorem d_m_isAllGood_147 : decode y_m_isAllGood.2.1 147 = .ok (.invokevirtual 33, 3) := by decide +kernel
theorem d_m_isAllGood_150 : decode y_m_isAllGood.2.1 150 = .ok (.if_icmp .ge 37, 3) := by decide +kernel
theorem d_m_isAllGood_153 : decode y_m_isAllGood.2.1 153 = .ok (.aload_n 2, 1) := by decide +kernel
theorem d_m_isAllGood_154 : decode y_m_isAllGood.2.1 154 = .ok (.iload 4, 2) := by decide +kernel
theorem d_m_isAllGood_156 : decode y_m_isAllGood.2.1 156 = .ok (.baload, 1) := by decide +kernel
theorem d_m_isAllGood_157 : decode y_m_isAllGood.2.1 157 = .ok (.ifCond .eq 24, 3) := by decide +kernel
theorem d_m_isAllGood_160 : decode y_m_isAllGood.2.1 160 = .ok (.aload_n 0, 1) := by decide +kernel
theorem d_m_isAllGood_161 : decode y_m_isAllGood.2.1 161 = .ok (.aload_n 0, 1) := by decide +kernel
theorem d_m_isAllGood_162 : decode y_m_isAllGood.2.1 162 = .ok (.getfield 10, 3) := by decide +kernel
theorem d_m_isAllGood_165 : decode y_m_isAllGood.2.1 165 = .ok (.iload 4, 2) := by decide +kernel
theorem d_m_isAllGood_167 : decode y_m_isAllGood.2.1 167 = .ok (.invokevirtual 126, 3) := by decide +kernel
theorem d_m_isAllGood_170 : decode y_m_isAllGood.2.1 170 = .ok (.checkcast 37, 3) := by decide +kernel
theorem d_m_isAllGood_173 : decode y_m_isAllGood.2.1 173 = .ok (.invokevirtual 130, 3) := by decide +kernel
theorem d_m_isAllGood_176 : decode y_m_isAllGood.2.1 176 = .ok (.ifCond .ne 5, 3) := by decide +kernel
theorem d_m_isAllGood_179 : decode y_m_isAllGood.2.1 179 = .ok (.iconst 0, 1) := by decide +kernel
theorem d_m_isAllGood_180 : decode y_m_isAllGood.2.1 180 = .ok (.ireturn, 1) := by decide +kernel
theorem d_m_isAllGood_181 : decode y_m_isAllGood.2.1 181 = .ok (.iinc 4 1, 3) := by decide +kernel
theorem d_m_isAllGood_184 : decode y_m_isAllGood.2.1 184 = .ok (.goto (-43), 3) := by decide +kernel
theorem d_m_isAllGood_187 : decode y_m_isAllGood.2.1 187 = .ok (.iconst 1, 1) := by decide +kernel
theorem d_m_isAllGood_188 : decode y_m_isAllGood.2.1 188 = .ok (.ireturn, 1) := by decide +kernel
theorem d_mT_init_0 : decode y_mT_init.2.1 0 = .ok (.aload_n 0, 1) := by decide +kernel
theorem d_mT_init_1 : decode y_mT_init.2.1 1 = .ok (.invokespecial 3, 3) := by decide +kernel
theorem d_mT_init_4 : decode y_mT_init.2.1 4 = .ok (.aload_n 0, 1) := by decide +kernel
theorem d_mT_init_5 : decode y_mT_init.2.1 5 = .ok (.new 9, 3) := by decide +kernel
theorem d_mT_init_8 : decode y_mT_init.2.1 8 = .ok (.dup, 1) := by decide +kernel
theorem d_mT_init_9 : decode y_mT_init.2.1 9 = .ok (.invokespecial 11, 3) := by decide +kernel
theorem d_mT_init_12 : decode y_mT_init.2.1 12 = .ok (.putfield 12, 3) := by decide +kernel
theorem d_mT_init_15 : decode y_mT_init.2.1 15 = .ok (.aload_n 0, 1) := by decide +kernel
theorem d_mT_init_16 : decode y_mT_init.2.1 16 = .ok (.iload_n 1, 1) := by decide +kernel
theorem d_mT_init_17 : decode y_mT_init.2.1 17 = .ok (.putfield 18, 3) := by decide +kernel
theorem d_mT_init_20 : decode y_mT_init.2.1 20 = .ok (.return_, 1) := by decide +kernel
theorem d_mT_begin_0 : decode y_mT_begin.2.1 0 = .ok (.aload_n 0, 1) := by decide +kernel
theorem d_mT_begin_1 : decode y_mT_begin.2.1 1 = .ok (.iconst 0, 1) := by decide +kernel
theorem d_mT_begin_2 : decode y_mT_begin.2.1 2 = .ok (.putfield 22, 3) := by decide +kernel
theorem d_mT_begin_5 : decode y_mT_begin.2.1 5 = .ok (.aload_n 0, 1) := by decide +kernel
theorem d_mT_begin_6 : decode y_mT_begin.2.1 6 = .ok (.iconst 0, 1) := by decide +kernel
theorem d_mT_begin_7 : decode y_mT_begin.2.1 7 = .ok (.putfield 25, 3) := by decide +kernel
theorem d_mT_begin_10 : decode y_mT_begin.2.1 10 = .ok (.aload_n 0, 1) := by decide +kernel
theorem d_mT_begin_11 : decode y_mT_begin.2.1 11 = .ok (.iconst 0, 1) := by decide +kernel
theorem d_mT_begin_12 : decode y_mT_begin.2.1 12 = .ok (.putfield 28, 3) := by decide +kernel
theorem d_mT_begin_15 : decode y_mT_begin.2.1 15 = .ok (.aload_n 0, 1) := by decide +kernel
theorem d_mT_begin_16 : decode y_mT_begin.2.1 16 = .ok (.iconst 0, 1) := by decide +kernel
theorem d_mT_begin_17 : decode y_mT_begin.2.1 17 = .ok (.putfield 31, 3) := by decide +kernel
theorem d_mT_begin_20 : decode y_mT_begin.2.1 20 = .ok (.aload_n 0, 1) := by decide +kernel
theorem d_mT_begin_21 : decode y_mT_begin.2.1 21 = .ok (.iconst 0, 1) := by decide +kernel
theorem d_mT_begin_22 : decode y_mT_begin.2.1 22 = .ok (.putfield 34, 3) := by decide +kernel
theorem d_mT_begin_25 : decode y_mT_begin.2.1 25 = .ok (.return_, 1) := by decide +kernel
theorem d_mT_push_0 : decode y_mT_push.2.1 0 = .ok (.aload_n 0, 1) := by decide +kernel
theorem d_mT_push_1 : decode y_mT_push.2.1 1 = .ok (.getfield 22, 3) := by decide +kernel
theorem d_mT_push_4 : decode y_mT_push.2.1 4 = .ok (.aload_n 0, 1) := by decide +kernel
theorem d_mT_push_5 : decode y_mT_push.2.1 5 = .ok (.getfield 12, 3) := by decide +kernel
theorem d_mT_push_8 : decode y_mT_push.2.1 8 = .ok (.invokevirtual 43, 3) := by decide +kernel
theorem d_mT_push_11 : decode y_mT_push.2.1 11 = .ok (.if_icmp .ne 18, 3) := by decide +kernel
theorem d_mT_push_14 : decode y_mT_push.2.1 14 = .ok (.aload_n 0, 1) := by decide +kernel
theorem d_mT_push_15 : decode y_mT_push.2.1 15 = .ok (.getfield 12, 3) := by decide +kernel
theorem d_mT_push_18 : decode y_mT_push.2.1 18 = .ok (.new 41, 3) := by decide +kernel
theorem d_mT_push_21 : decode y_mT_push.2.1 21 = .ok (.dup, 1) := by decide +kernel
theorem d_mT_push_22 : decode y_mT_push.2.1 22 = .ok (.invokespecial 47, 3) := by decide +kernel
theorem d_mT_push_25 : decode y_mT_push.2.1 25 = .ok (.invokevirtual 48, 3) := by decide +kernel
theorem d_mT_push_28 : decode y_mT_push.2.1 28 = .ok (.pop, 1) := by decide +kernel
theorem d_mT_push_29 : decode y_mT_push.2.1 29 = .ok (.aload_n 0, 1) := by decide +kernel
theorem d_mT_push_30 : decode y_mT_push.2.1 30 = .ok (.getfield 12, 3) := by decide +kernel
theorem d_mT_push_33 : decode y_mT_push.2.1 33 = .ok (.aload_n 0, 1) := by decide +kernel
theorem d_mT_push_34 : decode y_mT_push.2.1 34 = .ok (.getfield 22, 3) := by decide +kernel
theorem d_mT_push_37 : decode y_mT_push.2.1 37 = .ok (.invokevirtual 37, 3) := by decide +kernel
theorem d_mT_push_40 : decode y_mT_push.2.1 40 = .ok (.checkcast 41, 3) := by decide +kernel
theorem d_mT_push_43 : decode y_mT_push.2.1 43 = .ok (.astore_n 3, 1) := by decide +kernel
theorem d_mT_push_44 : decode y_mT_push.2.1 44 = .ok (.aload_n 0, 1) := by decide +kernel
theorem d_mT_push_45 : decode y_mT_push.2.1 45 = .ok (.dup, 1) := by decide +kernel
theorem d_mT_push_46 : decode y_mT_push.2.1 46 = .ok (.getfield 22, 3) := by decide +kernel
theorem d_mT_push_49 : decode y_mT_push.2.1 49 = .ok (.iconst 1, 1) := by decide +kernel
theorem d_mT_push_50 : decode y_mT_push.2.1 50 = .ok (.iadd, 1) := by decide +kernel
theorem d_mT_push_51 : decode y_mT_push.2.1 51 = .ok (.putfield 22, 3) := by decide +kernel
theorem d_mT_push_54 : decode y_mT_push.2.1 54 = .ok (.aload_n 3, 1) := by decide +kernel
theorem d_mT_push_55 : decode y_mT_push.2.1 55 = .ok (.aload_n 1, 1) := by decide +kernel
theorem d_mT_push_56 : decode y_mT_push.2.1 56 = .ok (.putfield 52, 3) := by decide +kernel
theorem d_mT_push_59 : decode y_mT_push.2.1 59 = .ok (.aload_n 3, 1) := by decide +kernel
theorem d_mT_push_60 : decode y_mT_push.2.1 60 = .ok (.iload_n 2, 1) := by decide +kernel
theorem d_mT_push_61 : decode y_mT_push.2.1 61 = .ok (.putfield 56, 3) := by decide +kernel
theorem d_mT_push_64 : decode y_mT_push.2.1 64 = .ok (.aload_n 3, 1) := by decide +kernel
theorem d_mT_push_65 : decode y_mT_push.2.1 65 = .ok (.iconst 0, 1) := by decide +kernel
theorem d_mT_push_66 : decode y_mT_push.2.1 66 = .ok (.putfield 57, 3) := by decide +kernel
theorem d_mT_push_69 : decode y_mT_push.2.1 69 = .ok (.aload_n 3, 1) := by decide +kernel
theorem d_mT_push_70 : decode y_mT_push.2.1 70 = .ok (.iconst 0, 1) := by decide +kernel
theorem d_mT_push_71 : decode y_mT_push.2.1 71 = .ok (.putfield 60, 3) := by decide +kernel
theorem d_mT_push_74 : decode y_mT_push.2.1 74 = .ok (.iconst 0, 1) := by decide +kernel
theorem d_mT_push_75 : decode y_mT_push.2.1 75 = .ok (.istore 4, 2) := by decide +kernel
theorem d_mT_push_77 : decode y_mT_push.2.1 77 = .ok (.iload 4, 2) := by decide +kernel
theorem d_mT_push_79 : decode y_mT_push.2.1 79 = .ok (.bipush 8, 2) := by decide +kernel
theorem d_mT_push_81 : decode y_mT_push.2.1 81 = .ok (.if_icmp .ge 17, 3) := by decide +kernel
theorem d_mT_push_84 : decode y_mT_push.2.1 84 = .ok (.aload_n 3, 1) := by decide +kernel
theorem d_mT_push_85 : decode y_mT_push.2.1 85 = .ok (.getfield 63, 3) := by decide +kernel
theorem d_mT_push_88 : decode y_mT_push.2.1 88 = .ok (.iload 4, 2) := by decide +kernel
theorem d_mT_push_90 : decode y_mT_push.2.1 90 = .ok (.iconst 0, 1) := by decide +kernel
theorem d_mT_push_91 : decode y_mT_push.2.1 91 = .ok (.iastore, 1) := by decide +kernel
theorem d_mT_push_92 : decode y_mT_push.2.1 92 = .ok (.iinc 4 1, 3) := by decide +kernel
theorem d_mT_push_95 : decode y_mT_push.2.1 95 = .ok (.goto (-18), 3) := by decide +kernel
theorem d_mT_push_98 : decode y_mT_push.2.1 98 = .ok (.aload_n 3, 1) := by decide +kernel
theorem d_mT_push_99 : decode y_mT_push.2.1 99 = .ok (.areturn, 1) := by decide +kernel
theorem d_mF_init_0 : decode y_mF_init.2.1 0 = .ok (.aload_n 0, 1) := by decide +kernel
theorem d_mF_init_1 : decode y_mF_init.2.1 1 = .ok (.invokespecial 3, 3) := by decide +kernel
theorem d_mF_init_4 : decode y_mF_init.2.1 4 = .ok (.aload_n 0, 1) := by decide +kernel
theorem d_mF_init_5 : decode y_mF_init.2.1 5 = .ok (.bipush 8, 2) := by decide +kernel
theorem d_mF_init_7 : decode y_mF_init.2.1 7 = .ok (.newarray .int, 2) := by decide +kernel
theorem d_mF_init_9 : decode y_mF_init.2.1 9 = .ok (.putfield 9, 3) := by decide +kernel
theorem d_mF_init_12 : decode y_mF_init.2.1 12 = .ok (.aload_n 0, 1) := by decide +kernel
theorem d_mF_init_13 : decode y_mF_init.2.1 13 = .ok (.bipush 12, 2) := by decide +kernel
theorem d_mF_init_15 : decode y_mF_init.2.1 15 = .ok (.newarray .int, 2) := by decide +kernel
theorem d_mF_init_17 : decode y_mF_init.2.1 17 = .ok (.putfield 15, 3) := by decide +kernel
theorem d_mF_init_20 : decode y_mF_init.2.1 20 = .ok (.return_, 1) := by decide +kernel
theorem d_m_run_0 : decode y_m_run.2.1 0 = .ok (.iload_n 1, 1) := by decide +kernel
theorem d_m_run_1 : decode y_m_run.2.1 1 = .ok (.ifCond .lt 22, 3) := by decide +kernel
theorem d_m_run_4 : decode y_m_run.2.1 4 = .ok (.iload_n 1, 1) := by decide +kernel
theorem d_m_run_5 : decode y_m_run.2.1 5 = .ok (.aload_n 0, 1) := by decide +kernel
theorem d_m_run_6 : decode y_m_run.2.1 6 = .ok (.getfield 29, 3) := by decide +kernel
theorem d_m_run_9 : decode y_m_run.2.1 9 = .ok (.if_icmp .ge 14, 3) := by decide +kernel
theorem d_m_run_12 : decode y_m_run.2.1 12 = .ok (.iload_n 2, 1) := by decide +kernel
theorem d_m_run_13 : decode y_m_run.2.1 13 = .ok (.ifCond .lt 10, 3) := by decide +kernel
theorem d_m_run_16 : decode y_m_run.2.1 16 = .ok (.iload_n 2, 1) := by decide +kernel
theorem d_m_run_17 : decode y_m_run.2.1 17 = .ok (.sipush 10000, 3) := by decide +kernel
theorem d_m_run_20 : decode y_m_run.2.1 20 = .ok (.if_icmp .le 6, 3) := by decide +kernel
theorem d_m_run_23 : decode y_m_run.2.1 23 = .ok (.bipush (-14), 2) := by decide +kernel
theorem d_m_run_25 : decode y_m_run.2.1 25 = .ok (.ireturn, 1) := by decide +kernel
theorem d_m_run_26 : decode y_m_run.2.1 26 = .ok (.aload_n 0, 1) := by decide +kernel
theorem d_m_run_27 : decode y_m_run.2.1 27 = .ok (.getfield 16, 3) := by decide +kernel
theorem d_m_run_30 : decode y_m_run.2.1 30 = .ok (.iload_n 1, 1) := by decide +kernel
theorem d_m_run_31 : decode y_m_run.2.1 31 = .ok (.invokevirtual 126, 3) := by decide +kernel
theorem d_m_run_34 : decode y_m_run.2.1 34 = .ok (.checkcast 137, 3) := by decide +kernel
theorem d_m_run_37 : decode y_m_run.2.1 37 = .ok (.astore_n 3, 1) := by decide +kernel
theorem d_m_run_38 : decode y_m_run.2.1 38 = .ok (.iconst 0, 1) := by decide +kernel
theorem d_m_run_39 : decode y_m_run.2.1 39 = .ok (.istore 4, 2) := by decide +kernel
theorem d_m_run_41 : decode y_m_run.2.1 41 = .ok (.iload 4, 2) := by decide +kernel
theorem d_m_run_43 : decode y_m_run.2.1 43 = .ok (.iload_n 2, 1) := by decide +kernel
theorem d_m_run_44 : decode y_m_run.2.1 44 = .ok (.if_icmp .ge 76, 3) := by decide +kernel
theorem d_m_run_47 : decode y_m_run.2.1 47 = .ok (.aload_n 3, 1) := by decide +kernel
theorem d_m_run_48 : decode y_m_run.2.1 48 = .ok (.getfield 163, 3) := by decide +kernel
theorem d_m_run_51 : decode y_m_run.2.1 51 = .ok (.ifCond .ne 69, 3) := by decide +kernel
theorem d_m_run_54 : decode y_m_run.2.1 54 = .ok (.aload_n 0, 1) := by decide +kernel
theorem d_m_run_55 : decode y_m_run.2.1 55 = .ok (.aload_n 3, 1) := by decide +kernel
theorem d_m_run_56 : decode y_m_run.2.1 56 = .ok (.invokevirtual 166, 3) := by decide +kernel
theorem d_m_run_59 : decode y_m_run.2.1 59 = .ok (.ifCond .ne 61, 3) := by decide +kernel
theorem d_m_run_62 : decode y_m_run.2.1 62 = .ok (.aload_n 0, 1) := by decide +kernel
theorem d_m_run_63 : decode y_m_run.2.1 63 = .ok (.getfield 19, 3) := by decide +kernel
theorem d_m_run_66 : decode y_m_run.2.1 66 = .ok (.invokevirtual 33, 3) := by decide +kernel
theorem d_m_run_69 : decode y_m_run.2.1 69 = .ok (.sipush 2000, 3) := by decide +kernel
theorem d_m_run_72 : decode y_m_run.2.1 72 = .ok (.if_icmp .ge 12, 3) := by decide +kernel
theorem d_m_run_75 : decode y_m_run.2.1 75 = .ok (.aload_n 0, 1) := by decide +kernel
theorem d_m_run_76 : decode y_m_run.2.1 76 = .ok (.getfield 170, 3) := by decide +kernel
theorem d_m_run_79 : decode y_m_run.2.1 79 = .ok (.ldc 173, 2) := by decide +kernel
theorem d_m_run_81 : decode y_m_run.2.1 81 = .ok (.if_icmp .lt 6, 3) := by decide +kernel
theorem d_m_run_84 : decode y_m_run.2.1 84 = .ok (.bipush (-12), 2) := by decide +kernel
theorem d_m_run_86 : decode y_m_run.2.1 86 = .ok (.ireturn, 1) := by decide +kernel
theorem d_m_run_87 : decode y_m_run.2.1 87 = .ok (.aload_n 3, 1) := by decide +kernel
theorem d_m_run_88 : decode y_m_run.2.1 88 = .ok (.iconst 0, 1) := by decide +kernel
theorem d_m_run_89 : decode y_m_run.2.1 89 = .ok (.putfield 152, 3) := by decide +kernel
theorem d_m_run_92 : decode y_m_run.2.1 92 = .ok (.aload_n 0, 1) := by decide +kernel
theorem d_m_run_93 : decode y_m_run.2.1 93 = .ok (.aload_n 3, 1) := by decide +kernel
theorem d_m_run_94 : decode y_m_run.2.1 94 = .ok (.invokevirtual 174, 3) := by decide +kernel
theorem d_m_run_97 : decode y_m_run.2.1 97 = .ok (.aload_n 3, 1) := by decide +kernel
theorem d_m_run_98 : decode y_m_run.2.1 98 = .ok (.getfield 152, 3) := by decide +kernel
theorem d_m_run_101 : decode y_m_run.2.1 101 = .ok (.ifCond .ne 13, 3) := by decide +kernel
theorem d_m_run_104 : decode y_m_run.2.1 104 = .ok (.aload_n 3, 1) := by decide +kernel
theorem d_m_run_105 : decode y_m_run.2.1 105 = .ok (.dup, 1) := by decide +kernel
theorem d_m_run_106 : decode y_m_run.2.1 106 = .ok (.getfield 178, 3) := by decide +kernel
theorem d_m_run_109 : decode y_m_run.2.1 109 = .ok (.iconst 1, 1) := by decide +kernel
theorem d_m_run_110 : decode y_m_run.2.1 110 = .ok (.iadd, 1) := by decide +kernel
theorem d_m_run_111 : decode y_m_run.2.1 111 = .ok (.putfield 178, 3) := by decide +kernel
theorem d_m_run_114 : decode y_m_run.2.1 114 = .ok (.iinc 4 1, 3) := by decide +kernel
theorem d_m_run_117 : decode y_m_run.2.1 117 = .ok (.goto (-76), 3) := by decide +kernel
theorem d_m_run_120 : decode y_m_run.2.1 120 = .ok (.aload_n 3, 1) := by decide +kernel
theorem d_m_run_121 : decode y_m_run.2.1 121 = .ok (.getfield 163, 3) := by decide +kernel
theorem d_m_run_124 : decode y_m_run.2.1 124 = .ok (.ifCond .le 10, 3) := by decide +kernel
theorem d_m_run_127 : decode y_m_run.2.1 127 = .ok (.aload_n 3, 1) := by decide +kernel
theorem d_m_run_128 : decode y_m_run.2.1 128 = .ok (.getfield 163, 3) := by decide +kernel
theorem d_m_run_131 : decode y_m_run.2.1 131 = .ok (.goto 16, 3) := by decide +kernel
theorem d_m_run_134 : decode y_m_run.2.1 134 = .ok (.aload_n 0, 1) := by decide +kernel
theorem d_m_run_135 : decode y_m_run.2.1 135 = .ok (.aload_n 3, 1) := by decide +kernel
theorem d_m_run_136 : decode y_m_run.2.1 136 = .ok (.invokevirtual 166, 3) := by decide +kernel
theorem d_m_run_139 : decode y_m_run.2.1 139 = .ok (.ifCond .eq 7, 3) := by decide +kernel
theorem d_m_run_142 : decode y_m_run.2.1 142 = .ok (.iconst 3, 1) := by decide +kernel
theorem d_m_run_143 : decode y_m_run.2.1 143 = .ok (.goto 4, 3) := by decide +kernel
theorem d_m_run_146 : decode y_m_run.2.1 146 = .ok (.iconst 0, 1) := by decide +kernel
theorem d_m_run_147 : decode y_m_run.2.1 147 = .ok (.ireturn, 1) := by decide +kernel
theorem d_m_isHeldUp_0 : decode y_m_isHeldUp.2.1 0 = .ok (.aload_n 1, 1) := by decide +kernel
theorem d_m_isHeldUp_1 : decode y_m_isHeldUp.2.1 1 = .ok (.getfield 152, 3) := by decide +kernel
theorem d_m_isHeldUp_4 : decode y_m_isHeldUp.2.1 4 = .ok (.ifCond .ne 5, 3) := by decide +kernel
theorem d_m_isHeldUp_7 : decode y_m_isHeldUp.2.1 7 = .ok (.iconst 0, 1) := by decide +kernel
theorem d_m_isHeldUp_8 : decode y_m_isHeldUp.2.1 8 = .ok (.ireturn, 1) := by decide +kernel
theorem d_m_isHeldUp_9 : decode y_m_isHeldUp.2.1 9 = .ok (.aload_n 0, 1) := by decide +kernel
theorem d_m_isHeldUp_10 : decode y_m_isHeldUp.2.1 10 = .ok (.getfield 19, 3) := by decide +kernel
theorem d_m_isHeldUp_13 : decode y_m_isHeldUp.2.1 13 = .ok (.aload_n 1, 1) := by decide +kernel
theorem d_m_isHeldUp_14 : decode y_m_isHeldUp.2.1 14 = .ok (.getfield 152, 3) := by decide +kernel
theorem d_m_isHeldUp_17 : decode y_m_isHeldUp.2.1 17 = .ok (.iconst 1, 1) := by decide +kernel
theorem d_m_isHeldUp_18 : decode y_m_isHeldUp.2.1 18 = .ok (.isub, 1) := by decide +kernel
theorem d_m_isHeldUp_19 : decode y_m_isHeldUp.2.1 19 = .ok (.invokevirtual 126, 3) := by decide +kernel
theorem d_m_isHeldUp_22 : decode y_m_isHeldUp.2.1 22 = .ok (.checkcast 155, 3) := by decide +kernel
theorem d_m_isHeldUp_25 : decode y_m_isHeldUp.2.1 25 = .ok (.astore_n 2, 1) := by decide +kernel
theorem d_m_isHeldUp_26 : decode y_m_isHeldUp.2.1 26 = .ok (.aload_n 2, 1) := by decide +kernel
theorem d_m_isHeldUp_27 : decode y_m_isHeldUp.2.1 27 = .ok (.getfield 157, 3) := by decide +kernel
theorem d_m_isHeldUp_30 : decode y_m_isHeldUp.2.1 30 = .ok (.ifCond .le 18, 3) := by decide +kernel
theorem d_m_isHeldUp_33 : decode y_m_isHeldUp.2.1 33 = .ok (.aload_n 2, 1) := by decide +kernel
theorem d_m_isHeldUp_34 : decode y_m_isHeldUp.2.1 34 = .ok (.getfield 160, 3) := by decide +kernel
theorem d_m_isHeldUp_37 : decode y_m_isHeldUp.2.1 37 = .ok (.aload_n 1, 1) := by decide +kernel
theorem d_m_isHeldUp_38 : decode y_m_isHeldUp.2.1 38 = .ok (.getfield 149, 3) := by decide +kernel
theorem d_m_isHeldUp_41 : decode y_m_isHeldUp.2.1 41 = .ok (.if_icmp .eq 7, 3) := by decide +kernel
theorem d_m_isHeldUp_44 : decode y_m_isHeldUp.2.1 44 = .ok (.iconst 1, 1) := by decide +kernel
theorem d_m_isHeldUp_45 : decode y_m_isHeldUp.2.1 45 = .ok (.goto 4, 3) := by decide +kernel
theorem d_m_isHeldUp_48 : decode y_m_isHeldUp.2.1 48 = .ok (.iconst 0, 1) := by decide +kernel
theorem d_m_isHeldUp_49 : decode y_m_isHeldUp.2.1 49 = .ok (.ireturn, 1) := by decide +kernel
theorem d_m_step_0 : decode y_m_step.2.1 0 = .ok (.aload_n 1, 1) := by decide +kernel
theorem d_m_step_1 : decode y_m_step.2.1 1 = .ok (.invokevirtual 186, 3) := by decide +kernel
theorem d_m_step_4 : decode y_m_step.2.1 4 = .ok (.astore_n 2, 1) := by decide +kernel
theorem d_m_step_5 : decode y_m_step.2.1 5 = .ok (.aload_n 2, 1) := by decide +kernel
theorem d_m_step_6 : decode y_m_step.2.1 6 = .ok (.getfield 190, 3) := by decide +kernel
theorem d_m_step_9 : decode y_m_step.2.1 9 = .ok (.getfield 59, 3) := by decide +kernel
theorem d_m_step_12 : decode y_m_step.2.1 12 = .ok (.aload_n 2, 1) := by decide +kernel
theorem d_m_step_13 : decode y_m_step.2.1 13 = .ok (.getfield 195, 3) := by decide +kernel
theorem d_m_step_16 : decode y_m_step.2.1 16 = .ok (.iaload, 1) := by decide +kernel
theorem d_m_step_17 : decode y_m_step.2.1 17 = .ok (.istore_n 3, 1) := by decide +kernel
theorem d_m_step_18 : decode y_m_step.2.1 18 = .ok (.aload_n 2, 1) := by decide +kernel
theorem d_m_step_19 : decode y_m_step.2.1 19 = .ok (.getfield 190, 3) := by decide +kernel
theorem d_m_step_22 : decode y_m_step.2.1 22 = .ok (.getfield 62, 3) := by decide +kernel
theorem d_m_step_25 : decode y_m_step.2.1 25 = .ok (.aload_n 2, 1) := by decide +kernel
theorem d_m_step_26 : decode y_m_step.2.1 26 = .ok (.getfield 195, 3) := by decide +kernel
theorem d_m_step_29 : decode y_m_step.2.1 29 = .ok (.iaload, 1) := by decide +kernel
theorem d_m_step_30 : decode y_m_step.2.1 30 = .ok (.istore 4, 2) := by decide +kernel
theorem d_m_step_32 : decode y_m_step.2.1 32 = .ok (.iload_n 3, 1) := by decide +kernel
theorem d_m_step_33 : decode y_m_step.2.1 33 = .ok (.tableswitch 161 11 24 #[71, 78, 78, 161, 161, 151, 151, 101, 110, 136, 136, 144, 151, 151], 71) := by decide +kernel
theorem d_m_step_104 : decode y_m_step.2.1 104 = .ok (.aload_n 2, 1) := by decide +kernel
theorem d_m_step_105 : decode y_m_step.2.1 105 = .ok (.iload 4, 2) := by decide +kernel
theorem d_m_step_107 : decode y_m_step.2.1 107 = .ok (.putfield 195, 3) := by decide +kernel
theorem d_m_step_110 : decode y_m_step.2.1 110 = .ok (.return_, 1) := by decide +kernel
theorem d_m_step_111 : decode y_m_step.2.1 111 = .ok (.aload_n 2, 1) := by decide +kernel
theorem d_m_step_112 : decode y_m_step.2.1 112 = .ok (.aload_n 2, 1) := by decide +kernel
theorem d_m_step_113 : decode y_m_step.2.1 113 = .ok (.invokevirtual 206, 3) := by decide +kernel
theorem d_m_step_116 : decode y_m_step.2.1 116 = .ok (.ifCond .ne 8, 3) := by decide +kernel
theorem d_m_step_119 : decode y_m_step.2.1 119 = .ok (.iload 4, 2) := by decide +kernel
theorem d_m_step_121 : decode y_m_step.2.1 121 = .ok (.goto 9, 3) := by decide +kernel
theorem d_m_step_124 : decode y_m_step.2.1 124 = .ok (.aload_n 2, 1) := by decide +kernel
theorem d_m_step_125 : decode y_m_step.2.1 125 = .ok (.getfield 195, 3) := by decide +kernel
theorem d_m_step_128 : decode y_m_step.2.1 128 = .ok (.iconst 1, 1) := by decide +kernel
theorem d_m_step_129 : decode y_m_step.2.1 129 = .ok (.iadd, 1) := by decide +kernel
theorem d_m_step_130 : decode y_m_step.2.1 130 = .ok (.putfield 195, 3) := by decide +kernel
theorem d_m_step_133 : decode y_m_step.2.1 133 = .ok (.return_, 1) := by decide +kernel
theorem d_m_step_134 : decode y_m_step.2.1 134 = .ok (.aload_n 0, 1) := by decide +kernel
theorem d_m_step_135 : decode y_m_step.2.1 135 = .ok (.aload_n 1, 1) := by decide +kernel
theorem d_m_step_136 : decode y_m_step.2.1 136 = .ok (.aload_n 2, 1) := by decide +kernel
theorem d_m_step_137 : decode y_m_step.2.1 137 = .ok (.iload 4, 2) := by decide +kernel
theorem d_m_step_139 : decode y_m_step.2.1 139 = .ok (.invokevirtual 209, 3) := by decide +kernel
theorem d_m_step_142 : decode y_m_step.2.1 142 = .ok (.return_, 1) := by decide +kernel
theorem d_m_step_143 : decode y_m_step.2.1 143 = .ok (.aload_n 0, 1) := by decide +kernel
theorem d_m_step_144 : decode y_m_step.2.1 144 = .ok (.aload_n 1, 1) := by decide +kernel
theorem d_m_step_145 : decode y_m_step.2.1 145 = .ok (.aload_n 2, 1) := by decide +kernel
theorem d_m_step_146 : decode y_m_step.2.1 146 = .ok (.invokevirtual 213, 3) := by decide +kernel
theorem d_m_step_149 : decode y_m_step.2.1 149 = .ok (.ifCond .ne 12, 3) := by decide +kernel
theorem d_m_step_152 : decode y_m_step.2.1 152 = .ok (.aload_n 0, 1) := by decide +kernel
theorem d_m_step_153 : decode y_m_step.2.1 153 = .ok (.bipush 6, 2) := by decide +kernel
theorem d_m_step_155 : decode y_m_step.2.1 155 = .ok (.invokevirtual 215, 3) := by decide +kernel
theorem d_m_step_158 : decode y_m_step.2.1 158 = .ok (.goto 7, 3) := by decide +kernel
theorem d_m_step_161 : decode y_m_step.2.1 161 = .ok (.aload_n 2, 1) := by decide +kernel
theorem d_m_step_162 : decode y_m_step.2.1 162 = .ok (.invokevirtual 213, 3) := by decide +kernel
theorem d_m_step_165 : decode y_m_step.2.1 165 = .ok (.invokevirtual 219, 3) := by decide +kernel
theorem d_m_step_168 : decode y_m_step.2.1 168 = .ok (.return_, 1) := by decide +kernel
theorem d_m_step_169 : decode y_m_step.2.1 169 = .ok (.aload_n 0, 1) := by decide +kernel
theorem d_m_step_170 : decode y_m_step.2.1 170 = .ok (.aload_n 1, 1) := by decide +kernel
theorem d_m_step_171 : decode y_m_step.2.1 171 = .ok (.aload_n 2, 1) := by decide +kernel
theorem d_m_step_172 : decode y_m_step.2.1 172 = .ok (.iload_n 3, 1) := by decide +kernel
theorem d_m_step_173 : decode y_m_step.2.1 173 = .ok (.invokevirtual 223, 3) := by decide +kernel
theorem d_m_step_176 : decode y_m_step.2.1 176 = .ok (.return_, 1) := by decide +kernel
theorem d_m_step_177 : decode y_m_step.2.1 177 = .ok (.aload_n 0, 1) := by decide +kernel
theorem d_m_step_178 : decode y_m_step.2.1 178 = .ok (.aload_n 1, 1) := by decide +kernel
theorem d_m_step_179 : decode y_m_step.2.1 179 = .ok (.aload_n 2, 1) := by decide +kernel
theorem d_m_step_180 : decode y_m_step.2.1 180 = .ok (.invokevirtual 226, 3) := by decide +kernel
theorem d_m_step_183 : decode y_m_step.2.1 183 = .ok (.return_, 1) := by decide +kernel
theorem d_m_step_184 : decode y_m_step.2.1 184 = .ok (.aload_n 0, 1) := by decide +kernel
theorem d_m_step_185 : decode y_m_step.2.1 185 = .ok (.aload_n 1, 1) := by decide +kernel
theorem d_m_step_186 : decode y_m_step.2.1 186 = .ok (.aload_n 2, 1) := by decide +kernel
theorem d_m_step_187 : decode y_m_step.2.1 187 = .ok (.iload_n 3, 1) := by decide +kernel
theorem d_m_step_188 : decode y_m_step.2.1 188 = .ok (.iload 4, 2) := by decide +kernel
theorem d_m_step_190 : decode y_m_step.2.1 190 = .ok (.invokevirtual 230, 3) := by decide +kernel
theorem d_m_step_193 : decode y_m_step.2.1 193 = .ok (.return_, 1) := by decide +kernel
theorem d_m_step_194 : decode y_m_step.2.1 194 = .ok (.aload_n 0, 1) := by decide +kernel
theorem d_m_step_195 : decode y_m_step.2.1 195 = .ok (.aload_n 1, 1) := by decide +kernel
theorem d_m_step_196 : decode y_m_step.2.1 196 = .ok (.aload_n 2, 1) := by decide +kernel
theorem d_m_step_197 : decode y_m_step.2.1 197 = .ok (.iload_n 3, 1) := by decide +kernel
theorem d_m_step_198 : decode y_m_step.2.1 198 = .ok (.iload 4, 2) := by decide +kernel
theorem d_m_step_200 : decode y_m_step.2.1 200 = .ok (.invokevirtual 234, 3) := by decide +kernel
theorem d_m_step_203 : decode y_m_step.2.1 203 = .ok (.return_, 1) := by decide +kernel
theorem d_mT_top_0 : decode y_mT_top.2.1 0 = .ok (.aload_n 0, 1) := by decide +kernel
theorem d_mT_top_1 : decode y_mT_top.2.1 1 = .ok (.getfield 12, 3) := by decide +kernel
theorem d_mT_top_4 : decode y_mT_top.2.1 4 = .ok (.aload_n 0, 1) := by decide +kernel
theorem d_mT_top_5 : decode y_mT_top.2.1 5 = .ok (.getfield 22, 3) := by decide +kernel
theorem d_mT_top_8 : decode y_mT_top.2.1 8 = .ok (.iconst 1, 1) := by decide +kernel
theorem d_mT_top_9 : decode y_mT_top.2.1 9 = .ok (.isub, 1) := by decide +kernel
theorem d_mT_top_10 : decode y_mT_top.2.1 10 = .ok (.invokevirtual 37, 3) := by decide +kernel
theorem d_mT_top_13 : decode y_mT_top.2.1 13 = .ok (.checkcast 41, 3) := by decide +kernel
theorem d_mT_top_16 : decode y_mT_top.2.1 16 = .ok (.areturn, 1) := by decide +kernel
theorem d_mF_pop_0 : decode y_mF_pop.2.1 0 = .ok (.aload_n 0, 1) := by decide +kernel
theorem d_mF_pop_1 : decode y_mF_pop.2.1 1 = .ok (.dup, 1) := by decide +kernel
theorem d_mF_pop_2 : decode y_mF_pop.2.1 2 = .ok (.getfield 18, 3) := by decide +kernel
theorem d_mF_pop_5 : decode y_mF_pop.2.1 5 = .ok (.iconst 1, 1) := by decide +kernel
theorem d_mF_pop_6 : decode y_mF_pop.2.1 6 = .ok (.isub, 1) := by decide +kernel
theorem d_mF_pop_7 : decode y_mF_pop.2.1 7 = .ok (.putfield 18, 3) := by decide +kernel
theorem d_mF_pop_10 : decode y_mF_pop.2.1 10 = .ok (.aload_n 0, 1) := by decide +kernel
theorem d_mF_pop_11 : decode y_mF_pop.2.1 11 = .ok (.getfield 15, 3) := by decide +kernel
theorem d_mF_pop_14 : decode y_mF_pop.2.1 14 = .ok (.aload_n 0, 1) := by decide +kernel
theorem d_mF_pop_15 : decode y_mF_pop.2.1 15 = .ok (.getfield 18, 3) := by decide +kernel
theorem d_mF_pop_18 : decode y_mF_pop.2.1 18 = .ok (.iaload, 1) := by decide +kernel
theorem d_mF_pop_19 : decode y_mF_pop.2.1 19 = .ok (.ireturn, 1) := by decide +kernel
theorem d_m_call_0 : decode y_m_call.2.1 0 = .ok (.aload_n 1, 1) := by decide +kernel
theorem d_m_call_1 : decode y_m_call.2.1 1 = .ok (.getfield 183, 3) := by decide +kernel
theorem d_m_call_4 : decode y_m_call.2.1 4 = .ok (.bipush 30, 2) := by decide +kernel
theorem d_m_call_6 : decode y_m_call.2.1 6 = .ok (.if_icmp .ne 15, 3) := by decide +kernel
theorem d_m_call_9 : decode y_m_call.2.1 9 = .ok (.aload_n 0, 1) := by decide +kernel
theorem d_m_call_10 : decode y_m_call.2.1 10 = .ok (.aload_n 1, 1) := by decide +kernel
theorem d_m_call_11 : decode y_m_call.2.1 11 = .ok (.aload_n 0, 1) := by decide +kernel
theorem d_m_call_12 : decode y_m_call.2.1 12 = .ok (.bipush 9, 2) := by decide +kernel
theorem d_m_call_14 : decode y_m_call.2.1 14 = .ok (.invokevirtual 215, 3) := by decide +kernel
theorem d_m_call_17 : decode y_m_call.2.1 17 = .ok (.invokevirtual 219, 3) := by decide +kernel
theorem d_m_call_20 : decode y_m_call.2.1 20 = .ok (.return_, 1) := by decide +kernel
theorem d_m_call_21 : decode y_m_call.2.1 21 = .ok (.aload_n 0, 1) := by decide +kernel
theorem d_m_call_22 : decode y_m_call.2.1 22 = .ok (.getfield 10, 3) := by decide +kernel
theorem d_m_call_25 : decode y_m_call.2.1 25 = .ok (.iload_n 3, 1) := by decide +kernel
theorem d_m_call_26 : decode y_m_call.2.1 26 = .ok (.invokevirtual 126, 3) := by decide +kernel
theorem d_m_call_29 : decode y_m_call.2.1 29 = .ok (.checkcast 37, 3) := by decide +kernel
theorem d_m_call_32 : decode y_m_call.2.1 32 = .ok (.astore 4, 2) := by decide +kernel
theorem d_m_call_34 : decode y_m_call.2.1 34 = .ok (.aload_n 1, 1) := by decide +kernel
theorem d_m_call_35 : decode y_m_call.2.1 35 = .ok (.aload 4, 2) := by decide +kernel
theorem d_m_call_37 : decode y_m_call.2.1 37 = .ok (.iload_n 3, 1) := by decide +kernel
theorem d_m_call_38 : decode y_m_call.2.1 38 = .ok (.invokevirtual 145, 3) := by decide +kernel
theorem d_m_call_41 : decode y_m_call.2.1 41 = .ok (.astore 5, 2) := by decide +kernel
theorem d_m_call_43 : decode y_m_call.2.1 43 = .ok (.aload_n 2, 1) := by decide +kernel
theorem d_m_call_44 : decode y_m_call.2.1 44 = .ok (.dup, 1) := by decide +kernel
theorem d_m_call_45 : decode y_m_call.2.1 45 = .ok (.getfield 199, 3) := by decide +kernel
theorem d_m_call_48 : decode y_m_call.2.1 48 = .ok (.aload 4, 2) := by decide +kernel
theorem d_m_call_50 : decode y_m_call.2.1 50 = .ok (.getfield 87, 3) := by decide +kernel
theorem d_m_call_53 : decode y_m_call.2.1 53 = .ok (.isub, 1) := by decide +kernel
theorem d_m_call_54 : decode y_m_call.2.1 54 = .ok (.putfield 199, 3) := by decide +kernel
theorem d_m_call_57 : decode y_m_call.2.1 57 = .ok (.iconst 0, 1) := by decide +kernel
theorem d_m_call_58 : decode y_m_call.2.1 58 = .ok (.istore 6, 2) := by decide +kernel
theorem d_m_call_60 : decode y_m_call.2.1 60 = .ok (.iload 6, 2) := by decide +kernel
theorem d_m_call_62 : decode y_m_call.2.1 62 = .ok (.aload 4, 2) := by decide +kernel
theorem d_m_call_64 : decode y_m_call.2.1 64 = .ok (.getfield 87, 3) := by decide +kernel
theorem d_m_call_67 : decode y_m_call.2.1 67 = .ok (.if_icmp .ge 29, 3) := by decide +kernel
theorem d_m_call_70 : decode y_m_call.2.1 70 = .ok (.aload 5, 2) := by decide +kernel
theorem d_m_call_72 : decode y_m_call.2.1 72 = .ok (.getfield 237, 3) := by decide +kernel
theorem d_m_call_75 : decode y_m_call.2.1 75 = .ok (.iload 6, 2) := by decide +kernel
theorem d_m_call_77 : decode y_m_call.2.1 77 = .ok (.aload_n 2, 1) := by decide +kernel
theorem d_m_call_78 : decode y_m_call.2.1 78 = .ok (.getfield 238, 3) := by decide +kernel
theorem d_m_call_81 : decode y_m_call.2.1 81 = .ok (.aload_n 2, 1) := by decide +kernel
theorem d_m_call_82 : decode y_m_call.2.1 82 = .ok (.getfield 199, 3) := by decide +kernel
theorem d_m_call_85 : decode y_m_call.2.1 85 = .ok (.iload 6, 2) := by decide +kernel
theorem d_m_call_87 : decode y_m_call.2.1 87 = .ok (.iadd, 1) := by decide +kernel
theorem d_m_call_88 : decode y_m_call.2.1 88 = .ok (.iaload, 1) := by decide +kernel
theorem d_m_call_89 : decode y_m_call.2.1 89 = .ok (.iastore, 1) := by decide +kernel
theorem d_m_call_90 : decode y_m_call.2.1 90 = .ok (.iinc 6 1, 3) := by decide +kernel
theorem d_m_call_93 : decode y_m_call.2.1 93 = .ok (.goto (-33), 3) := by decide +kernel
theorem d_m_call_96 : decode y_m_call.2.1 96 = .ok (.return_, 1) := by decide +kernel
theorem d_m_fresh_0 : decode y_m_fresh.2.1 0 = .ok (.aload_n 0, 1) := by decide +kernel
theorem d_m_fresh_1 : decode y_m_fresh.2.1 1 = .ok (.getfield 19, 3) := by decide +kernel
theorem d_m_fresh_4 : decode y_m_fresh.2.1 4 = .ok (.new 155, 3) := by decide +kernel
theorem d_m_fresh_7 : decode y_m_fresh.2.1 7 = .ok (.dup, 1) := by decide +kernel
theorem d_m_fresh_8 : decode y_m_fresh.2.1 8 = .ok (.iload_n 1, 1) := by decide +kernel
theorem d_m_fresh_9 : decode y_m_fresh.2.1 9 = .ok (.invokespecial 181, 3) := by decide +kernel
theorem d_m_fresh_12 : decode y_m_fresh.2.1 12 = .ok (.invokevirtual 46, 3) := by decide +kernel
theorem d_m_fresh_15 : decode y_m_fresh.2.1 15 = .ok (.pop, 1) := by decide +kernel
theorem d_m_fresh_16 : decode y_m_fresh.2.1 16 = .ok (.aload_n 0, 1) := by decide +kernel
theorem d_m_fresh_17 : decode y_m_fresh.2.1 17 = .ok (.dup, 1) := by decide +kernel
theorem d_m_fresh_18 : decode y_m_fresh.2.1 18 = .ok (.getfield 170, 3) := by decide +kernel
theorem d_m_fresh_21 : decode y_m_fresh.2.1 21 = .ok (.iconst 1, 1) := by decide +kernel
theorem d_m_fresh_22 : decode y_m_fresh.2.1 22 = .ok (.iadd, 1) := by decide +kernel
theorem d_m_fresh_23 : decode y_m_fresh.2.1 23 = .ok (.putfield 170, 3) := by decide +kernel
theorem d_m_fresh_26 : decode y_m_fresh.2.1 26 = .ok (.aload_n 0, 1) := by decide +kernel
theorem d_m_fresh_27 : decode y_m_fresh.2.1 27 = .ok (.getfield 19, 3) := by decide +kernel
theorem d_m_fresh_30 : decode y_m_fresh.2.1 30 = .ok (.invokevirtual 33, 3) := by decide +kernel
theorem d_m_fresh_33 : decode y_m_fresh.2.1 33 = .ok (.ireturn, 1) := by decide +kernel
theorem d_mO_init_0 : decode y_mO_init.2.1 0 = .ok (.aload_n 0, 1) := by decide +kernel
theorem d_mO_init_1 : decode y_mO_init.2.1 1 = .ok (.invokespecial 1, 3) := by decide +kernel
theorem d_mO_init_4 : decode y_mO_init.2.1 4 = .ok (.aload_n 0, 1) := by decide +kernel
theorem d_mO_init_5 : decode y_mO_init.2.1 5 = .ok (.bipush 8, 2) := by decide +kernel
theorem d_mO_init_7 : decode y_mO_init.2.1 7 = .ok (.newarray .int, 2) := by decide +kernel
theorem d_mO_init_9 : decode y_mO_init.2.1 9 = .ok (.putfield 7, 3) := by decide +kernel
theorem d_mO_init_12 : decode y_mO_init.2.1 12 = .ok (.aload_n 0, 1) := by decide +kernel
theorem d_mO_init_13 : decode y_mO_init.2.1 13 = .ok (.iconst (-1), 1) := by decide +kernel
theorem d_mO_init_14 : decode y_mO_init.2.1 14 = .ok (.putfield 13, 3) := by decide +kernel
theorem d_mO_init_17 : decode y_mO_init.2.1 17 = .ok (.aload_n 0, 1) := by decide +kernel
theorem d_mO_init_18 : decode y_mO_init.2.1 18 = .ok (.iload_n 1, 1) := by decide +kernel
theorem d_mO_init_19 : decode y_mO_init.2.1 19 = .ok (.putfield 17, 3) := by decide +kernel
theorem d_mO_init_22 : decode y_mO_init.2.1 22 = .ok (.return_, 1) := by decide +kernel
theorem d_m_flies_0 : decode y_m_flies.2.1 0 = .ok (.aload_n 1, 1) := by decide +kernel
theorem d_m_flies_1 : decode y_m_flies.2.1 1 = .ok (.getfield 183, 3) := by decide +kernel
theorem d_m_flies_4 : decode y_m_flies.2.1 4 = .ok (.ifCond .le 142, 3) := by decide +kernel
theorem d_m_flies_7 : decode y_m_flies.2.1 7 = .ok (.aload_n 1, 1) := by decide +kernel
theorem d_m_flies_8 : decode y_m_flies.2.1 8 = .ok (.invokevirtual 186, 3) := by decide +kernel
theorem d_m_flies_11 : decode y_m_flies.2.1 11 = .ok (.astore_n 3, 1) := by decide +kernel
theorem d_m_flies_12 : decode y_m_flies.2.1 12 = .ok (.aload_n 3, 1) := by decide +kernel
theorem d_m_flies_13 : decode y_m_flies.2.1 13 = .ok (.getfield 190, 3) := by decide +kernel
theorem d_m_flies_16 : decode y_m_flies.2.1 16 = .ok (.astore 4, 2) := by decide +kernel
theorem d_m_flies_18 : decode y_m_flies.2.1 18 = .ok (.iconst 0, 1) := by decide +kernel
theorem d_m_flies_19 : decode y_m_flies.2.1 19 = .ok (.istore 5, 2) := by decide +kernel
theorem d_m_flies_21 : decode y_m_flies.2.1 21 = .ok (.iload 5, 2) := by decide +kernel
theorem d_m_flies_23 : decode y_m_flies.2.1 23 = .ok (.aload 4, 2) := by decide +kernel
theorem d_m_flies_25 : decode y_m_flies.2.1 25 = .ok (.getfield 69, 3) := by decide +kernel
theorem d_m_flies_28 : decode y_m_flies.2.1 28 = .ok (.if_icmp .ge 105, 3) := by decide +kernel
theorem d_m_flies_31 : decode y_m_flies.2.1 31 = .ok (.aload_n 3, 1) := by decide +kernel
theorem d_m_flies_32 : decode y_m_flies.2.1 32 = .ok (.getfield 195, 3) := by decide +kernel
theorem d_m_flies_35 : decode y_m_flies.2.1 35 = .ok (.aload 4, 2) := by decide +kernel
theorem d_m_flies_37 : decode y_m_flies.2.1 37 = .ok (.getfield 72, 3) := by decide +kernel
theorem d_m_flies_40 : decode y_m_flies.2.1 40 = .ok (.iload 5, 2) := by decide +kernel
theorem d_m_flies_42 : decode y_m_flies.2.1 42 = .ok (.iaload, 1) := by decide +kernel
theorem d_m_flies_43 : decode y_m_flies.2.1 43 = .ok (.if_icmp .lt 84, 3) := by decide +kernel
theorem d_m_flies_46 : decode y_m_flies.2.1 46 = .ok (.aload_n 3, 1) := by decide +kernel
theorem d_m_flies_47 : decode y_m_flies.2.1 47 = .ok (.getfield 195, 3) := by decide +kernel
theorem d_m_flies_50 : decode y_m_flies.2.1 50 = .ok (.aload 4, 2) := by decide +kernel
theorem d_m_flies_52 : decode y_m_flies.2.1 52 = .ok (.getfield 75, 3) := by decide +kernel
theorem d_m_flies_55 : decode y_m_flies.2.1 55 = .ok (.iload 5, 2) := by decide +kernel
theorem d_m_flies_57 : decode y_m_flies.2.1 57 = .ok (.iaload, 1) := by decide +kernel
theorem d_m_flies_58 : decode y_m_flies.2.1 58 = .ok (.if_icmp .ge 69, 3) := by decide +kernel
theorem d_m_flies_61 : decode y_m_flies.2.1 61 = .ok (.aload 4, 2) := by decide +kernel
theorem d_m_flies_63 : decode y_m_flies.2.1 63 = .ok (.getfield 81, 3) := by decide +kernel
theorem d_m_flies_66 : decode y_m_flies.2.1 66 = .ok (.iload 5, 2) := by decide +kernel
theorem d_m_flies_68 : decode y_m_flies.2.1 68 = .ok (.iaload, 1) := by decide +kernel
theorem d_m_flies_69 : decode y_m_flies.2.1 69 = .ok (.bipush 10, 2) := by decide +kernel
theorem d_m_flies_71 : decode y_m_flies.2.1 71 = .ok (.if_icmp .eq 33, 3) := by decide +kernel
theorem d_m_flies_74 : decode y_m_flies.2.1 74 = .ok (.aload 4, 2) := by decide +kernel
theorem d_m_flies_76 : decode y_m_flies.2.1 76 = .ok (.getfield 81, 3) := by decide +kernel
theorem d_m_flies_79 : decode y_m_flies.2.1 79 = .ok (.iload 5, 2) := by decide +kernel
theorem d_m_flies_81 : decode y_m_flies.2.1 81 = .ok (.iaload, 1) := by decide +kernel
theorem d_m_flies_82 : decode y_m_flies.2.1 82 = .ok (.aload_n 0, 1) := by decide +kernel
theorem d_m_flies_83 : decode y_m_flies.2.1 83 = .ok (.getfield 19, 3) := by decide +kernel
theorem d_m_flies_86 : decode y_m_flies.2.1 86 = .ok (.iload_n 2, 1) := by decide +kernel
theorem d_m_flies_87 : decode y_m_flies.2.1 87 = .ok (.iconst 1, 1) := by decide +kernel
theorem d_m_flies_88 : decode y_m_flies.2.1 88 = .ok (.isub, 1) := by decide +kernel
theorem d_m_flies_89 : decode y_m_flies.2.1 89 = .ok (.invokevirtual 126, 3) := by decide +kernel
theorem d_m_flies_92 : decode y_m_flies.2.1 92 = .ok (.checkcast 155, 3) := by decide +kernel
theorem d_m_flies_95 : decode y_m_flies.2.1 95 = .ok (.getfield 197, 3) := by decide +kernel
theorem d_m_flies_98 : decode y_m_flies.2.1 98 = .ok (.if_icmp .eq 6, 3) := by decide +kernel
theorem d_m_flies_101 : decode y_m_flies.2.1 101 = .ok (.goto 26, 3) := by decide +kernel
theorem d_m_flies_104 : decode y_m_flies.2.1 104 = .ok (.aload_n 3, 1) := by decide +kernel
theorem d_m_flies_105 : decode y_m_flies.2.1 105 = .ok (.iconst 0, 1) := by decide +kernel
theorem d_m_flies_106 : decode y_m_flies.2.1 106 = .ok (.putfield 199, 3) := by decide +kernel
theorem d_m_flies_109 : decode y_m_flies.2.1 109 = .ok (.aload_n 3, 1) := by decide +kernel
theorem d_m_flies_110 : decode y_m_flies.2.1 110 = .ok (.iload_n 2, 1) := by decide +kernel
theorem d_m_flies_111 : decode y_m_flies.2.1 111 = .ok (.invokevirtual 200, 3) := by decide +kernel
theorem d_m_flies_114 : decode y_m_flies.2.1 114 = .ok (.aload_n 3, 1) := by decide +kernel
theorem d_m_flies_115 : decode y_m_flies.2.1 115 = .ok (.aload 4, 2) := by decide +kernel
theorem d_m_flies_117 : decode y_m_flies.2.1 117 = .ok (.getfield 78, 3) := by decide +kernel
theorem d_m_flies_120 : decode y_m_flies.2.1 120 = .ok (.iload 5, 2) := by decide +kernel
theorem d_m_flies_122 : decode y_m_flies.2.1 122 = .ok (.iaload, 1) := by decide +kernel
theorem d_m_flies_123 : decode y_m_flies.2.1 123 = .ok (.putfield 195, 3) := by decide +kernel
theorem d_m_flies_126 : decode y_m_flies.2.1 126 = .ok (.return_, 1) := by decide +kernel
theorem d_m_flies_127 : decode y_m_flies.2.1 127 = .ok (.iinc 5 1, 3) := by decide +kernel
theorem d_m_flies_130 : decode y_m_flies.2.1 130 = .ok (.goto (-109), 3) := by decide +kernel
theorem d_m_flies_133 : decode y_m_flies.2.1 133 = .ok (.aload_n 1, 1) := by decide +kernel
theorem d_m_flies_134 : decode y_m_flies.2.1 134 = .ok (.dup, 1) := by decide +kernel
theorem d_m_flies_135 : decode y_m_flies.2.1 135 = .ok (.getfield 183, 3) := by decide +kernel
theorem d_m_flies_138 : decode y_m_flies.2.1 138 = .ok (.iconst 1, 1) := by decide +kernel
theorem d_m_flies_139 : decode y_m_flies.2.1 139 = .ok (.isub, 1) := by decide +kernel
theorem d_m_flies_140 : decode y_m_flies.2.1 140 = .ok (.putfield 183, 3) := by decide +kernel
