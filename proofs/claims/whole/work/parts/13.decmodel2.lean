theorem d_m_flies_143 : decode y_m_flies.2.1 143 = .ok (.goto (-143), 3) := by decide +kernel
theorem d_m_flies_146 : decode y_m_flies.2.1 146 = .ok (.aload_n 0, 1) := by decide +kernel
theorem d_m_flies_147 : decode y_m_flies.2.1 147 = .ok (.aload_n 1, 1) := by decide +kernel
theorem d_m_flies_148 : decode y_m_flies.2.1 148 = .ok (.iconst 2, 1) := by decide +kernel
theorem d_m_flies_149 : decode y_m_flies.2.1 149 = .ok (.iload_n 2, 1) := by decide +kernel
theorem d_m_flies_150 : decode y_m_flies.2.1 150 = .ok (.invokevirtual 202, 3) := by decide +kernel
theorem d_m_flies_153 : decode y_m_flies.2.1 153 = .ok (.return_, 1) := by decide +kernel
theorem d_mF_push_0 : decode y_mF_push.2.1 0 = .ok (.aload_n 0, 1) := by decide +kernel
theorem d_mF_push_1 : decode y_mF_push.2.1 1 = .ok (.getfield 15, 3) := by decide +kernel
theorem d_mF_push_4 : decode y_mF_push.2.1 4 = .ok (.aload_n 0, 1) := by decide +kernel
theorem d_mF_push_5 : decode y_mF_push.2.1 5 = .ok (.getfield 18, 3) := by decide +kernel
theorem d_mF_push_8 : decode y_mF_push.2.1 8 = .ok (.iload_n 1, 1) := by decide +kernel
theorem d_mF_push_9 : decode y_mF_push.2.1 9 = .ok (.iastore, 1) := by decide +kernel
theorem d_mF_push_10 : decode y_mF_push.2.1 10 = .ok (.aload_n 0, 1) := by decide +kernel
theorem d_mF_push_11 : decode y_mF_push.2.1 11 = .ok (.dup, 1) := by decide +kernel
theorem d_mF_push_12 : decode y_mF_push.2.1 12 = .ok (.getfield 18, 3) := by decide +kernel
theorem d_mF_push_15 : decode y_mF_push.2.1 15 = .ok (.iconst 1, 1) := by decide +kernel
theorem d_mF_push_16 : decode y_mF_push.2.1 16 = .ok (.iadd, 1) := by decide +kernel
theorem d_mF_push_17 : decode y_mF_push.2.1 17 = .ok (.putfield 18, 3) := by decide +kernel
theorem d_mF_push_20 : decode y_mF_push.2.1 20 = .ok (.return_, 1) := by decide +kernel
theorem d_m_over_0 : decode y_m_over.2.1 0 = .ok (.aload_n 1, 1) := by decide +kernel
theorem d_m_over_1 : decode y_m_over.2.1 1 = .ok (.iload_n 2, 1) := by decide +kernel
theorem d_m_over_2 : decode y_m_over.2.1 2 = .ok (.putfield 163, 3) := by decide +kernel
theorem d_m_over_5 : decode y_m_over.2.1 5 = .ok (.aload_n 1, 1) := by decide +kernel
theorem d_m_over_6 : decode y_m_over.2.1 6 = .ok (.iload_n 3, 1) := by decide +kernel
theorem d_m_over_7 : decode y_m_over.2.1 7 = .ok (.putfield 182, 3) := by decide +kernel
theorem d_m_over_10 : decode y_m_over.2.1 10 = .ok (.iconst 0, 1) := by decide +kernel
theorem d_m_over_11 : decode y_m_over.2.1 11 = .ok (.istore 4, 2) := by decide +kernel
theorem d_m_over_13 : decode y_m_over.2.1 13 = .ok (.iload 4, 2) := by decide +kernel
theorem d_m_over_15 : decode y_m_over.2.1 15 = .ok (.aload_n 0, 1) := by decide +kernel
theorem d_m_over_16 : decode y_m_over.2.1 16 = .ok (.getfield 19, 3) := by decide +kernel
theorem d_m_over_19 : decode y_m_over.2.1 19 = .ok (.invokevirtual 33, 3) := by decide +kernel
theorem d_m_over_22 : decode y_m_over.2.1 22 = .ok (.if_icmp .ge 50, 3) := by decide +kernel
theorem d_m_over_25 : decode y_m_over.2.1 25 = .ok (.aload_n 0, 1) := by decide +kernel
theorem d_m_over_26 : decode y_m_over.2.1 26 = .ok (.getfield 19, 3) := by decide +kernel
theorem d_m_over_29 : decode y_m_over.2.1 29 = .ok (.iload 4, 2) := by decide +kernel
theorem d_m_over_31 : decode y_m_over.2.1 31 = .ok (.invokevirtual 126, 3) := by decide +kernel
theorem d_m_over_34 : decode y_m_over.2.1 34 = .ok (.checkcast 155, 3) := by decide +kernel
theorem d_m_over_37 : decode y_m_over.2.1 37 = .ok (.astore 5, 2) := by decide +kernel
theorem d_m_over_39 : decode y_m_over.2.1 39 = .ok (.aload 5, 2) := by decide +kernel
theorem d_m_over_41 : decode y_m_over.2.1 41 = .ok (.getfield 160, 3) := by decide +kernel
theorem d_m_over_44 : decode y_m_over.2.1 44 = .ok (.aload_n 1, 1) := by decide +kernel
theorem d_m_over_45 : decode y_m_over.2.1 45 = .ok (.getfield 149, 3) := by decide +kernel
theorem d_m_over_48 : decode y_m_over.2.1 48 = .ok (.if_icmp .eq 6, 3) := by decide +kernel
theorem d_m_over_51 : decode y_m_over.2.1 51 = .ok (.goto 15, 3) := by decide +kernel
theorem d_m_over_54 : decode y_m_over.2.1 54 = .ok (.aload 5, 2) := by decide +kernel
theorem d_m_over_56 : decode y_m_over.2.1 56 = .ok (.iconst (-1), 1) := by decide +kernel
theorem d_m_over_57 : decode y_m_over.2.1 57 = .ok (.putfield 160, 3) := by decide +kernel
theorem d_m_over_60 : decode y_m_over.2.1 60 = .ok (.aload 5, 2) := by decide +kernel
theorem d_m_over_62 : decode y_m_over.2.1 62 = .ok (.iconst 0, 1) := by decide +kernel
theorem d_m_over_63 : decode y_m_over.2.1 63 = .ok (.putfield 157, 3) := by decide +kernel
theorem d_m_over_66 : decode y_m_over.2.1 66 = .ok (.iinc 4 1, 3) := by decide +kernel
theorem d_m_over_69 : decode y_m_over.2.1 69 = .ok (.goto (-56), 3) := by decide +kernel
theorem d_m_over_72 : decode y_m_over.2.1 72 = .ok (.return_, 1) := by decide +kernel
theorem d_mF_top_0 : decode y_mF_top.2.1 0 = .ok (.aload_n 0, 1) := by decide +kernel
theorem d_mF_top_1 : decode y_mF_top.2.1 1 = .ok (.getfield 15, 3) := by decide +kernel
theorem d_mF_top_4 : decode y_mF_top.2.1 4 = .ok (.aload_n 0, 1) := by decide +kernel
theorem d_mF_top_5 : decode y_mF_top.2.1 5 = .ok (.getfield 18, 3) := by decide +kernel
theorem d_mF_top_8 : decode y_mF_top.2.1 8 = .ok (.iconst 1, 1) := by decide +kernel
theorem d_mF_top_9 : decode y_mF_top.2.1 9 = .ok (.isub, 1) := by decide +kernel
theorem d_mF_top_10 : decode y_mF_top.2.1 10 = .ok (.iaload, 1) := by decide +kernel
theorem d_mF_top_11 : decode y_mF_top.2.1 11 = .ok (.ireturn, 1) := by decide +kernel
theorem d_m_monitor_0 : decode y_m_monitor.2.1 0 = .ok (.aload_n 2, 1) := by decide +kernel
theorem d_m_monitor_1 : decode y_m_monitor.2.1 1 = .ok (.invokevirtual 213, 3) := by decide +kernel
theorem d_m_monitor_4 : decode y_m_monitor.2.1 4 = .ok (.ifCond .ne 15, 3) := by decide +kernel
theorem d_m_monitor_7 : decode y_m_monitor.2.1 7 = .ok (.aload_n 0, 1) := by decide +kernel
theorem d_m_monitor_8 : decode y_m_monitor.2.1 8 = .ok (.aload_n 1, 1) := by decide +kernel
theorem d_m_monitor_9 : decode y_m_monitor.2.1 9 = .ok (.aload_n 0, 1) := by decide +kernel
theorem d_m_monitor_10 : decode y_m_monitor.2.1 10 = .ok (.bipush 6, 2) := by decide +kernel
theorem d_m_monitor_12 : decode y_m_monitor.2.1 12 = .ok (.invokevirtual 215, 3) := by decide +kernel
theorem d_m_monitor_15 : decode y_m_monitor.2.1 15 = .ok (.invokevirtual 219, 3) := by decide +kernel
theorem d_m_monitor_18 : decode y_m_monitor.2.1 18 = .ok (.return_, 1) := by decide +kernel
theorem d_m_monitor_19 : decode y_m_monitor.2.1 19 = .ok (.aload_n 0, 1) := by decide +kernel
theorem d_m_monitor_20 : decode y_m_monitor.2.1 20 = .ok (.getfield 19, 3) := by decide +kernel
theorem d_m_monitor_23 : decode y_m_monitor.2.1 23 = .ok (.aload_n 2, 1) := by decide +kernel
theorem d_m_monitor_24 : decode y_m_monitor.2.1 24 = .ok (.invokevirtual 213, 3) := by decide +kernel
theorem d_m_monitor_27 : decode y_m_monitor.2.1 27 = .ok (.iconst 1, 1) := by decide +kernel
theorem d_m_monitor_28 : decode y_m_monitor.2.1 28 = .ok (.isub, 1) := by decide +kernel
theorem d_m_monitor_29 : decode y_m_monitor.2.1 29 = .ok (.invokevirtual 126, 3) := by decide +kernel
theorem d_m_monitor_32 : decode y_m_monitor.2.1 32 = .ok (.checkcast 155, 3) := by decide +kernel
theorem d_m_monitor_35 : decode y_m_monitor.2.1 35 = .ok (.astore 4, 2) := by decide +kernel
theorem d_m_monitor_37 : decode y_m_monitor.2.1 37 = .ok (.aload 4, 2) := by decide +kernel
theorem d_m_monitor_39 : decode y_m_monitor.2.1 39 = .ok (.getfield 157, 3) := by decide +kernel
theorem d_m_monitor_42 : decode y_m_monitor.2.1 42 = .ok (.ifCond .le 19, 3) := by decide +kernel
theorem d_m_monitor_45 : decode y_m_monitor.2.1 45 = .ok (.aload 4, 2) := by decide +kernel
theorem d_m_monitor_47 : decode y_m_monitor.2.1 47 = .ok (.getfield 160, 3) := by decide +kernel
theorem d_m_monitor_50 : decode y_m_monitor.2.1 50 = .ok (.aload_n 1, 1) := by decide +kernel
theorem d_m_monitor_51 : decode y_m_monitor.2.1 51 = .ok (.getfield 149, 3) := by decide +kernel
theorem d_m_monitor_54 : decode y_m_monitor.2.1 54 = .ok (.if_icmp .eq 7, 3) := by decide +kernel
theorem d_m_monitor_57 : decode y_m_monitor.2.1 57 = .ok (.iconst 1, 1) := by decide +kernel
theorem d_m_monitor_58 : decode y_m_monitor.2.1 58 = .ok (.goto 4, 3) := by decide +kernel
theorem d_m_monitor_61 : decode y_m_monitor.2.1 61 = .ok (.iconst 0, 1) := by decide +kernel
theorem d_m_monitor_62 : decode y_m_monitor.2.1 62 = .ok (.istore 5, 2) := by decide +kernel
theorem d_m_monitor_64 : decode y_m_monitor.2.1 64 = .ok (.iload_n 3, 1) := by decide +kernel
theorem d_m_monitor_65 : decode y_m_monitor.2.1 65 = .ok (.bipush 20, 2) := by decide +kernel
theorem d_m_monitor_67 : decode y_m_monitor.2.1 67 = .ok (.if_icmp .ne 17, 3) := by decide +kernel
theorem d_m_monitor_70 : decode y_m_monitor.2.1 70 = .ok (.iload 5, 2) := by decide +kernel
theorem d_m_monitor_72 : decode y_m_monitor.2.1 72 = .ok (.ifCond .eq 12, 3) := by decide +kernel
theorem d_m_monitor_75 : decode y_m_monitor.2.1 75 = .ok (.aload_n 1, 1) := by decide +kernel
theorem d_m_monitor_76 : decode y_m_monitor.2.1 76 = .ok (.aload_n 2, 1) := by decide +kernel
theorem d_m_monitor_77 : decode y_m_monitor.2.1 77 = .ok (.invokevirtual 213, 3) := by decide +kernel
theorem d_m_monitor_80 : decode y_m_monitor.2.1 80 = .ok (.putfield 152, 3) := by decide +kernel
theorem d_m_monitor_83 : decode y_m_monitor.2.1 83 = .ok (.return_, 1) := by decide +kernel
theorem d_m_monitor_84 : decode y_m_monitor.2.1 84 = .ok (.iload_n 3, 1) := by decide +kernel
theorem d_m_monitor_85 : decode y_m_monitor.2.1 85 = .ok (.bipush 21, 2) := by decide +kernel
theorem d_m_monitor_87 : decode y_m_monitor.2.1 87 = .ok (.if_icmp .ne 28, 3) := by decide +kernel
theorem d_m_monitor_90 : decode y_m_monitor.2.1 90 = .ok (.iload 5, 2) := by decide +kernel
theorem d_m_monitor_92 : decode y_m_monitor.2.1 92 = .ok (.ifCond .ne 11, 3) := by decide +kernel
theorem d_m_monitor_95 : decode y_m_monitor.2.1 95 = .ok (.aload 4, 2) := by decide +kernel
theorem d_m_monitor_97 : decode y_m_monitor.2.1 97 = .ok (.getfield 157, 3) := by decide +kernel
theorem d_m_monitor_100 : decode y_m_monitor.2.1 100 = .ok (.ifCond .ne 15, 3) := by decide +kernel
theorem d_m_monitor_103 : decode y_m_monitor.2.1 103 = .ok (.aload_n 0, 1) := by decide +kernel
theorem d_m_monitor_104 : decode y_m_monitor.2.1 104 = .ok (.aload_n 1, 1) := by decide +kernel
theorem d_m_monitor_105 : decode y_m_monitor.2.1 105 = .ok (.aload_n 0, 1) := by decide +kernel
theorem d_m_monitor_106 : decode y_m_monitor.2.1 106 = .ok (.bipush 8, 2) := by decide +kernel
theorem d_m_monitor_108 : decode y_m_monitor.2.1 108 = .ok (.invokevirtual 215, 3) := by decide +kernel
theorem d_m_monitor_111 : decode y_m_monitor.2.1 111 = .ok (.invokevirtual 219, 3) := by decide +kernel
theorem d_m_monitor_114 : decode y_m_monitor.2.1 114 = .ok (.return_, 1) := by decide +kernel
theorem d_m_monitor_115 : decode y_m_monitor.2.1 115 = .ok (.aload 4, 2) := by decide +kernel
theorem d_m_monitor_117 : decode y_m_monitor.2.1 117 = .ok (.dup, 1) := by decide +kernel
theorem d_m_monitor_118 : decode y_m_monitor.2.1 118 = .ok (.getfield 157, 3) := by decide +kernel
theorem d_m_monitor_121 : decode y_m_monitor.2.1 121 = .ok (.iload_n 3, 1) := by decide +kernel
theorem d_m_monitor_122 : decode y_m_monitor.2.1 122 = .ok (.bipush 20, 2) := by decide +kernel
theorem d_m_monitor_124 : decode y_m_monitor.2.1 124 = .ok (.if_icmp .ne 7, 3) := by decide +kernel
theorem d_m_monitor_127 : decode y_m_monitor.2.1 127 = .ok (.iconst 1, 1) := by decide +kernel
theorem d_m_monitor_128 : decode y_m_monitor.2.1 128 = .ok (.goto 4, 3) := by decide +kernel
theorem d_m_monitor_131 : decode y_m_monitor.2.1 131 = .ok (.iconst (-1), 1) := by decide +kernel
theorem d_m_monitor_132 : decode y_m_monitor.2.1 132 = .ok (.iadd, 1) := by decide +kernel
theorem d_m_monitor_133 : decode y_m_monitor.2.1 133 = .ok (.putfield 157, 3) := by decide +kernel
theorem d_m_monitor_136 : decode y_m_monitor.2.1 136 = .ok (.aload 4, 2) := by decide +kernel
theorem d_m_monitor_138 : decode y_m_monitor.2.1 138 = .ok (.aload 4, 2) := by decide +kernel
theorem d_m_monitor_140 : decode y_m_monitor.2.1 140 = .ok (.getfield 157, 3) := by decide +kernel
theorem d_m_monitor_143 : decode y_m_monitor.2.1 143 = .ok (.ifCond .ne 7, 3) := by decide +kernel
theorem d_m_monitor_146 : decode y_m_monitor.2.1 146 = .ok (.iconst (-1), 1) := by decide +kernel
theorem d_m_monitor_147 : decode y_m_monitor.2.1 147 = .ok (.goto 7, 3) := by decide +kernel
theorem d_m_monitor_150 : decode y_m_monitor.2.1 150 = .ok (.aload_n 1, 1) := by decide +kernel
theorem d_m_monitor_151 : decode y_m_monitor.2.1 151 = .ok (.getfield 149, 3) := by decide +kernel
theorem d_m_monitor_154 : decode y_m_monitor.2.1 154 = .ok (.putfield 160, 3) := by decide +kernel
theorem d_m_monitor_157 : decode y_m_monitor.2.1 157 = .ok (.aload_n 2, 1) := by decide +kernel
theorem d_m_monitor_158 : decode y_m_monitor.2.1 158 = .ok (.dup, 1) := by decide +kernel
theorem d_m_monitor_159 : decode y_m_monitor.2.1 159 = .ok (.getfield 199, 3) := by decide +kernel
theorem d_m_monitor_162 : decode y_m_monitor.2.1 162 = .ok (.iconst 1, 1) := by decide +kernel
theorem d_m_monitor_163 : decode y_m_monitor.2.1 163 = .ok (.isub, 1) := by decide +kernel
theorem d_m_monitor_164 : decode y_m_monitor.2.1 164 = .ok (.putfield 199, 3) := by decide +kernel
theorem d_m_monitor_167 : decode y_m_monitor.2.1 167 = .ok (.aload_n 2, 1) := by decide +kernel
theorem d_m_monitor_168 : decode y_m_monitor.2.1 168 = .ok (.dup, 1) := by decide +kernel
theorem d_m_monitor_169 : decode y_m_monitor.2.1 169 = .ok (.getfield 195, 3) := by decide +kernel
theorem d_m_monitor_172 : decode y_m_monitor.2.1 172 = .ok (.iconst 1, 1) := by decide +kernel
theorem d_m_monitor_173 : decode y_m_monitor.2.1 173 = .ok (.iadd, 1) := by decide +kernel
theorem d_m_monitor_174 : decode y_m_monitor.2.1 174 = .ok (.putfield 195, 3) := by decide +kernel
theorem d_m_monitor_177 : decode y_m_monitor.2.1 177 = .ok (.return_, 1) := by decide +kernel
theorem d_m_ends_0 : decode y_m_ends.2.1 0 = .ok (.aload_n 2, 1) := by decide +kernel
theorem d_m_ends_1 : decode y_m_ends.2.1 1 = .ok (.getfield 190, 3) := by decide +kernel
theorem d_m_ends_4 : decode y_m_ends.2.1 4 = .ok (.getfield 117, 3) := by decide +kernel
theorem d_m_ends_7 : decode y_m_ends.2.1 7 = .ok (.ifCond .ne 7, 3) := by decide +kernel
theorem d_m_ends_10 : decode y_m_ends.2.1 10 = .ok (.iconst 0, 1) := by decide +kernel
theorem d_m_ends_11 : decode y_m_ends.2.1 11 = .ok (.goto 7, 3) := by decide +kernel
theorem d_m_ends_14 : decode y_m_ends.2.1 14 = .ok (.aload_n 2, 1) := by decide +kernel
theorem d_m_ends_15 : decode y_m_ends.2.1 15 = .ok (.invokevirtual 206, 3) := by decide +kernel
theorem d_m_ends_18 : decode y_m_ends.2.1 18 = .ok (.istore_n 3, 1) := by decide +kernel
theorem d_m_ends_19 : decode y_m_ends.2.1 19 = .ok (.aload_n 1, 1) := by decide +kernel
theorem d_m_ends_20 : decode y_m_ends.2.1 20 = .ok (.dup, 1) := by decide +kernel
theorem d_m_ends_21 : decode y_m_ends.2.1 21 = .ok (.getfield 183, 3) := by decide +kernel
theorem d_m_ends_24 : decode y_m_ends.2.1 24 = .ok (.iconst 1, 1) := by decide +kernel
theorem d_m_ends_25 : decode y_m_ends.2.1 25 = .ok (.isub, 1) := by decide +kernel
theorem d_m_ends_26 : decode y_m_ends.2.1 26 = .ok (.putfield 183, 3) := by decide +kernel
theorem d_m_ends_29 : decode y_m_ends.2.1 29 = .ok (.aload_n 1, 1) := by decide +kernel
theorem d_m_ends_30 : decode y_m_ends.2.1 30 = .ok (.getfield 183, 3) := by decide +kernel
theorem d_m_ends_33 : decode y_m_ends.2.1 33 = .ok (.ifCond .ne 11, 3) := by decide +kernel
theorem d_m_ends_36 : decode y_m_ends.2.1 36 = .ok (.aload_n 0, 1) := by decide +kernel
theorem d_m_ends_37 : decode y_m_ends.2.1 37 = .ok (.aload_n 1, 1) := by decide +kernel
theorem d_m_ends_38 : decode y_m_ends.2.1 38 = .ok (.iconst 1, 1) := by decide +kernel
theorem d_m_ends_39 : decode y_m_ends.2.1 39 = .ok (.iload_n 3, 1) := by decide +kernel
theorem d_m_ends_40 : decode y_m_ends.2.1 40 = .ok (.invokevirtual 202, 3) := by decide +kernel
theorem d_m_ends_43 : decode y_m_ends.2.1 43 = .ok (.return_, 1) := by decide +kernel
theorem d_m_ends_44 : decode y_m_ends.2.1 44 = .ok (.aload_n 1, 1) := by decide +kernel
theorem d_m_ends_45 : decode y_m_ends.2.1 45 = .ok (.invokevirtual 186, 3) := by decide +kernel
theorem d_m_ends_48 : decode y_m_ends.2.1 48 = .ok (.astore 4, 2) := by decide +kernel
theorem d_m_ends_50 : decode y_m_ends.2.1 50 = .ok (.aload_n 2, 1) := by decide +kernel
theorem d_m_ends_51 : decode y_m_ends.2.1 51 = .ok (.getfield 190, 3) := by decide +kernel
theorem d_m_ends_54 : decode y_m_ends.2.1 54 = .ok (.getfield 117, 3) := by decide +kernel
theorem d_m_ends_57 : decode y_m_ends.2.1 57 = .ok (.ifCond .le 9, 3) := by decide +kernel
theorem d_m_ends_60 : decode y_m_ends.2.1 60 = .ok (.aload 4, 2) := by decide +kernel
theorem d_m_ends_62 : decode y_m_ends.2.1 62 = .ok (.iload_n 3, 1) := by decide +kernel
theorem d_m_ends_63 : decode y_m_ends.2.1 63 = .ok (.invokevirtual 200, 3) := by decide +kernel
theorem d_m_ends_66 : decode y_m_ends.2.1 66 = .ok (.aload 4, 2) := by decide +kernel
theorem d_m_ends_68 : decode y_m_ends.2.1 68 = .ok (.dup, 1) := by decide +kernel
theorem d_m_ends_69 : decode y_m_ends.2.1 69 = .ok (.getfield 195, 3) := by decide +kernel
theorem d_m_ends_72 : decode y_m_ends.2.1 72 = .ok (.iconst 1, 1) := by decide +kernel
theorem d_m_ends_73 : decode y_m_ends.2.1 73 = .ok (.iadd, 1) := by decide +kernel
theorem d_m_ends_74 : decode y_m_ends.2.1 74 = .ok (.putfield 195, 3) := by decide +kernel
theorem d_m_ends_77 : decode y_m_ends.2.1 77 = .ok (.return_, 1) := by decide +kernel
theorem d_m_field_0 : decode y_m_field.2.1 0 = .ok (.iload_n 3, 1) := by decide +kernel
theorem d_m_field_1 : decode y_m_field.2.1 1 = .ok (.bipush 17, 2) := by decide +kernel
theorem d_m_field_3 : decode y_m_field.2.1 3 = .ok (.if_icmp .eq 9, 3) := by decide +kernel
theorem d_m_field_6 : decode y_m_field.2.1 6 = .ok (.iload_n 3, 1) := by decide +kernel
theorem d_m_field_7 : decode y_m_field.2.1 7 = .ok (.bipush 24, 2) := by decide +kernel
theorem d_m_field_9 : decode y_m_field.2.1 9 = .ok (.if_icmp .ne 7, 3) := by decide +kernel
theorem d_m_field_12 : decode y_m_field.2.1 12 = .ok (.iconst 1, 1) := by decide +kernel
theorem d_m_field_13 : decode y_m_field.2.1 13 = .ok (.goto 4, 3) := by decide +kernel
theorem d_m_field_16 : decode y_m_field.2.1 16 = .ok (.iconst 0, 1) := by decide +kernel
theorem d_m_field_17 : decode y_m_field.2.1 17 = .ok (.istore 5, 2) := by decide +kernel
theorem d_m_field_19 : decode y_m_field.2.1 19 = .ok (.aload_n 2, 1) := by decide +kernel
theorem d_m_field_20 : decode y_m_field.2.1 20 = .ok (.getfield 238, 3) := by decide +kernel
theorem d_m_field_23 : decode y_m_field.2.1 23 = .ok (.aload_n 2, 1) := by decide +kernel
theorem d_m_field_24 : decode y_m_field.2.1 24 = .ok (.getfield 199, 3) := by decide +kernel
theorem d_m_field_27 : decode y_m_field.2.1 27 = .ok (.iload 5, 2) := by decide +kernel
theorem d_m_field_29 : decode y_m_field.2.1 29 = .ok (.ifCond .eq 7, 3) := by decide +kernel
theorem d_m_field_32 : decode y_m_field.2.1 32 = .ok (.iconst 2, 1) := by decide +kernel
theorem d_m_field_33 : decode y_m_field.2.1 33 = .ok (.goto 4, 3) := by decide +kernel
theorem d_m_field_36 : decode y_m_field.2.1 36 = .ok (.iconst 1, 1) := by decide +kernel
theorem d_m_field_37 : decode y_m_field.2.1 37 = .ok (.isub, 1) := by decide +kernel
theorem d_m_field_38 : decode y_m_field.2.1 38 = .ok (.iaload, 1) := by decide +kernel
theorem d_m_field_39 : decode y_m_field.2.1 39 = .ok (.istore 6, 2) := by decide +kernel
theorem d_m_field_41 : decode y_m_field.2.1 41 = .ok (.iload 6, 2) := by decide +kernel
theorem d_m_field_43 : decode y_m_field.2.1 43 = .ok (.ifCond .ne 15, 3) := by decide +kernel
theorem d_m_field_46 : decode y_m_field.2.1 46 = .ok (.aload_n 0, 1) := by decide +kernel
theorem d_m_field_47 : decode y_m_field.2.1 47 = .ok (.aload_n 1, 1) := by decide +kernel
theorem d_m_field_48 : decode y_m_field.2.1 48 = .ok (.aload_n 0, 1) := by decide +kernel
theorem d_m_field_49 : decode y_m_field.2.1 49 = .ok (.bipush 6, 2) := by decide +kernel
theorem d_m_field_51 : decode y_m_field.2.1 51 = .ok (.invokevirtual 215, 3) := by decide +kernel
theorem d_m_field_54 : decode y_m_field.2.1 54 = .ok (.invokevirtual 219, 3) := by decide +kernel
theorem d_m_field_57 : decode y_m_field.2.1 57 = .ok (.return_, 1) := by decide +kernel
theorem d_m_field_58 : decode y_m_field.2.1 58 = .ok (.aload_n 0, 1) := by decide +kernel
theorem d_m_field_59 : decode y_m_field.2.1 59 = .ok (.getfield 19, 3) := by decide +kernel
theorem d_m_field_62 : decode y_m_field.2.1 62 = .ok (.iload 6, 2) := by decide +kernel
theorem d_m_field_64 : decode y_m_field.2.1 64 = .ok (.iconst 1, 1) := by decide +kernel
theorem d_m_field_65 : decode y_m_field.2.1 65 = .ok (.isub, 1) := by decide +kernel
theorem d_m_field_66 : decode y_m_field.2.1 66 = .ok (.invokevirtual 126, 3) := by decide +kernel
theorem d_m_field_69 : decode y_m_field.2.1 69 = .ok (.checkcast 155, 3) := by decide +kernel
theorem d_m_field_72 : decode y_m_field.2.1 72 = .ok (.getfield 241, 3) := by decide +kernel
theorem d_m_field_75 : decode y_m_field.2.1 75 = .ok (.astore 7, 2) := by decide +kernel
theorem d_m_field_77 : decode y_m_field.2.1 77 = .ok (.iload 5, 2) := by decide +kernel
theorem d_m_field_79 : decode y_m_field.2.1 79 = .ok (.ifCond .eq 25, 3) := by decide +kernel
theorem d_m_field_82 : decode y_m_field.2.1 82 = .ok (.aload 7, 2) := by decide +kernel
theorem d_m_field_84 : decode y_m_field.2.1 84 = .ok (.iload 4, 2) := by decide +kernel
theorem d_m_field_86 : decode y_m_field.2.1 86 = .ok (.aload_n 2, 1) := by decide +kernel
theorem d_m_field_87 : decode y_m_field.2.1 87 = .ok (.invokevirtual 206, 3) := by decide +kernel
theorem d_m_field_90 : decode y_m_field.2.1 90 = .ok (.iastore, 1) := by decide +kernel
theorem d_m_field_91 : decode y_m_field.2.1 91 = .ok (.aload_n 2, 1) := by decide +kernel
theorem d_m_field_92 : decode y_m_field.2.1 92 = .ok (.dup, 1) := by decide +kernel
theorem d_m_field_93 : decode y_m_field.2.1 93 = .ok (.getfield 199, 3) := by decide +kernel
theorem d_m_field_96 : decode y_m_field.2.1 96 = .ok (.iconst 1, 1) := by decide +kernel
theorem d_m_field_97 : decode y_m_field.2.1 97 = .ok (.isub, 1) := by decide +kernel
theorem d_m_field_98 : decode y_m_field.2.1 98 = .ok (.putfield 199, 3) := by decide +kernel
theorem d_m_field_101 : decode y_m_field.2.1 101 = .ok (.goto 22, 3) := by decide +kernel
theorem d_m_field_104 : decode y_m_field.2.1 104 = .ok (.aload_n 2, 1) := by decide +kernel
theorem d_m_field_105 : decode y_m_field.2.1 105 = .ok (.dup, 1) := by decide +kernel
theorem d_m_field_106 : decode y_m_field.2.1 106 = .ok (.getfield 199, 3) := by decide +kernel
theorem d_m_field_109 : decode y_m_field.2.1 109 = .ok (.iconst 1, 1) := by decide +kernel
theorem d_m_field_110 : decode y_m_field.2.1 110 = .ok (.isub, 1) := by decide +kernel
theorem d_m_field_111 : decode y_m_field.2.1 111 = .ok (.putfield 199, 3) := by decide +kernel
theorem d_m_field_114 : decode y_m_field.2.1 114 = .ok (.aload_n 2, 1) := by decide +kernel
theorem d_m_field_115 : decode y_m_field.2.1 115 = .ok (.aload 7, 2) := by decide +kernel
theorem d_m_field_117 : decode y_m_field.2.1 117 = .ok (.iload 4, 2) := by decide +kernel
theorem d_m_field_119 : decode y_m_field.2.1 119 = .ok (.iaload, 1) := by decide +kernel
theorem d_m_field_120 : decode y_m_field.2.1 120 = .ok (.invokevirtual 200, 3) := by decide +kernel
theorem d_m_field_123 : decode y_m_field.2.1 123 = .ok (.aload_n 2, 1) := by decide +kernel
theorem d_m_field_124 : decode y_m_field.2.1 124 = .ok (.dup, 1) := by decide +kernel
theorem d_m_field_125 : decode y_m_field.2.1 125 = .ok (.getfield 195, 3) := by decide +kernel
theorem d_m_field_128 : decode y_m_field.2.1 128 = .ok (.iconst 1, 1) := by decide +kernel
theorem d_m_field_129 : decode y_m_field.2.1 129 = .ok (.iadd, 1) := by decide +kernel
theorem d_m_field_130 : decode y_m_field.2.1 130 = .ok (.putfield 195, 3) := by decide +kernel
theorem d_m_field_133 : decode y_m_field.2.1 133 = .ok (.return_, 1) := by decide +kernel
theorem d_m_plain_0 : decode y_m_plain.2.1 0 = .ok (.iload_n 3, 1) := by decide +kernel
theorem d_m_plain_1 : decode y_m_plain.2.1 1 = .ok (.bipush 7, 2) := by decide +kernel
theorem d_m_plain_3 : decode y_m_plain.2.1 3 = .ok (.if_icmp .ne 22, 3) := by decide +kernel
theorem d_m_plain_6 : decode y_m_plain.2.1 6 = .ok (.aload_n 2, 1) := by decide +kernel
theorem d_m_plain_7 : decode y_m_plain.2.1 7 = .ok (.invokevirtual 213, 3) := by decide +kernel
theorem d_m_plain_10 : decode y_m_plain.2.1 10 = .ok (.ifCond .ne 15, 3) := by decide +kernel
theorem d_m_plain_13 : decode y_m_plain.2.1 13 = .ok (.aload_n 0, 1) := by decide +kernel
theorem d_m_plain_14 : decode y_m_plain.2.1 14 = .ok (.aload_n 1, 1) := by decide +kernel
theorem d_m_plain_15 : decode y_m_plain.2.1 15 = .ok (.aload_n 0, 1) := by decide +kernel
theorem d_m_plain_16 : decode y_m_plain.2.1 16 = .ok (.bipush 7, 2) := by decide +kernel
theorem d_m_plain_18 : decode y_m_plain.2.1 18 = .ok (.invokevirtual 215, 3) := by decide +kernel
theorem d_m_plain_21 : decode y_m_plain.2.1 21 = .ok (.invokevirtual 219, 3) := by decide +kernel
theorem d_m_plain_24 : decode y_m_plain.2.1 24 = .ok (.return_, 1) := by decide +kernel
theorem d_m_plain_25 : decode y_m_plain.2.1 25 = .ok (.iload_n 3, 1) := by decide +kernel
theorem d_m_plain_26 : decode y_m_plain.2.1 26 = .ok (.ifCond .ne 12, 3) := by decide +kernel
theorem d_m_plain_29 : decode y_m_plain.2.1 29 = .ok (.aload_n 2, 1) := by decide +kernel
theorem d_m_plain_30 : decode y_m_plain.2.1 30 = .ok (.iload 4, 2) := by decide +kernel
theorem d_m_plain_32 : decode y_m_plain.2.1 32 = .ok (.invokevirtual 200, 3) := by decide +kernel
theorem d_m_plain_35 : decode y_m_plain.2.1 35 = .ok (.goto 282, 3) := by decide +kernel
theorem d_m_plain_38 : decode y_m_plain.2.1 38 = .ok (.iload_n 3, 1) := by decide +kernel
theorem d_m_plain_39 : decode y_m_plain.2.1 39 = .ok (.iconst 1, 1) := by decide +kernel
theorem d_m_plain_40 : decode y_m_plain.2.1 40 = .ok (.if_icmp .ne 11, 3) := by decide +kernel
theorem d_m_plain_43 : decode y_m_plain.2.1 43 = .ok (.aload_n 2, 1) := by decide +kernel
theorem d_m_plain_44 : decode y_m_plain.2.1 44 = .ok (.iconst 0, 1) := by decide +kernel
theorem d_m_plain_45 : decode y_m_plain.2.1 45 = .ok (.invokevirtual 200, 3) := by decide +kernel
theorem d_m_plain_48 : decode y_m_plain.2.1 48 = .ok (.goto 269, 3) := by decide +kernel
theorem d_m_plain_51 : decode y_m_plain.2.1 51 = .ok (.iload_n 3, 1) := by decide +kernel
theorem d_m_plain_52 : decode y_m_plain.2.1 52 = .ok (.iconst 2, 1) := by decide +kernel
theorem d_m_plain_53 : decode y_m_plain.2.1 53 = .ok (.if_icmp .ne 16, 3) := by decide +kernel
theorem d_m_plain_56 : decode y_m_plain.2.1 56 = .ok (.aload_n 2, 1) := by decide +kernel
theorem d_m_plain_57 : decode y_m_plain.2.1 57 = .ok (.dup, 1) := by decide +kernel
theorem d_m_plain_58 : decode y_m_plain.2.1 58 = .ok (.getfield 199, 3) := by decide +kernel
theorem d_m_plain_61 : decode y_m_plain.2.1 61 = .ok (.iconst 1, 1) := by decide +kernel
theorem d_m_plain_62 : decode y_m_plain.2.1 62 = .ok (.isub, 1) := by decide +kernel
theorem d_m_plain_63 : decode y_m_plain.2.1 63 = .ok (.putfield 199, 3) := by decide +kernel
theorem d_m_plain_66 : decode y_m_plain.2.1 66 = .ok (.goto 251, 3) := by decide +kernel
theorem d_m_plain_69 : decode y_m_plain.2.1 69 = .ok (.iload_n 3, 1) := by decide +kernel
theorem d_m_plain_70 : decode y_m_plain.2.1 70 = .ok (.iconst 3, 1) := by decide +kernel
theorem d_m_plain_71 : decode y_m_plain.2.1 71 = .ok (.if_icmp .ne 14, 3) := by decide +kernel
theorem d_m_plain_74 : decode y_m_plain.2.1 74 = .ok (.aload_n 2, 1) := by decide +kernel
theorem d_m_plain_75 : decode y_m_plain.2.1 75 = .ok (.aload_n 2, 1) := by decide +kernel
theorem d_m_plain_76 : decode y_m_plain.2.1 76 = .ok (.invokevirtual 213, 3) := by decide +kernel
theorem d_m_plain_79 : decode y_m_plain.2.1 79 = .ok (.invokevirtual 200, 3) := by decide +kernel
theorem d_m_plain_82 : decode y_m_plain.2.1 82 = .ok (.goto 235, 3) := by decide +kernel
theorem d_m_plain_85 : decode y_m_plain.2.1 85 = .ok (.iload_n 3, 1) := by decide +kernel
theorem d_m_plain_86 : decode y_m_plain.2.1 86 = .ok (.bipush 9, 2) := by decide +kernel
theorem d_m_plain_88 : decode y_m_plain.2.1 88 = .ok (.if_icmp .ne 17, 3) := by decide +kernel
theorem d_m_plain_91 : decode y_m_plain.2.1 91 = .ok (.aload_n 2, 1) := by decide +kernel
theorem d_m_plain_92 : decode y_m_plain.2.1 92 = .ok (.aload_n 2, 1) := by decide +kernel
theorem d_m_plain_93 : decode y_m_plain.2.1 93 = .ok (.getfield 237, 3) := by decide +kernel
theorem d_m_plain_96 : decode y_m_plain.2.1 96 = .ok (.iload 4, 2) := by decide +kernel
theorem d_m_plain_98 : decode y_m_plain.2.1 98 = .ok (.iaload, 1) := by decide +kernel
theorem d_m_plain_99 : decode y_m_plain.2.1 99 = .ok (.invokevirtual 200, 3) := by decide +kernel
theorem d_m_plain_102 : decode y_m_plain.2.1 102 = .ok (.goto 215, 3) := by decide +kernel
theorem d_m_plain_105 : decode y_m_plain.2.1 105 = .ok (.iload_n 3, 1) := by decide +kernel
theorem d_m_plain_106 : decode y_m_plain.2.1 106 = .ok (.bipush 10, 2) := by decide +kernel
theorem d_m_plain_108 : decode y_m_plain.2.1 108 = .ok (.if_icmp .ne 17, 3) := by decide +kernel
theorem d_m_plain_111 : decode y_m_plain.2.1 111 = .ok (.aload_n 2, 1) := by decide +kernel
theorem d_m_plain_112 : decode y_m_plain.2.1 112 = .ok (.getfield 237, 3) := by decide +kernel
theorem d_m_plain_115 : decode y_m_plain.2.1 115 = .ok (.iload 4, 2) := by decide +kernel
theorem d_m_plain_117 : decode y_m_plain.2.1 117 = .ok (.aload_n 2, 1) := by decide +kernel
theorem d_m_plain_118 : decode y_m_plain.2.1 118 = .ok (.invokevirtual 206, 3) := by decide +kernel
theorem d_m_plain_121 : decode y_m_plain.2.1 121 = .ok (.iastore, 1) := by decide +kernel
theorem d_m_plain_122 : decode y_m_plain.2.1 122 = .ok (.goto 195, 3) := by decide +kernel
theorem d_m_plain_125 : decode y_m_plain.2.1 125 = .ok (.iload_n 3, 1) := by decide +kernel
theorem d_m_plain_126 : decode y_m_plain.2.1 126 = .ok (.bipush 14, 2) := by decide +kernel
theorem d_m_plain_128 : decode y_m_plain.2.1 128 = .ok (.if_icmp .ne 16, 3) := by decide +kernel
theorem d_m_plain_131 : decode y_m_plain.2.1 131 = .ok (.aload_n 2, 1) := by decide +kernel
theorem d_m_plain_132 : decode y_m_plain.2.1 132 = .ok (.aload_n 0, 1) := by decide +kernel
theorem d_m_plain_133 : decode y_m_plain.2.1 133 = .ok (.iload 4, 2) := by decide +kernel
theorem d_m_plain_135 : decode y_m_plain.2.1 135 = .ok (.invokevirtual 215, 3) := by decide +kernel
theorem d_m_plain_138 : decode y_m_plain.2.1 138 = .ok (.invokevirtual 200, 3) := by decide +kernel
theorem d_m_plain_141 : decode y_m_plain.2.1 141 = .ok (.goto 176, 3) := by decide +kernel
theorem d_m_plain_144 : decode y_m_plain.2.1 144 = .ok (.iload_n 3, 1) := by decide +kernel
theorem d_m_plain_145 : decode y_m_plain.2.1 145 = .ok (.bipush 25, 2) := by decide +kernel
theorem d_m_plain_147 : decode y_m_plain.2.1 147 = .ok (.if_icmp .ne 17, 3) := by decide +kernel
theorem d_m_plain_150 : decode y_m_plain.2.1 150 = .ok (.aload_n 2, 1) := by decide +kernel
theorem d_m_plain_151 : decode y_m_plain.2.1 151 = .ok (.aload_n 0, 1) := by decide +kernel
theorem d_m_plain_152 : decode y_m_plain.2.1 152 = .ok (.getfield 22, 3) := by decide +kernel
theorem d_m_plain_155 : decode y_m_plain.2.1 155 = .ok (.iload 4, 2) := by decide +kernel
theorem d_m_plain_157 : decode y_m_plain.2.1 157 = .ok (.iaload, 1) := by decide +kernel
theorem d_m_plain_158 : decode y_m_plain.2.1 158 = .ok (.invokevirtual 200, 3) := by decide +kernel
theorem d_m_plain_161 : decode y_m_plain.2.1 161 = .ok (.goto 156, 3) := by decide +kernel
theorem d_m_plain_164 : decode y_m_plain.2.1 164 = .ok (.iload_n 3, 1) := by decide +kernel
theorem d_m_plain_165 : decode y_m_plain.2.1 165 = .ok (.bipush 26, 2) := by decide +kernel
theorem d_m_plain_167 : decode y_m_plain.2.1 167 = .ok (.if_icmp .ne 17, 3) := by decide +kernel
theorem d_m_plain_170 : decode y_m_plain.2.1 170 = .ok (.aload_n 0, 1) := by decide +kernel
theorem d_m_plain_171 : decode y_m_plain.2.1 171 = .ok (.getfield 22, 3) := by decide +kernel
theorem d_m_plain_174 : decode y_m_plain.2.1 174 = .ok (.iload 4, 2) := by decide +kernel
theorem d_m_plain_176 : decode y_m_plain.2.1 176 = .ok (.aload_n 2, 1) := by decide +kernel
theorem d_m_plain_177 : decode y_m_plain.2.1 177 = .ok (.invokevirtual 206, 3) := by decide +kernel
theorem d_m_plain_180 : decode y_m_plain.2.1 180 = .ok (.iastore, 1) := by decide +kernel
theorem d_m_plain_181 : decode y_m_plain.2.1 181 = .ok (.goto 136, 3) := by decide +kernel
theorem d_m_plain_184 : decode y_m_plain.2.1 184 = .ok (.iload_n 3, 1) := by decide +kernel
theorem d_m_plain_185 : decode y_m_plain.2.1 185 = .ok (.bipush 15, 2) := by decide +kernel
theorem d_m_plain_187 : decode y_m_plain.2.1 187 = .ok (.if_icmp .ne 48, 3) := by decide +kernel
theorem d_m_plain_190 : decode y_m_plain.2.1 190 = .ok (.aload_n 2, 1) := by decide +kernel
theorem d_m_plain_191 : decode y_m_plain.2.1 191 = .ok (.invokevirtual 206, 3) := by decide +kernel
theorem d_m_plain_194 : decode y_m_plain.2.1 194 = .ok (.istore 5, 2) := by decide +kernel
theorem d_m_plain_196 : decode y_m_plain.2.1 196 = .ok (.aload_n 2, 1) := by decide +kernel
theorem d_m_plain_197 : decode y_m_plain.2.1 197 = .ok (.iload 5, 2) := by decide +kernel
theorem d_m_plain_199 : decode y_m_plain.2.1 199 = .ok (.ifCond .eq 29, 3) := by decide +kernel
theorem d_m_plain_202 : decode y_m_plain.2.1 202 = .ok (.aload_n 0, 1) := by decide +kernel
theorem d_m_plain_203 : decode y_m_plain.2.1 203 = .ok (.getfield 19, 3) := by decide +kernel
theorem d_m_plain_206 : decode y_m_plain.2.1 206 = .ok (.iload 5, 2) := by decide +kernel
theorem d_m_plain_208 : decode y_m_plain.2.1 208 = .ok (.iconst 1, 1) := by decide +kernel
theorem d_m_plain_209 : decode y_m_plain.2.1 209 = .ok (.isub, 1) := by decide +kernel
theorem d_m_plain_210 : decode y_m_plain.2.1 210 = .ok (.invokevirtual 126, 3) := by decide +kernel
theorem d_m_plain_213 : decode y_m_plain.2.1 213 = .ok (.checkcast 155, 3) := by decide +kernel
theorem d_m_plain_216 : decode y_m_plain.2.1 216 = .ok (.getfield 197, 3) := by decide +kernel
theorem d_m_plain_219 : decode y_m_plain.2.1 219 = .ok (.iload 4, 2) := by decide +kernel
theorem d_m_plain_221 : decode y_m_plain.2.1 221 = .ok (.if_icmp .ne 7, 3) := by decide +kernel
theorem d_m_plain_224 : decode y_m_plain.2.1 224 = .ok (.iconst 1, 1) := by decide +kernel
theorem d_m_plain_225 : decode y_m_plain.2.1 225 = .ok (.goto 4, 3) := by decide +kernel
theorem d_m_plain_228 : decode y_m_plain.2.1 228 = .ok (.iconst 0, 1) := by decide +kernel
theorem d_m_plain_229 : decode y_m_plain.2.1 229 = .ok (.invokevirtual 200, 3) := by decide +kernel
theorem d_m_plain_232 : decode y_m_plain.2.1 232 = .ok (.goto 85, 3) := by decide +kernel
theorem d_m_plain_235 : decode y_m_plain.2.1 235 = .ok (.aload_n 2, 1) := by decide +kernel
theorem d_m_plain_236 : decode y_m_plain.2.1 236 = .ok (.invokevirtual 206, 3) := by decide +kernel
theorem d_m_plain_239 : decode y_m_plain.2.1 239 = .ok (.istore 5, 2) := by decide +kernel
theorem d_m_plain_241 : decode y_m_plain.2.1 241 = .ok (.aload_n 2, 1) := by decide +kernel
theorem d_m_plain_242 : decode y_m_plain.2.1 242 = .ok (.invokevirtual 206, 3) := by decide +kernel
theorem d_m_plain_245 : decode y_m_plain.2.1 245 = .ok (.istore 6, 2) := by decide +kernel
theorem d_m_plain_247 : decode y_m_plain.2.1 247 = .ok (.aload_n 2, 1) := by decide +kernel
theorem d_m_plain_248 : decode y_m_plain.2.1 248 = .ok (.iload_n 3, 1) := by decide +kernel
theorem d_m_plain_249 : decode y_m_plain.2.1 249 = .ok (.iconst 4, 1) := by decide +kernel
theorem d_m_plain_250 : decode y_m_plain.2.1 250 = .ok (.if_icmp .ne 11, 3) := by decide +kernel
theorem d_m_plain_253 : decode y_m_plain.2.1 253 = .ok (.iload 6, 2) := by decide +kernel
theorem d_m_plain_255 : decode y_m_plain.2.1 255 = .ok (.iload 5, 2) := by decide +kernel
theorem d_m_plain_257 : decode y_m_plain.2.1 257 = .ok (.iadd, 1) := by decide +kernel
theorem d_m_plain_258 : decode y_m_plain.2.1 258 = .ok (.goto 56, 3) := by decide +kernel
theorem d_m_plain_261 : decode y_m_plain.2.1 261 = .ok (.iload_n 3, 1) := by decide +kernel
theorem d_m_plain_262 : decode y_m_plain.2.1 262 = .ok (.iconst 5, 1) := by decide +kernel
theorem d_m_plain_263 : decode y_m_plain.2.1 263 = .ok (.if_icmp .ne 11, 3) := by decide +kernel
theorem d_m_plain_266 : decode y_m_plain.2.1 266 = .ok (.iload 6, 2) := by decide +kernel
theorem d_m_plain_268 : decode y_m_plain.2.1 268 = .ok (.iload 5, 2) := by decide +kernel
theorem d_m_plain_270 : decode y_m_plain.2.1 270 = .ok (.isub, 1) := by decide +kernel
theorem d_m_plain_271 : decode y_m_plain.2.1 271 = .ok (.goto 43, 3) := by decide +kernel
theorem d_m_plain_274 : decode y_m_plain.2.1 274 = .ok (.iload_n 3, 1) := by decide +kernel
theorem d_m_plain_275 : decode y_m_plain.2.1 275 = .ok (.bipush 6, 2) := by decide +kernel
theorem d_m_plain_277 : decode y_m_plain.2.1 277 = .ok (.if_icmp .ne 11, 3) := by decide +kernel
theorem d_m_plain_280 : decode y_m_plain.2.1 280 = .ok (.iload 6, 2) := by decide +kernel
theorem d_m_plain_282 : decode y_m_plain.2.1 282 = .ok (.iload 5, 2) := by decide +kernel
theorem d_m_plain_284 : decode y_m_plain.2.1 284 = .ok (.imul, 1) := by decide +kernel
theorem d_m_plain_285 : decode y_m_plain.2.1 285 = .ok (.goto 29, 3) := by decide +kernel
theorem d_m_plain_288 : decode y_m_plain.2.1 288 = .ok (.iload_n 3, 1) := by decide +kernel
theorem d_m_plain_289 : decode y_m_plain.2.1 289 = .ok (.bipush 7, 2) := by decide +kernel
theorem d_m_plain_291 : decode y_m_plain.2.1 291 = .ok (.if_icmp .ne 11, 3) := by decide +kernel
theorem d_m_plain_294 : decode y_m_plain.2.1 294 = .ok (.iload 6, 2) := by decide +kernel
theorem d_m_plain_296 : decode y_m_plain.2.1 296 = .ok (.iload 5, 2) := by decide +kernel
theorem d_m_plain_298 : decode y_m_plain.2.1 298 = .ok (.idiv, 1) := by decide +kernel
theorem d_m_plain_299 : decode y_m_plain.2.1 299 = .ok (.goto 15, 3) := by decide +kernel
theorem d_m_plain_302 : decode y_m_plain.2.1 302 = .ok (.iload 6, 2) := by decide +kernel
theorem d_m_plain_304 : decode y_m_plain.2.1 304 = .ok (.iload 5, 2) := by decide +kernel
theorem d_m_plain_306 : decode y_m_plain.2.1 306 = .ok (.if_icmp .ge 7, 3) := by decide +kernel
theorem d_m_plain_309 : decode y_m_plain.2.1 309 = .ok (.iconst 1, 1) := by decide +kernel
theorem d_m_plain_310 : decode y_m_plain.2.1 310 = .ok (.goto 4, 3) := by decide +kernel
theorem d_m_plain_313 : decode y_m_plain.2.1 313 = .ok (.iconst 0, 1) := by decide +kernel
theorem d_m_plain_314 : decode y_m_plain.2.1 314 = .ok (.invokevirtual 200, 3) := by decide +kernel
theorem d_m_plain_317 : decode y_m_plain.2.1 317 = .ok (.aload_n 2, 1) := by decide +kernel
theorem d_m_plain_318 : decode y_m_plain.2.1 318 = .ok (.dup, 1) := by decide +kernel
theorem d_m_plain_319 : decode y_m_plain.2.1 319 = .ok (.getfield 195, 3) := by decide +kernel
theorem d_m_plain_322 : decode y_m_plain.2.1 322 = .ok (.iconst 1, 1) := by decide +kernel
theorem d_m_plain_323 : decode y_m_plain.2.1 323 = .ok (.iadd, 1) := by decide +kernel
theorem d_m_plain_324 : decode y_m_plain.2.1 324 = .ok (.putfield 195, 3) := by decide +kernel
theorem d_m_plain_327 : decode y_m_plain.2.1 327 = .ok (.return_, 1) := by decide +kernel
theorem d_m_told_0 : decode y_m_told.2.1 0 = .ok (.iload_n 1, 1) := by decide +kernel
theorem d_m_told_1 : decode y_m_told.2.1 1 = .ok (.ifCond .lt 11, 3) := by decide +kernel
theorem d_m_told_4 : decode y_m_told.2.1 4 = .ok (.iload_n 1, 1) := by decide +kernel
theorem d_m_told_5 : decode y_m_told.2.1 5 = .ok (.aload_n 0, 1) := by decide +kernel
theorem d_m_told_6 : decode y_m_told.2.1 6 = .ok (.getfield 29, 3) := by decide +kernel
theorem d_m_told_9 : decode y_m_told.2.1 9 = .ok (.if_icmp .lt 6, 3) := by decide +kernel
theorem d_m_told_12 : decode y_m_told.2.1 12 = .ok (.bipush (-14), 2) := by decide +kernel
theorem d_m_told_14 : decode y_m_told.2.1 14 = .ok (.ireturn, 1) := by decide +kernel
theorem d_m_told_15 : decode y_m_told.2.1 15 = .ok (.aload_n 0, 1) := by decide +kernel
theorem d_m_told_16 : decode y_m_told.2.1 16 = .ok (.getfield 16, 3) := by decide +kernel
theorem d_m_told_19 : decode y_m_told.2.1 19 = .ok (.iload_n 1, 1) := by decide +kernel
theorem d_m_told_20 : decode y_m_told.2.1 20 = .ok (.invokevirtual 126, 3) := by decide +kernel
theorem d_m_told_23 : decode y_m_told.2.1 23 = .ok (.checkcast 137, 3) := by decide +kernel
theorem d_m_told_26 : decode y_m_told.2.1 26 = .ok (.astore_n 3, 1) := by decide +kernel
theorem d_m_told_27 : decode y_m_told.2.1 27 = .ok (.aload_n 3, 1) := by decide +kernel
theorem d_m_told_28 : decode y_m_told.2.1 28 = .ok (.getfield 183, 3) := by decide +kernel
theorem d_m_told_31 : decode y_m_told.2.1 31 = .ok (.ifCond .le 7, 3) := by decide +kernel
theorem d_m_told_34 : decode y_m_told.2.1 34 = .ok (.iconst 1, 1) := by decide +kernel
theorem d_m_told_35 : decode y_m_told.2.1 35 = .ok (.goto 4, 3) := by decide +kernel
theorem d_m_told_38 : decode y_m_told.2.1 38 = .ok (.iconst 0, 1) := by decide +kernel
theorem d_m_told_39 : decode y_m_told.2.1 39 = .ok (.istore 4, 2) := by decide +kernel
theorem d_m_told_41 : decode y_m_told.2.1 41 = .ok (.iload_n 2, 1) := by decide +kernel
theorem d_m_told_42 : decode y_m_told.2.1 42 = .ok (.tableswitch 132 0 6 #[42, 47, 52, 57, 74, 91, 108], 42) := by decide +kernel
theorem d_m_told_84 : decode y_m_told.2.1 84 = .ok (.aload_n 3, 1) := by decide +kernel
theorem d_m_told_85 : decode y_m_told.2.1 85 = .ok (.getfield 178, 3) := by decide +kernel
theorem d_m_told_88 : decode y_m_told.2.1 88 = .ok (.ireturn, 1) := by decide +kernel
theorem d_m_told_89 : decode y_m_told.2.1 89 = .ok (.aload_n 3, 1) := by decide +kernel
theorem d_m_told_90 : decode y_m_told.2.1 90 = .ok (.getfield 183, 3) := by decide +kernel
theorem d_m_told_93 : decode y_m_told.2.1 93 = .ok (.ireturn, 1) := by decide +kernel
theorem d_m_told_94 : decode y_m_told.2.1 94 = .ok (.aload_n 3, 1) := by decide +kernel
theorem d_m_told_95 : decode y_m_told.2.1 95 = .ok (.getfield 182, 3) := by decide +kernel
theorem d_m_told_98 : decode y_m_told.2.1 98 = .ok (.ireturn, 1) := by decide +kernel
theorem d_m_told_99 : decode y_m_told.2.1 99 = .ok (.iload 4, 2) := by decide +kernel
theorem d_m_told_101 : decode y_m_told.2.1 101 = .ok (.ifCond .eq 13, 3) := by decide +kernel
theorem d_m_told_104 : decode y_m_told.2.1 104 = .ok (.aload_n 3, 1) := by decide +kernel
theorem d_m_told_105 : decode y_m_told.2.1 105 = .ok (.invokevirtual 186, 3) := by decide +kernel
theorem d_m_told_108 : decode y_m_told.2.1 108 = .ok (.getfield 244, 3) := by decide +kernel
theorem d_m_told_111 : decode y_m_told.2.1 111 = .ok (.goto 4, 3) := by decide +kernel
theorem d_m_told_114 : decode y_m_told.2.1 114 = .ok (.iconst (-1), 1) := by decide +kernel
theorem d_m_told_115 : decode y_m_told.2.1 115 = .ok (.ireturn, 1) := by decide +kernel
theorem d_m_told_116 : decode y_m_told.2.1 116 = .ok (.iload 4, 2) := by decide +kernel
theorem d_m_told_118 : decode y_m_told.2.1 118 = .ok (.ifCond .eq 13, 3) := by decide +kernel
theorem d_m_told_121 : decode y_m_told.2.1 121 = .ok (.aload_n 3, 1) := by decide +kernel
theorem d_m_told_122 : decode y_m_told.2.1 122 = .ok (.invokevirtual 186, 3) := by decide +kernel
theorem d_m_told_125 : decode y_m_told.2.1 125 = .ok (.getfield 195, 3) := by decide +kernel
theorem d_m_told_128 : decode y_m_told.2.1 128 = .ok (.goto 4, 3) := by decide +kernel
theorem d_m_told_131 : decode y_m_told.2.1 131 = .ok (.iconst (-1), 1) := by decide +kernel
theorem d_m_told_132 : decode y_m_told.2.1 132 = .ok (.ireturn, 1) := by decide +kernel
theorem d_m_told_133 : decode y_m_told.2.1 133 = .ok (.iload 4, 2) := by decide +kernel
theorem d_m_told_135 : decode y_m_told.2.1 135 = .ok (.ifCond .eq 13, 3) := by decide +kernel
theorem d_m_told_138 : decode y_m_told.2.1 138 = .ok (.aload_n 3, 1) := by decide +kernel
theorem d_m_told_139 : decode y_m_told.2.1 139 = .ok (.invokevirtual 186, 3) := by decide +kernel
theorem d_m_told_142 : decode y_m_told.2.1 142 = .ok (.getfield 199, 3) := by decide +kernel
theorem d_m_told_145 : decode y_m_told.2.1 145 = .ok (.goto 4, 3) := by decide +kernel
theorem d_m_told_148 : decode y_m_told.2.1 148 = .ok (.iconst 0, 1) := by decide +kernel
theorem d_m_told_149 : decode y_m_told.2.1 149 = .ok (.ireturn, 1) := by decide +kernel
theorem d_m_told_150 : decode y_m_told.2.1 150 = .ok (.aload_n 3, 1) := by decide +kernel
theorem d_m_told_151 : decode y_m_told.2.1 151 = .ok (.getfield 163, 3) := by decide +kernel
theorem d_m_told_154 : decode y_m_told.2.1 154 = .ok (.ifCond .ne 18, 3) := by decide +kernel
theorem d_m_told_157 : decode y_m_told.2.1 157 = .ok (.aload_n 0, 1) := by decide +kernel
theorem d_m_told_158 : decode y_m_told.2.1 158 = .ok (.aload_n 3, 1) := by decide +kernel
theorem d_m_told_159 : decode y_m_told.2.1 159 = .ok (.invokevirtual 166, 3) := by decide +kernel
theorem d_m_told_162 : decode y_m_told.2.1 162 = .ok (.ifCond .eq 10, 3) := by decide +kernel
theorem d_m_told_165 : decode y_m_told.2.1 165 = .ok (.aload_n 3, 1) := by decide +kernel
theorem d_m_told_166 : decode y_m_told.2.1 166 = .ok (.getfield 152, 3) := by decide +kernel
theorem d_m_told_169 : decode y_m_told.2.1 169 = .ok (.goto 4, 3) := by decide +kernel
theorem d_m_told_172 : decode y_m_told.2.1 172 = .ok (.iconst 0, 1) := by decide +kernel
theorem d_m_told_173 : decode y_m_told.2.1 173 = .ok (.ireturn, 1) := by decide +kernel
theorem d_m_told_174 : decode y_m_told.2.1 174 = .ok (.bipush (-14), 2) := by decide +kernel
theorem d_m_told_176 : decode y_m_told.2.1 176 = .ok (.ireturn, 1) := by decide +kernel
theorem d_m_object_0 : decode y_m_object.2.1 0 = .ok (.iload_n 1, 1) := by decide +kernel
theorem d_m_object_1 : decode y_m_object.2.1 1 = .ok (.iconst 1, 1) := by decide +kernel
theorem d_m_object_2 : decode y_m_object.2.1 2 = .ok (.if_icmp .lt 14, 3) := by decide +kernel
theorem d_m_object_5 : decode y_m_object.2.1 5 = .ok (.iload_n 1, 1) := by decide +kernel
theorem d_m_object_6 : decode y_m_object.2.1 6 = .ok (.aload_n 0, 1) := by decide +kernel
theorem d_m_object_7 : decode y_m_object.2.1 7 = .ok (.getfield 19, 3) := by decide +kernel
theorem d_m_object_10 : decode y_m_object.2.1 10 = .ok (.invokevirtual 33, 3) := by decide +kernel
theorem d_m_object_13 : decode y_m_object.2.1 13 = .ok (.if_icmp .le 6, 3) := by decide +kernel
theorem d_m_object_16 : decode y_m_object.2.1 16 = .ok (.bipush (-14), 2) := by decide +kernel
theorem d_m_object_18 : decode y_m_object.2.1 18 = .ok (.ireturn, 1) := by decide +kernel
theorem d_m_object_19 : decode y_m_object.2.1 19 = .ok (.aload_n 0, 1) := by decide +kernel
theorem d_m_object_20 : decode y_m_object.2.1 20 = .ok (.getfield 19, 3) := by decide +kernel
theorem d_m_object_23 : decode y_m_object.2.1 23 = .ok (.iload_n 1, 1) := by decide +kernel
theorem d_m_object_24 : decode y_m_object.2.1 24 = .ok (.iconst 1, 1) := by decide +kernel
theorem d_m_object_25 : decode y_m_object.2.1 25 = .ok (.isub, 1) := by decide +kernel
theorem d_m_object_26 : decode y_m_object.2.1 26 = .ok (.invokevirtual 126, 3) := by decide +kernel
theorem d_m_object_29 : decode y_m_object.2.1 29 = .ok (.checkcast 155, 3) := by decide +kernel
theorem d_m_object_32 : decode y_m_object.2.1 32 = .ok (.astore_n 3, 1) := by decide +kernel
theorem d_m_object_33 : decode y_m_object.2.1 33 = .ok (.iload_n 2, 1) := by decide +kernel
theorem d_m_object_34 : decode y_m_object.2.1 34 = .ok (.bipush 10, 2) := by decide +kernel
theorem d_m_object_36 : decode y_m_object.2.1 36 = .ok (.if_icmp .lt 19, 3) := by decide +kernel
theorem d_m_object_39 : decode y_m_object.2.1 39 = .ok (.iload_n 2, 1) := by decide +kernel
theorem d_m_object_40 : decode y_m_object.2.1 40 = .ok (.bipush 17, 2) := by decide +kernel
theorem d_m_object_42 : decode y_m_object.2.1 42 = .ok (.if_icmp .gt 13, 3) := by decide +kernel
theorem d_m_object_45 : decode y_m_object.2.1 45 = .ok (.aload_n 3, 1) := by decide +kernel
theorem d_m_object_46 : decode y_m_object.2.1 46 = .ok (.getfield 241, 3) := by decide +kernel
theorem d_m_object_49 : decode y_m_object.2.1 49 = .ok (.iload_n 2, 1) := by decide +kernel
theorem d_m_object_50 : decode y_m_object.2.1 50 = .ok (.bipush 10, 2) := by decide +kernel
theorem d_m_object_52 : decode y_m_object.2.1 52 = .ok (.isub, 1) := by decide +kernel
theorem d_m_object_53 : decode y_m_object.2.1 53 = .ok (.iaload, 1) := by decide +kernel
theorem d_m_object_54 : decode y_m_object.2.1 54 = .ok (.ireturn, 1) := by decide +kernel
theorem d_m_object_55 : decode y_m_object.2.1 55 = .ok (.iload_n 2, 1) := by decide +kernel
theorem d_m_object_56 : decode y_m_object.2.1 56 = .ok (.ifCond .ne 10, 3) := by decide +kernel
theorem d_m_object_59 : decode y_m_object.2.1 59 = .ok (.aload_n 3, 1) := by decide +kernel
theorem d_m_object_60 : decode y_m_object.2.1 60 = .ok (.getfield 197, 3) := by decide +kernel
theorem d_m_object_63 : decode y_m_object.2.1 63 = .ok (.goto 29, 3) := by decide +kernel
theorem d_m_object_66 : decode y_m_object.2.1 66 = .ok (.iload_n 2, 1) := by decide +kernel
theorem d_m_object_67 : decode y_m_object.2.1 67 = .ok (.iconst 1, 1) := by decide +kernel
theorem d_m_object_68 : decode y_m_object.2.1 68 = .ok (.if_icmp .ne 10, 3) := by decide +kernel
theorem d_m_object_71 : decode y_m_object.2.1 71 = .ok (.aload_n 3, 1) := by decide +kernel
theorem d_m_object_72 : decode y_m_object.2.1 72 = .ok (.getfield 160, 3) := by decide +kernel
theorem d_m_object_75 : decode y_m_object.2.1 75 = .ok (.goto 17, 3) := by decide +kernel
theorem d_m_object_78 : decode y_m_object.2.1 78 = .ok (.iload_n 2, 1) := by decide +kernel
theorem d_m_object_79 : decode y_m_object.2.1 79 = .ok (.iconst 2, 1) := by decide +kernel
theorem d_m_object_80 : decode y_m_object.2.1 80 = .ok (.if_icmp .ne 10, 3) := by decide +kernel
theorem d_m_object_83 : decode y_m_object.2.1 83 = .ok (.aload_n 3, 1) := by decide +kernel
theorem d_m_object_84 : decode y_m_object.2.1 84 = .ok (.getfield 157, 3) := by decide +kernel
theorem d_m_object_87 : decode y_m_object.2.1 87 = .ok (.goto 5, 3) := by decide +kernel
theorem d_m_object_90 : decode y_m_object.2.1 90 = .ok (.bipush (-14), 2) := by decide +kernel
theorem d_m_object_92 : decode y_m_object.2.1 92 = .ok (.ireturn, 1) := by decide +kernel
theorem d_m_value_0 : decode y_m_value.2.1 0 = .ok (.iload_n 1, 1) := by decide +kernel
theorem d_m_value_1 : decode y_m_value.2.1 1 = .ok (.ifCond .lt 28, 3) := by decide +kernel
theorem d_m_value_4 : decode y_m_value.2.1 4 = .ok (.iload_n 1, 1) := by decide +kernel
theorem d_m_value_5 : decode y_m_value.2.1 5 = .ok (.aload_n 0, 1) := by decide +kernel
theorem d_m_value_6 : decode y_m_value.2.1 6 = .ok (.getfield 29, 3) := by decide +kernel
theorem d_m_value_9 : decode y_m_value.2.1 9 = .ok (.if_icmp .ge 20, 3) := by decide +kernel
theorem d_m_value_12 : decode y_m_value.2.1 12 = .ok (.aload_n 0, 1) := by decide +kernel
theorem d_m_value_13 : decode y_m_value.2.1 13 = .ok (.getfield 16, 3) := by decide +kernel
theorem d_m_value_16 : decode y_m_value.2.1 16 = .ok (.iload_n 1, 1) := by decide +kernel
theorem d_m_value_17 : decode y_m_value.2.1 17 = .ok (.invokevirtual 126, 3) := by decide +kernel
theorem d_m_value_20 : decode y_m_value.2.1 20 = .ok (.checkcast 137, 3) := by decide +kernel
theorem d_m_value_23 : decode y_m_value.2.1 23 = .ok (.getfield 183, 3) := by decide +kernel
theorem d_m_value_26 : decode y_m_value.2.1 26 = .ok (.ifCond .ne 5, 3) := by decide +kernel
theorem d_m_value_29 : decode y_m_value.2.1 29 = .ok (.iconst 0, 1) := by decide +kernel
theorem d_m_value_30 : decode y_m_value.2.1 30 = .ok (.ireturn, 1) := by decide +kernel
theorem d_m_value_31 : decode y_m_value.2.1 31 = .ok (.aload_n 0, 1) := by decide +kernel
theorem d_m_value_32 : decode y_m_value.2.1 32 = .ok (.getfield 16, 3) := by decide +kernel
theorem d_m_value_35 : decode y_m_value.2.1 35 = .ok (.iload_n 1, 1) := by decide +kernel
theorem d_m_value_36 : decode y_m_value.2.1 36 = .ok (.invokevirtual 126, 3) := by decide +kernel
theorem d_m_value_39 : decode y_m_value.2.1 39 = .ok (.checkcast 137, 3) := by decide +kernel
theorem d_m_value_42 : decode y_m_value.2.1 42 = .ok (.invokevirtual 186, 3) := by decide +kernel
theorem d_m_value_45 : decode y_m_value.2.1 45 = .ok (.astore_n 3, 1) := by decide +kernel
theorem d_m_value_46 : decode y_m_value.2.1 46 = .ok (.iload_n 2, 1) := by decide +kernel
theorem d_m_value_47 : decode y_m_value.2.1 47 = .ok (.ifCond .lt 29, 3) := by decide +kernel
theorem d_m_value_50 : decode y_m_value.2.1 50 = .ok (.iload_n 2, 1) := by decide +kernel
theorem d_m_value_51 : decode y_m_value.2.1 51 = .ok (.aload_n 3, 1) := by decide +kernel
theorem d_m_value_52 : decode y_m_value.2.1 52 = .ok (.getfield 199, 3) := by decide +kernel
theorem d_m_value_55 : decode y_m_value.2.1 55 = .ok (.if_icmp .ge 19, 3) := by decide +kernel
theorem d_m_value_58 : decode y_m_value.2.1 58 = .ok (.aload_n 3, 1) := by decide +kernel
theorem d_m_value_59 : decode y_m_value.2.1 59 = .ok (.getfield 238, 3) := by decide +kernel
theorem d_m_value_62 : decode y_m_value.2.1 62 = .ok (.aload_n 3, 1) := by decide +kernel
theorem d_m_value_63 : decode y_m_value.2.1 63 = .ok (.getfield 199, 3) := by decide +kernel
theorem d_m_value_66 : decode y_m_value.2.1 66 = .ok (.iconst 1, 1) := by decide +kernel
theorem d_m_value_67 : decode y_m_value.2.1 67 = .ok (.isub, 1) := by decide +kernel
theorem d_m_value_68 : decode y_m_value.2.1 68 = .ok (.iload_n 2, 1) := by decide +kernel
theorem d_m_value_69 : decode y_m_value.2.1 69 = .ok (.isub, 1) := by decide +kernel
theorem d_m_value_70 : decode y_m_value.2.1 70 = .ok (.iaload, 1) := by decide +kernel
theorem d_m_value_71 : decode y_m_value.2.1 71 = .ok (.goto 4, 3) := by decide +kernel
theorem d_m_value_74 : decode y_m_value.2.1 74 = .ok (.iconst 0, 1) := by decide +kernel
theorem d_m_value_75 : decode y_m_value.2.1 75 = .ok (.ireturn, 1) := by decide +kernel
theorem d_m_value_76 : decode y_m_value.2.1 76 = .ok (.iconst (-1), 1) := by decide +kernel
theorem d_m_value_77 : decode y_m_value.2.1 77 = .ok (.iload_n 2, 1) := by decide +kernel
theorem d_m_value_78 : decode y_m_value.2.1 78 = .ok (.isub, 1) := by decide +kernel
theorem d_m_value_79 : decode y_m_value.2.1 79 = .ok (.istore 4, 2) := by decide +kernel
theorem d_m_value_81 : decode y_m_value.2.1 81 = .ok (.iload 4, 2) := by decide +kernel
theorem d_m_value_83 : decode y_m_value.2.1 83 = .ok (.aload_n 3, 1) := by decide +kernel
theorem d_m_value_84 : decode y_m_value.2.1 84 = .ok (.getfield 190, 3) := by decide +kernel
theorem d_m_value_87 : decode y_m_value.2.1 87 = .ok (.getfield 50, 3) := by decide +kernel
theorem d_m_value_90 : decode y_m_value.2.1 90 = .ok (.if_icmp .ge 13, 3) := by decide +kernel
theorem d_m_value_93 : decode y_m_value.2.1 93 = .ok (.aload_n 3, 1) := by decide +kernel
theorem d_m_value_94 : decode y_m_value.2.1 94 = .ok (.getfield 237, 3) := by decide +kernel
theorem d_m_value_97 : decode y_m_value.2.1 97 = .ok (.iload 4, 2) := by decide +kernel
theorem d_m_value_99 : decode y_m_value.2.1 99 = .ok (.iaload, 1) := by decide +kernel
theorem d_m_value_100 : decode y_m_value.2.1 100 = .ok (.goto 4, 3) := by decide +kernel
theorem d_m_value_103 : decode y_m_value.2.1 103 = .ok (.iconst 0, 1) := by decide +kernel
theorem d_m_value_104 : decode y_m_value.2.1 104 = .ok (.ireturn, 1) := by decide +kernel
theorem d_m_global_0 : decode y_m_global.2.1 0 = .ok (.iload_n 1, 1) := by decide +kernel
theorem d_m_global_1 : decode y_m_global.2.1 1 = .ok (.ifCond .lt 17, 3) := by decide +kernel
theorem d_m_global_4 : decode y_m_global.2.1 4 = .ok (.iload_n 1, 1) := by decide +kernel
theorem d_m_global_5 : decode y_m_global.2.1 5 = .ok (.iconst 4, 1) := by decide +kernel
theorem d_m_global_6 : decode y_m_global.2.1 6 = .ok (.if_icmp .ge 12, 3) := by decide +kernel
theorem d_m_global_9 : decode y_m_global.2.1 9 = .ok (.aload_n 0, 1) := by decide +kernel
theorem d_m_global_10 : decode y_m_global.2.1 10 = .ok (.getfield 22, 3) := by decide +kernel
theorem d_m_global_13 : decode y_m_global.2.1 13 = .ok (.iload_n 1, 1) := by decide +kernel
theorem d_m_global_14 : decode y_m_global.2.1 14 = .ok (.iaload, 1) := by decide +kernel
theorem d_m_global_15 : decode y_m_global.2.1 15 = .ok (.goto 5, 3) := by decide +kernel
theorem d_m_global_18 : decode y_m_global.2.1 18 = .ok (.bipush (-14), 2) := by decide +kernel
theorem d_m_global_20 : decode y_m_global.2.1 20 = .ok (.ireturn, 1) := by decide +kernel
theorem d_m_stuck_0 : decode y_m_stuck.2.1 0 = .ok (.iconst 0, 1) := by decide +kernel
theorem d_m_stuck_1 : decode y_m_stuck.2.1 1 = .ok (.istore_n 1, 1) := by decide +kernel
theorem d_m_stuck_2 : decode y_m_stuck.2.1 2 = .ok (.iconst 0, 1) := by decide +kernel
theorem d_m_stuck_3 : decode y_m_stuck.2.1 3 = .ok (.istore_n 2, 1) := by decide +kernel
theorem d_m_stuck_4 : decode y_m_stuck.2.1 4 = .ok (.iload_n 2, 1) := by decide +kernel
theorem d_m_stuck_5 : decode y_m_stuck.2.1 5 = .ok (.aload_n 0, 1) := by decide +kernel
theorem d_m_stuck_6 : decode y_m_stuck.2.1 6 = .ok (.getfield 29, 3) := by decide +kernel
theorem d_m_stuck_9 : decode y_m_stuck.2.1 9 = .ok (.if_icmp .ge 52, 3) := by decide +kernel
theorem d_m_stuck_12 : decode y_m_stuck.2.1 12 = .ok (.aload_n 0, 1) := by decide +kernel
theorem d_m_stuck_13 : decode y_m_stuck.2.1 13 = .ok (.getfield 16, 3) := by decide +kernel
theorem d_m_stuck_16 : decode y_m_stuck.2.1 16 = .ok (.iload_n 2, 1) := by decide +kernel
theorem d_m_stuck_17 : decode y_m_stuck.2.1 17 = .ok (.invokevirtual 126, 3) := by decide +kernel
theorem d_m_stuck_20 : decode y_m_stuck.2.1 20 = .ok (.checkcast 137, 3) := by decide +kernel
theorem d_m_stuck_23 : decode y_m_stuck.2.1 23 = .ok (.getfield 163, 3) := by decide +kernel
theorem d_m_stuck_26 : decode y_m_stuck.2.1 26 = .ok (.ifCond .le 6, 3) := by decide +kernel
theorem d_m_stuck_29 : decode y_m_stuck.2.1 29 = .ok (.goto 26, 3) := by decide +kernel
theorem d_m_stuck_32 : decode y_m_stuck.2.1 32 = .ok (.aload_n 0, 1) := by decide +kernel
theorem d_m_stuck_33 : decode y_m_stuck.2.1 33 = .ok (.aload_n 0, 1) := by decide +kernel
theorem d_m_stuck_34 : decode y_m_stuck.2.1 34 = .ok (.getfield 16, 3) := by decide +kernel
theorem d_m_stuck_37 : decode y_m_stuck.2.1 37 = .ok (.iload_n 2, 1) := by decide +kernel
theorem d_m_stuck_38 : decode y_m_stuck.2.1 38 = .ok (.invokevirtual 126, 3) := by decide +kernel
theorem d_m_stuck_41 : decode y_m_stuck.2.1 41 = .ok (.checkcast 137, 3) := by decide +kernel
theorem d_m_stuck_44 : decode y_m_stuck.2.1 44 = .ok (.invokevirtual 166, 3) := by decide +kernel
theorem d_m_stuck_47 : decode y_m_stuck.2.1 47 = .ok (.ifCond .ne 5, 3) := by decide +kernel
theorem d_m_stuck_50 : decode y_m_stuck.2.1 50 = .ok (.iconst 0, 1) := by decide +kernel
theorem d_m_stuck_51 : decode y_m_stuck.2.1 51 = .ok (.ireturn, 1) := by decide +kernel
theorem d_m_stuck_52 : decode y_m_stuck.2.1 52 = .ok (.iinc 1 1, 3) := by decide +kernel
theorem d_m_stuck_55 : decode y_m_stuck.2.1 55 = .ok (.iinc 2 1, 3) := by decide +kernel
theorem d_m_stuck_58 : decode y_m_stuck.2.1 58 = .ok (.goto (-54), 3) := by decide +kernel
theorem d_m_stuck_61 : decode y_m_stuck.2.1 61 = .ok (.iload_n 1, 1) := by decide +kernel
theorem d_m_stuck_62 : decode y_m_stuck.2.1 62 = .ok (.ireturn, 1) := by decide +kernel
theorem d_m_reset_0 : decode y_m_reset.2.1 0 = .ok (.aload_n 0, 1) := by decide +kernel
theorem d_m_reset_1 : decode y_m_reset.2.1 1 = .ok (.iconst 0, 1) := by decide +kernel
theorem d_m_reset_2 : decode y_m_reset.2.1 2 = .ok (.putfield 29, 3) := by decide +kernel
theorem d_m_reset_5 : decode y_m_reset.2.1 5 = .ok (.aload_n 0, 1) := by decide +kernel
theorem d_m_reset_6 : decode y_m_reset.2.1 6 = .ok (.getfield 19, 3) := by decide +kernel
theorem d_m_reset_9 : decode y_m_reset.2.1 9 = .ok (.invokevirtual 245, 3) := by decide +kernel
theorem d_m_reset_12 : decode y_m_reset.2.1 12 = .ok (.aload_n 0, 1) := by decide +kernel
theorem d_m_reset_13 : decode y_m_reset.2.1 13 = .ok (.aconst_null, 1) := by decide +kernel
theorem d_m_reset_14 : decode y_m_reset.2.1 14 = .ok (.putfield 42, 3) := by decide +kernel
theorem d_m_reset_17 : decode y_m_reset.2.1 17 = .ok (.iconst 0, 1) := by decide +kernel
theorem d_m_reset_18 : decode y_m_reset.2.1 18 = .ok (.istore_n 1, 1) := by decide +kernel
theorem d_m_reset_19 : decode y_m_reset.2.1 19 = .ok (.iload_n 1, 1) := by decide +kernel
theorem d_m_reset_20 : decode y_m_reset.2.1 20 = .ok (.iconst 4, 1) := by decide +kernel
theorem d_m_reset_21 : decode y_m_reset.2.1 21 = .ok (.if_icmp .ge 16, 3) := by decide +kernel
theorem d_m_reset_24 : decode y_m_reset.2.1 24 = .ok (.aload_n 0, 1) := by decide +kernel
theorem d_m_reset_25 : decode y_m_reset.2.1 25 = .ok (.getfield 22, 3) := by decide +kernel
theorem d_m_reset_28 : decode y_m_reset.2.1 28 = .ok (.iload_n 1, 1) := by decide +kernel
theorem d_m_reset_29 : decode y_m_reset.2.1 29 = .ok (.iconst 0, 1) := by decide +kernel
theorem d_m_reset_30 : decode y_m_reset.2.1 30 = .ok (.iastore, 1) := by decide +kernel
theorem d_m_reset_31 : decode y_m_reset.2.1 31 = .ok (.iinc 1 1, 3) := by decide +kernel
theorem d_m_reset_34 : decode y_m_reset.2.1 34 = .ok (.goto (-15), 3) := by decide +kernel
theorem d_m_reset_37 : decode y_m_reset.2.1 37 = .ok (.return_, 1) := by decide +kernel
