theorem dX8_takeRead_166 : decode cX8_takeRead 166 = .ok (.iload_n 1, 1) := by decide +kernel
theorem dX8_takeRead_167 : decode cX8_takeRead 167 = .ok (.iaload, 1) := by decide +kernel
theorem dX8_takeRead_168 : decode cX8_takeRead 168 = .ok (.goto 4, 3) := by decide +kernel
theorem dX8_takeRead_171 : decode cX8_takeRead 171 = .ok (.iconst 0, 1) := by decide +kernel
theorem dX8_takeRead_172 : decode cX8_takeRead 172 = .ok (.iastore, 1) := by decide +kernel
theorem dX8_takeRead_173 : decode cX8_takeRead 173 = .ok (.iinc 1 1, 3) := by decide +kernel
theorem dX8_takeRead_176 : decode cX8_takeRead 176 = .ok (.goto (-70), 3) := by decide +kernel
theorem dX8_takeRead_179 : decode cX8_takeRead 179 = .ok (.return_, 1) := by decide +kernel
theorem dX8_common_0 : decode cX8_common 0 = .ok (.aload_n 0, 1) := by decide +kernel
theorem dX8_common_1 : decode cX8_common 1 = .ok (.iconst (-1), 1) := by decide +kernel
theorem dX8_common_2 : decode cX8_common 2 = .ok (.putfield 28, 3) := by decide +kernel
theorem dX8_common_5 : decode cX8_common 5 = .ok (.aload_n 0, 1) := by decide +kernel
theorem dX8_common_6 : decode cX8_common 6 = .ok (.iconst 0, 1) := by decide +kernel
theorem dX8_common_7 : decode cX8_common 7 = .ok (.putfield 104, 3) := by decide +kernel
theorem dX8_common_10 : decode cX8_common 10 = .ok (.aload_n 0, 1) := by decide +kernel
theorem dX8_common_11 : decode cX8_common 11 = .ok (.iconst 0, 1) := by decide +kernel
theorem dX8_common_12 : decode cX8_common 12 = .ok (.putfield 128, 3) := by decide +kernel
theorem dX8_common_15 : decode cX8_common 15 = .ok (.aload_n 0, 1) := by decide +kernel
theorem dX8_common_16 : decode cX8_common 16 = .ok (.iconst 0, 1) := by decide +kernel
theorem dX8_common_17 : decode cX8_common 17 = .ok (.putfield 135, 3) := by decide +kernel
theorem dX8_common_20 : decode cX8_common 20 = .ok (.iconst 0, 1) := by decide +kernel
theorem dX8_common_21 : decode cX8_common 21 = .ok (.istore_n 1, 1) := by decide +kernel
theorem dX8_common_22 : decode cX8_common 22 = .ok (.iload_n 1, 1) := by decide +kernel
theorem dX8_common_23 : decode cX8_common 23 = .ok (.bipush 49, 2) := by decide +kernel
theorem dX8_common_25 : decode cX8_common 25 = .ok (.if_icmp .ge 16, 3) := by decide +kernel
theorem dX8_common_28 : decode cX8_common 28 = .ok (.aload_n 0, 1) := by decide +kernel
theorem dX8_common_29 : decode cX8_common 29 = .ok (.getfield 41, 3) := by decide +kernel
theorem dX8_common_32 : decode cX8_common 32 = .ok (.iload_n 1, 1) := by decide +kernel
theorem dX8_common_33 : decode cX8_common 33 = .ok (.iconst (-1), 1) := by decide +kernel
theorem dX8_common_34 : decode cX8_common 34 = .ok (.iastore, 1) := by decide +kernel
theorem dX8_common_35 : decode cX8_common 35 = .ok (.iinc 1 1, 3) := by decide +kernel
theorem dX8_common_38 : decode cX8_common 38 = .ok (.goto (-16), 3) := by decide +kernel
theorem dX8_common_41 : decode cX8_common 41 = .ok (.iconst 0, 1) := by decide +kernel
theorem dX8_common_42 : decode cX8_common 42 = .ok (.istore_n 1, 1) := by decide +kernel
theorem dX8_common_43 : decode cX8_common 43 = .ok (.iload_n 1, 1) := by decide +kernel
theorem dX8_common_44 : decode cX8_common 44 = .ok (.ifCond .ne 18, 3) := by decide +kernel
theorem dX8_common_47 : decode cX8_common 47 = .ok (.aload_n 0, 1) := by decide +kernel
theorem dX8_common_48 : decode cX8_common 48 = .ok (.invokevirtual 107, 3) := by decide +kernel
theorem dX8_common_51 : decode cX8_common 51 = .ok (.ifCond .lt 11, 3) := by decide +kernel
theorem dX8_common_54 : decode cX8_common 54 = .ok (.aload_n 0, 1) := by decide +kernel
theorem dX8_common_55 : decode cX8_common 55 = .ok (.invokevirtual 147, 3) := by decide +kernel
theorem dX8_common_58 : decode cX8_common 58 = .ok (.istore_n 1, 1) := by decide +kernel
theorem dX8_common_59 : decode cX8_common 59 = .ok (.goto (-16), 3) := by decide +kernel
theorem dX8_common_62 : decode cX8_common 62 = .ok (.aload_n 0, 1) := by decide +kernel
theorem dX8_common_63 : decode cX8_common 63 = .ok (.iconst 0, 1) := by decide +kernel
theorem dX8_common_64 : decode cX8_common 64 = .ok (.putfield 100, 3) := by decide +kernel
theorem dX8_common_67 : decode cX8_common 67 = .ok (.iload_n 1, 1) := by decide +kernel
theorem dX8_common_68 : decode cX8_common 68 = .ok (.ifCond .le 8, 3) := by decide +kernel
theorem dX8_common_71 : decode cX8_common 71 = .ok (.bipush (-10), 2) := by decide +kernel
theorem dX8_common_73 : decode cX8_common 73 = .ok (.iload_n 1, 1) := by decide +kernel
theorem dX8_common_74 : decode cX8_common 74 = .ok (.isub, 1) := by decide +kernel
theorem dX8_common_75 : decode cX8_common 75 = .ok (.ireturn, 1) := by decide +kernel
theorem dX8_common_76 : decode cX8_common 76 = .ok (.aload_n 0, 1) := by decide +kernel
theorem dX8_common_77 : decode cX8_common 77 = .ok (.invokevirtual 150, 3) := by decide +kernel
theorem dX8_common_80 : decode cX8_common 80 = .ok (.aload_n 0, 1) := by decide +kernel
theorem dX8_common_81 : decode cX8_common 81 = .ok (.iconst 0, 1) := by decide +kernel
theorem dX8_common_82 : decode cX8_common 82 = .ok (.putfield 153, 3) := by decide +kernel
theorem dX8_common_85 : decode cX8_common 85 = .ok (.aload_n 0, 1) := by decide +kernel
theorem dX8_common_86 : decode cX8_common 86 = .ok (.iconst 0, 1) := by decide +kernel
theorem dX8_common_87 : decode cX8_common 87 = .ok (.putfield 156, 3) := by decide +kernel
theorem dX8_common_90 : decode cX8_common 90 = .ok (.aload_n 0, 1) := by decide +kernel
theorem dX8_common_91 : decode cX8_common 91 = .ok (.iconst 0, 1) := by decide +kernel
theorem dX8_common_92 : decode cX8_common 92 = .ok (.putfield 159, 3) := by decide +kernel
theorem dX8_common_95 : decode cX8_common 95 = .ok (.aload_n 0, 1) := by decide +kernel
theorem dX8_common_96 : decode cX8_common 96 = .ok (.getfield 84, 3) := by decide +kernel
theorem dX8_common_99 : decode cX8_common 99 = .ok (.iconst 0, 1) := by decide +kernel
theorem dX8_common_100 : decode cX8_common 100 = .ok (.iconst 0, 1) := by decide +kernel
theorem dX8_common_101 : decode cX8_common 101 = .ok (.bastore, 1) := by decide +kernel
theorem dX8_common_102 : decode cX8_common 102 = .ok (.aload_n 0, 1) := by decide +kernel
theorem dX8_common_103 : decode cX8_common 103 = .ok (.getfield 84, 3) := by decide +kernel
theorem dX8_common_106 : decode cX8_common 106 = .ok (.iconst 1, 1) := by decide +kernel
theorem dX8_common_107 : decode cX8_common 107 = .ok (.iconst 0, 1) := by decide +kernel
theorem dX8_common_108 : decode cX8_common 108 = .ok (.bastore, 1) := by decide +kernel
theorem dX8_common_109 : decode cX8_common 109 = .ok (.aload_n 0, 1) := by decide +kernel
theorem dX8_common_110 : decode cX8_common 110 = .ok (.getfield 94, 3) := by decide +kernel
theorem dX8_common_113 : decode cX8_common 113 = .ok (.ireturn, 1) := by decide +kernel
theorem dX8_fault_0 : decode cX8_fault 0 = .ok (.aload_n 0, 1) := by decide +kernel
theorem dX8_fault_1 : decode cX8_fault 1 = .ok (.getfield 28, 3) := by decide +kernel
theorem dX8_fault_4 : decode cX8_fault 4 = .ok (.ireturn, 1) := by decide +kernel
theorem dX8_like_0 : decode cX8_like 0 = .ok (.iload_n 1, 1) := by decide +kernel
theorem dX8_like_1 : decode cX8_like 1 = .ok (.aload_n 0, 1) := by decide +kernel
theorem dX8_like_2 : decode cX8_like 2 = .ok (.getfield 94, 3) := by decide +kernel
theorem dX8_like_5 : decode cX8_like 5 = .ok (.if_icmp .ge 43, 3) := by decide +kernel
theorem dX8_like_8 : decode cX8_like 8 = .ok (.iload_n 2, 1) := by decide +kernel
theorem dX8_like_9 : decode cX8_like 9 = .ok (.aload_n 0, 1) := by decide +kernel
theorem dX8_like_10 : decode cX8_like 10 = .ok (.getfield 94, 3) := by decide +kernel
theorem dX8_like_13 : decode cX8_like 13 = .ok (.if_icmp .ge 35, 3) := by decide +kernel
theorem dX8_like_16 : decode cX8_like 16 = .ok (.aload_n 0, 1) := by decide +kernel
theorem dX8_like_17 : decode cX8_like 17 = .ok (.getfield 13, 3) := by decide +kernel
theorem dX8_like_20 : decode cX8_like 20 = .ok (.bipush 7, 2) := by decide +kernel
theorem dX8_like_22 : decode cX8_like 22 = .ok (.iload_n 1, 1) := by decide +kernel
theorem dX8_like_23 : decode cX8_like 23 = .ok (.imul, 1) := by decide +kernel
theorem dX8_like_24 : decode cX8_like 24 = .ok (.iload_n 2, 1) := by decide +kernel
theorem dX8_like_25 : decode cX8_like 25 = .ok (.iadd, 1) := by decide +kernel
theorem dX8_like_26 : decode cX8_like 26 = .ok (.iaload, 1) := by decide +kernel
theorem dX8_like_27 : decode cX8_like 27 = .ok (.ifCond .le 21, 3) := by decide +kernel
theorem dX8_like_30 : decode cX8_like 30 = .ok (.aload_n 0, 1) := by decide +kernel
theorem dX8_like_31 : decode cX8_like 31 = .ok (.getfield 13, 3) := by decide +kernel
theorem dX8_like_34 : decode cX8_like 34 = .ok (.bipush 7, 2) := by decide +kernel
theorem dX8_like_36 : decode cX8_like 36 = .ok (.iload_n 2, 1) := by decide +kernel
theorem dX8_like_37 : decode cX8_like 37 = .ok (.imul, 1) := by decide +kernel
theorem dX8_like_38 : decode cX8_like 38 = .ok (.iload_n 1, 1) := by decide +kernel
theorem dX8_like_39 : decode cX8_like 39 = .ok (.iadd, 1) := by decide +kernel
theorem dX8_like_40 : decode cX8_like 40 = .ok (.iaload, 1) := by decide +kernel
theorem dX8_like_41 : decode cX8_like 41 = .ok (.ifCond .le 7, 3) := by decide +kernel
theorem dX8_like_44 : decode cX8_like 44 = .ok (.iconst 1, 1) := by decide +kernel
theorem dX8_like_45 : decode cX8_like 45 = .ok (.goto 4, 3) := by decide +kernel
theorem dX8_like_48 : decode cX8_like 48 = .ok (.iconst 0, 1) := by decide +kernel
theorem dX8_like_49 : decode cX8_like 49 = .ok (.ireturn, 1) := by decide +kernel
theorem dX8_would_0 : decode cX8_would 0 = .ok (.aload_n 0, 1) := by decide +kernel
theorem dX8_would_1 : decode cX8_would 1 = .ok (.iload_n 1, 1) := by decide +kernel
theorem dX8_would_2 : decode cX8_would 2 = .ok (.iload_n 2, 1) := by decide +kernel
theorem dX8_would_3 : decode cX8_would 3 = .ok (.invokevirtual 162, 3) := by decide +kernel
theorem dX8_would_6 : decode cX8_would 6 = .ok (.ifCond .eq 22, 3) := by decide +kernel
theorem dX8_would_9 : decode cX8_would 9 = .ok (.aload_n 0, 1) := by decide +kernel
theorem dX8_would_10 : decode cX8_would 10 = .ok (.getfield 16, 3) := by decide +kernel
theorem dX8_would_13 : decode cX8_would 13 = .ok (.iload_n 1, 1) := by decide +kernel
theorem dX8_would_14 : decode cX8_would 14 = .ok (.iaload, 1) := by decide +kernel
theorem dX8_would_15 : decode cX8_would 15 = .ok (.aload_n 0, 1) := by decide +kernel
theorem dX8_would_16 : decode cX8_would 16 = .ok (.getfield 16, 3) := by decide +kernel
theorem dX8_would_19 : decode cX8_would 19 = .ok (.iload_n 2, 1) := by decide +kernel
theorem dX8_would_20 : decode cX8_would 20 = .ok (.iaload, 1) := by decide +kernel
theorem dX8_would_21 : decode cX8_would 21 = .ok (.if_icmp .eq 7, 3) := by decide +kernel
theorem dX8_would_24 : decode cX8_would 24 = .ok (.iconst 1, 1) := by decide +kernel
theorem dX8_would_25 : decode cX8_would 25 = .ok (.goto 4, 3) := by decide +kernel
theorem dX8_would_28 : decode cX8_would 28 = .ok (.iconst 0, 1) := by decide +kernel
theorem dX8_would_29 : decode cX8_would 29 = .ok (.ireturn, 1) := by decide +kernel
theorem dX8_both_0 : decode cX8_both 0 = .ok (.aload_n 0, 1) := by decide +kernel
theorem dX8_both_1 : decode cX8_both 1 = .ok (.getfield 13, 3) := by decide +kernel
theorem dX8_both_4 : decode cX8_both 4 = .ok (.bipush 7, 2) := by decide +kernel
theorem dX8_both_6 : decode cX8_both 6 = .ok (.iload_n 1, 1) := by decide +kernel
theorem dX8_both_7 : decode cX8_both 7 = .ok (.imul, 1) := by decide +kernel
theorem dX8_both_8 : decode cX8_both 8 = .ok (.iload_n 2, 1) := by decide +kernel
theorem dX8_both_9 : decode cX8_both 9 = .ok (.iadd, 1) := by decide +kernel
theorem dX8_both_10 : decode cX8_both 10 = .ok (.iaload, 1) := by decide +kernel
theorem dX8_both_11 : decode cX8_both 11 = .ok (.aload_n 0, 1) := by decide +kernel
theorem dX8_both_12 : decode cX8_both 12 = .ok (.getfield 13, 3) := by decide +kernel
theorem dX8_both_15 : decode cX8_both 15 = .ok (.bipush 7, 2) := by decide +kernel
theorem dX8_both_17 : decode cX8_both 17 = .ok (.iload_n 2, 1) := by decide +kernel
theorem dX8_both_18 : decode cX8_both 18 = .ok (.imul, 1) := by decide +kernel
theorem dX8_both_19 : decode cX8_both 19 = .ok (.iload_n 1, 1) := by decide +kernel
theorem dX8_both_20 : decode cX8_both 20 = .ok (.iadd, 1) := by decide +kernel
theorem dX8_both_21 : decode cX8_both 21 = .ok (.iaload, 1) := by decide +kernel
theorem dX8_both_22 : decode cX8_both 22 = .ok (.iadd, 1) := by decide +kernel
theorem dX8_both_23 : decode cX8_both 23 = .ok (.ireturn, 1) := by decide +kernel
theorem dX8_allWith_0 : decode cX8_allWith 0 = .ok (.iconst 0, 1) := by decide +kernel
theorem dX8_allWith_1 : decode cX8_allWith 1 = .ok (.istore_n 2, 1) := by decide +kernel
theorem dX8_allWith_2 : decode cX8_allWith 2 = .ok (.iconst 0, 1) := by decide +kernel
theorem dX8_allWith_3 : decode cX8_allWith 3 = .ok (.istore_n 3, 1) := by decide +kernel
theorem dX8_allWith_4 : decode cX8_allWith 4 = .ok (.iload_n 3, 1) := by decide +kernel
theorem dX8_allWith_5 : decode cX8_allWith 5 = .ok (.aload_n 0, 1) := by decide +kernel
theorem dX8_allWith_6 : decode cX8_allWith 6 = .ok (.getfield 94, 3) := by decide +kernel
theorem dX8_allWith_9 : decode cX8_allWith 9 = .ok (.if_icmp .ge 31, 3) := by decide +kernel
theorem dX8_allWith_12 : decode cX8_allWith 12 = .ok (.iload_n 2, 1) := by decide +kernel
theorem dX8_allWith_13 : decode cX8_allWith 13 = .ok (.aload_n 0, 1) := by decide +kernel
theorem dX8_allWith_14 : decode cX8_allWith 14 = .ok (.getfield 16, 3) := by decide +kernel
theorem dX8_allWith_17 : decode cX8_allWith 17 = .ok (.iload_n 1, 1) := by decide +kernel
theorem dX8_allWith_18 : decode cX8_allWith 18 = .ok (.iload_n 3, 1) := by decide +kernel
theorem dX8_allWith_19 : decode cX8_allWith 19 = .ok (.iadd, 1) := by decide +kernel
theorem dX8_allWith_20 : decode cX8_allWith 20 = .ok (.iaload, 1) := by decide +kernel
theorem dX8_allWith_21 : decode cX8_allWith 21 = .ok (.iconst 1, 1) := by decide +kernel
theorem dX8_allWith_22 : decode cX8_allWith 22 = .ok (.if_icmp .ne 9, 3) := by decide +kernel
theorem dX8_allWith_25 : decode cX8_allWith 25 = .ok (.iconst 1, 1) := by decide +kernel
theorem dX8_allWith_26 : decode cX8_allWith 26 = .ok (.iload_n 3, 1) := by decide +kernel
theorem dX8_allWith_27 : decode cX8_allWith 27 = .ok (.ishl, 1) := by decide +kernel
theorem dX8_allWith_28 : decode cX8_allWith 28 = .ok (.goto 4, 3) := by decide +kernel
theorem dX8_allWith_31 : decode cX8_allWith 31 = .ok (.iconst 0, 1) := by decide +kernel
theorem dX8_allWith_32 : decode cX8_allWith 32 = .ok (.ior, 1) := by decide +kernel
theorem dX8_allWith_33 : decode cX8_allWith 33 = .ok (.istore_n 2, 1) := by decide +kernel
theorem dX8_allWith_34 : decode cX8_allWith 34 = .ok (.iinc 3 1, 3) := by decide +kernel
theorem dX8_allWith_37 : decode cX8_allWith 37 = .ok (.goto (-33), 3) := by decide +kernel
theorem dX8_allWith_40 : decode cX8_allWith 40 = .ok (.iload_n 2, 1) := by decide +kernel
theorem dX8_allWith_41 : decode cX8_allWith 41 = .ok (.ireturn, 1) := by decide +kernel
theorem dX8_waitingAt_0 : decode cX8_waitingAt 0 = .ok (.iconst 0, 1) := by decide +kernel
theorem dX8_waitingAt_1 : decode cX8_waitingAt 1 = .ok (.istore_n 2, 1) := by decide +kernel
theorem dX8_waitingAt_2 : decode cX8_waitingAt 2 = .ok (.iconst 0, 1) := by decide +kernel
theorem dX8_waitingAt_3 : decode cX8_waitingAt 3 = .ok (.istore_n 3, 1) := by decide +kernel
theorem dX8_waitingAt_4 : decode cX8_waitingAt 4 = .ok (.iload_n 3, 1) := by decide +kernel
theorem dX8_waitingAt_5 : decode cX8_waitingAt 5 = .ok (.aload_n 0, 1) := by decide +kernel
theorem dX8_waitingAt_6 : decode cX8_waitingAt 6 = .ok (.getfield 94, 3) := by decide +kernel
theorem dX8_waitingAt_9 : decode cX8_waitingAt 9 = .ok (.if_icmp .ge 32, 3) := by decide +kernel
theorem dX8_waitingAt_12 : decode cX8_waitingAt 12 = .ok (.iload_n 2, 1) := by decide +kernel
theorem dX8_waitingAt_13 : decode cX8_waitingAt 13 = .ok (.aload_n 0, 1) := by decide +kernel
theorem dX8_waitingAt_14 : decode cX8_waitingAt 14 = .ok (.getfield 16, 3) := by decide +kernel
theorem dX8_waitingAt_17 : decode cX8_waitingAt 17 = .ok (.bipush 7, 2) := by decide +kernel
theorem dX8_waitingAt_19 : decode cX8_waitingAt 19 = .ok (.iload_n 3, 1) := by decide +kernel
theorem dX8_waitingAt_20 : decode cX8_waitingAt 20 = .ok (.iadd, 1) := by decide +kernel
theorem dX8_waitingAt_21 : decode cX8_waitingAt 21 = .ok (.iaload, 1) := by decide +kernel
theorem dX8_waitingAt_22 : decode cX8_waitingAt 22 = .ok (.iload_n 1, 1) := by decide +kernel
theorem dX8_waitingAt_23 : decode cX8_waitingAt 23 = .ok (.if_icmp .ne 9, 3) := by decide +kernel
theorem dX8_waitingAt_26 : decode cX8_waitingAt 26 = .ok (.iconst 1, 1) := by decide +kernel
theorem dX8_waitingAt_27 : decode cX8_waitingAt 27 = .ok (.iload_n 3, 1) := by decide +kernel
theorem dX8_waitingAt_28 : decode cX8_waitingAt 28 = .ok (.ishl, 1) := by decide +kernel
theorem dX8_waitingAt_29 : decode cX8_waitingAt 29 = .ok (.goto 4, 3) := by decide +kernel
theorem dX8_waitingAt_32 : decode cX8_waitingAt 32 = .ok (.iconst 0, 1) := by decide +kernel
theorem dX8_waitingAt_33 : decode cX8_waitingAt 33 = .ok (.ior, 1) := by decide +kernel
theorem dX8_waitingAt_34 : decode cX8_waitingAt 34 = .ok (.istore_n 2, 1) := by decide +kernel
theorem dX8_waitingAt_35 : decode cX8_waitingAt 35 = .ok (.iinc 3 1, 3) := by decide +kernel
theorem dX8_waitingAt_38 : decode cX8_waitingAt 38 = .ok (.goto (-34), 3) := by decide +kernel
theorem dX8_waitingAt_41 : decode cX8_waitingAt 41 = .ok (.iload_n 2, 1) := by decide +kernel
theorem dX8_waitingAt_42 : decode cX8_waitingAt 42 = .ok (.ireturn, 1) := by decide +kernel
theorem dX8_waiting_0 : decode cX8_waiting 0 = .ok (.iconst 0, 1) := by decide +kernel
theorem dX8_waiting_1 : decode cX8_waiting 1 = .ok (.istore_n 1, 1) := by decide +kernel
theorem dX8_waiting_2 : decode cX8_waiting 2 = .ok (.iconst 0, 1) := by decide +kernel
theorem dX8_waiting_3 : decode cX8_waiting 3 = .ok (.istore_n 2, 1) := by decide +kernel
theorem dX8_waiting_4 : decode cX8_waiting 4 = .ok (.iload_n 2, 1) := by decide +kernel
theorem dX8_waiting_5 : decode cX8_waiting 5 = .ok (.aload_n 0, 1) := by decide +kernel
theorem dX8_waiting_6 : decode cX8_waiting 6 = .ok (.getfield 94, 3) := by decide +kernel
theorem dX8_waiting_9 : decode cX8_waiting 9 = .ok (.if_icmp .ge 31, 3) := by decide +kernel
theorem dX8_waiting_12 : decode cX8_waiting 12 = .ok (.iload_n 1, 1) := by decide +kernel
theorem dX8_waiting_13 : decode cX8_waiting 13 = .ok (.aload_n 0, 1) := by decide +kernel
theorem dX8_waiting_14 : decode cX8_waiting 14 = .ok (.getfield 16, 3) := by decide +kernel
theorem dX8_waiting_17 : decode cX8_waiting 17 = .ok (.bipush 7, 2) := by decide +kernel
theorem dX8_waiting_19 : decode cX8_waiting 19 = .ok (.iload_n 2, 1) := by decide +kernel
theorem dX8_waiting_20 : decode cX8_waiting 20 = .ok (.iadd, 1) := by decide +kernel
theorem dX8_waiting_21 : decode cX8_waiting 21 = .ok (.iaload, 1) := by decide +kernel
theorem dX8_waiting_22 : decode cX8_waiting 22 = .ok (.ifCond .lt 9, 3) := by decide +kernel
theorem dX8_waiting_25 : decode cX8_waiting 25 = .ok (.iconst 1, 1) := by decide +kernel
theorem dX8_waiting_26 : decode cX8_waiting 26 = .ok (.iload_n 2, 1) := by decide +kernel
theorem dX8_waiting_27 : decode cX8_waiting 27 = .ok (.ishl, 1) := by decide +kernel
theorem dX8_waiting_28 : decode cX8_waiting 28 = .ok (.goto 4, 3) := by decide +kernel
theorem dX8_waiting_31 : decode cX8_waiting 31 = .ok (.iconst 0, 1) := by decide +kernel
theorem dX8_waiting_32 : decode cX8_waiting 32 = .ok (.ior, 1) := by decide +kernel
theorem dX8_waiting_33 : decode cX8_waiting 33 = .ok (.istore_n 1, 1) := by decide +kernel
theorem dX8_waiting_34 : decode cX8_waiting 34 = .ok (.iinc 2 1, 3) := by decide +kernel
theorem dX8_waiting_37 : decode cX8_waiting 37 = .ok (.goto (-33), 3) := by decide +kernel
theorem dX8_waiting_40 : decode cX8_waiting 40 = .ok (.iload_n 1, 1) := by decide +kernel
theorem dX8_waiting_41 : decode cX8_waiting 41 = .ok (.ireturn, 1) := by decide +kernel
theorem dX8_rusted_0 : decode cX8_rusted 0 = .ok (.iconst 0, 1) := by decide +kernel
theorem dX8_rusted_1 : decode cX8_rusted 1 = .ok (.istore_n 1, 1) := by decide +kernel
theorem dX8_rusted_2 : decode cX8_rusted 2 = .ok (.iconst 0, 1) := by decide +kernel
theorem dX8_rusted_3 : decode cX8_rusted 3 = .ok (.istore_n 2, 1) := by decide +kernel
theorem dX8_rusted_4 : decode cX8_rusted 4 = .ok (.iload_n 2, 1) := by decide +kernel
theorem dX8_rusted_5 : decode cX8_rusted 5 = .ok (.aload_n 0, 1) := by decide +kernel
theorem dX8_rusted_6 : decode cX8_rusted 6 = .ok (.getfield 87, 3) := by decide +kernel
theorem dX8_rusted_9 : decode cX8_rusted 9 = .ok (.if_icmp .ge 32, 3) := by decide +kernel
theorem dX8_rusted_12 : decode cX8_rusted 12 = .ok (.iload_n 1, 1) := by decide +kernel
theorem dX8_rusted_13 : decode cX8_rusted 13 = .ok (.aload_n 0, 1) := by decide +kernel
theorem dX8_rusted_14 : decode cX8_rusted 14 = .ok (.getfield 16, 3) := by decide +kernel
theorem dX8_rusted_17 : decode cX8_rusted 17 = .ok (.bipush 26, 2) := by decide +kernel
theorem dX8_rusted_19 : decode cX8_rusted 19 = .ok (.iload_n 2, 1) := by decide +kernel
theorem dX8_rusted_20 : decode cX8_rusted 20 = .ok (.iadd, 1) := by decide +kernel
theorem dX8_rusted_21 : decode cX8_rusted 21 = .ok (.iaload, 1) := by decide +kernel
theorem dX8_rusted_22 : decode cX8_rusted 22 = .ok (.iconst 1, 1) := by decide +kernel
theorem dX8_rusted_23 : decode cX8_rusted 23 = .ok (.if_icmp .ne 9, 3) := by decide +kernel
theorem dX8_rusted_26 : decode cX8_rusted 26 = .ok (.iconst 1, 1) := by decide +kernel
theorem dX8_rusted_27 : decode cX8_rusted 27 = .ok (.iload_n 2, 1) := by decide +kernel
theorem dX8_rusted_28 : decode cX8_rusted 28 = .ok (.ishl, 1) := by decide +kernel
theorem dX8_rusted_29 : decode cX8_rusted 29 = .ok (.goto 4, 3) := by decide +kernel
theorem dX8_rusted_32 : decode cX8_rusted 32 = .ok (.iconst 0, 1) := by decide +kernel
theorem dX8_rusted_33 : decode cX8_rusted 33 = .ok (.ior, 1) := by decide +kernel
theorem dX8_rusted_34 : decode cX8_rusted 34 = .ok (.istore_n 1, 1) := by decide +kernel
theorem dX8_rusted_35 : decode cX8_rusted 35 = .ok (.iinc 2 1, 3) := by decide +kernel
theorem dX8_rusted_38 : decode cX8_rusted 38 = .ok (.goto (-34), 3) := by decide +kernel
theorem dX8_rusted_41 : decode cX8_rusted 41 = .ok (.iload_n 1, 1) := by decide +kernel
theorem dX8_rusted_42 : decode cX8_rusted 42 = .ok (.ireturn, 1) := by decide +kernel
theorem dX8_whomWould_0 : decode cX8_whomWould 0 = .ok (.iconst 0, 1) := by decide +kernel
theorem dX8_whomWould_1 : decode cX8_whomWould 1 = .ok (.istore_n 2, 1) := by decide +kernel
theorem dX8_whomWould_2 : decode cX8_whomWould 2 = .ok (.iconst 0, 1) := by decide +kernel
theorem dX8_whomWould_3 : decode cX8_whomWould 3 = .ok (.istore_n 3, 1) := by decide +kernel
theorem dX8_whomWould_4 : decode cX8_whomWould 4 = .ok (.iload_n 3, 1) := by decide +kernel
theorem dX8_whomWould_5 : decode cX8_whomWould 5 = .ok (.aload_n 0, 1) := by decide +kernel
theorem dX8_whomWould_6 : decode cX8_whomWould 6 = .ok (.getfield 94, 3) := by decide +kernel
theorem dX8_whomWould_9 : decode cX8_whomWould 9 = .ok (.if_icmp .ge 33, 3) := by decide +kernel
theorem dX8_whomWould_12 : decode cX8_whomWould 12 = .ok (.iload_n 2, 1) := by decide +kernel
theorem dX8_whomWould_13 : decode cX8_whomWould 13 = .ok (.iload_n 3, 1) := by decide +kernel
theorem dX8_whomWould_14 : decode cX8_whomWould 14 = .ok (.iload_n 1, 1) := by decide +kernel
theorem dX8_whomWould_15 : decode cX8_whomWould 15 = .ok (.if_icmp .eq 18, 3) := by decide +kernel
theorem dX8_whomWould_18 : decode cX8_whomWould 18 = .ok (.aload_n 0, 1) := by decide +kernel
theorem dX8_whomWould_19 : decode cX8_whomWould 19 = .ok (.iload_n 1, 1) := by decide +kernel
theorem dX8_whomWould_20 : decode cX8_whomWould 20 = .ok (.iload_n 3, 1) := by decide +kernel
theorem dX8_whomWould_21 : decode cX8_whomWould 21 = .ok (.invokevirtual 166, 3) := by decide +kernel
theorem dX8_whomWould_24 : decode cX8_whomWould 24 = .ok (.ifCond .eq 9, 3) := by decide +kernel
theorem dX8_whomWould_27 : decode cX8_whomWould 27 = .ok (.iconst 1, 1) := by decide +kernel
theorem dX8_whomWould_28 : decode cX8_whomWould 28 = .ok (.iload_n 3, 1) := by decide +kernel
theorem dX8_whomWould_29 : decode cX8_whomWould 29 = .ok (.ishl, 1) := by decide +kernel
theorem dX8_whomWould_30 : decode cX8_whomWould 30 = .ok (.goto 4, 3) := by decide +kernel
theorem dX8_whomWould_33 : decode cX8_whomWould 33 = .ok (.iconst 0, 1) := by decide +kernel
theorem dX8_whomWould_34 : decode cX8_whomWould 34 = .ok (.ior, 1) := by decide +kernel
theorem dX8_whomWould_35 : decode cX8_whomWould 35 = .ok (.istore_n 2, 1) := by decide +kernel
theorem dX8_whomWould_36 : decode cX8_whomWould 36 = .ok (.iinc 3 1, 3) := by decide +kernel
theorem dX8_whomWould_39 : decode cX8_whomWould 39 = .ok (.goto (-35), 3) := by decide +kernel
theorem dX8_whomWould_42 : decode cX8_whomWould 42 = .ok (.iload_n 2, 1) := by decide +kernel
theorem dX8_whomWould_43 : decode cX8_whomWould 43 = .ok (.ireturn, 1) := by decide +kernel
theorem dX8_told_0 : decode cX8_told 0 = .ok (.iload_n 1, 1) := by decide +kernel
theorem dX8_told_1 : decode cX8_told 1 = .ok (.tableswitch 156 0 13 #[71, 76, 81, 86, 94, 102, 110, 116, 123, 128, 133, 141, 146, 151], 71) := by decide +kernel
theorem dX8_told_72 : decode cX8_told 72 = .ok (.aload_n 0, 1) := by decide +kernel
theorem dX8_told_73 : decode cX8_told 73 = .ok (.getfield 87, 3) := by decide +kernel
theorem dX8_told_76 : decode cX8_told 76 = .ok (.ireturn, 1) := by decide +kernel
theorem dX8_told_77 : decode cX8_told 77 = .ok (.aload_n 0, 1) := by decide +kernel
theorem dX8_told_78 : decode cX8_told 78 = .ok (.getfield 94, 3) := by decide +kernel
theorem dX8_told_81 : decode cX8_told 81 = .ok (.ireturn, 1) := by decide +kernel
theorem dX8_told_82 : decode cX8_told 82 = .ok (.aload_n 0, 1) := by decide +kernel
theorem dX8_told_83 : decode cX8_told 83 = .ok (.getfield 100, 3) := by decide +kernel
theorem dX8_told_86 : decode cX8_told 86 = .ok (.ireturn, 1) := by decide +kernel
theorem dX8_told_87 : decode cX8_told 87 = .ok (.aload_n 0, 1) := by decide +kernel
theorem dX8_told_88 : decode cX8_told 88 = .ok (.getfield 16, 3) := by decide +kernel
theorem dX8_told_91 : decode cX8_told 91 = .ok (.bipush 31, 2) := by decide +kernel
theorem dX8_told_93 : decode cX8_told 93 = .ok (.iaload, 1) := by decide +kernel
theorem dX8_told_94 : decode cX8_told 94 = .ok (.ireturn, 1) := by decide +kernel
theorem dX8_told_95 : decode cX8_told 95 = .ok (.aload_n 0, 1) := by decide +kernel
theorem dX8_told_96 : decode cX8_told 96 = .ok (.getfield 16, 3) := by decide +kernel
theorem dX8_told_99 : decode cX8_told 99 = .ok (.bipush 32, 2) := by decide +kernel
theorem dX8_told_101 : decode cX8_told 101 = .ok (.iaload, 1) := by decide +kernel
theorem dX8_told_102 : decode cX8_told 102 = .ok (.ireturn, 1) := by decide +kernel
theorem dX8_told_103 : decode cX8_told 103 = .ok (.aload_n 0, 1) := by decide +kernel
theorem dX8_told_104 : decode cX8_told 104 = .ok (.getfield 16, 3) := by decide +kernel
theorem dX8_told_107 : decode cX8_told 107 = .ok (.bipush 33, 2) := by decide +kernel
theorem dX8_told_109 : decode cX8_told 109 = .ok (.iaload, 1) := by decide +kernel
theorem dX8_told_110 : decode cX8_told 110 = .ok (.ireturn, 1) := by decide +kernel
theorem dX8_told_111 : decode cX8_told 111 = .ok (.aload_n 0, 1) := by decide +kernel
theorem dX8_told_112 : decode cX8_told 112 = .ok (.iconst 0, 1) := by decide +kernel
theorem dX8_told_113 : decode cX8_told 113 = .ok (.invokevirtual 169, 3) := by decide +kernel
theorem dX8_told_116 : decode cX8_told 116 = .ok (.ireturn, 1) := by decide +kernel
theorem dX8_told_117 : decode cX8_told 117 = .ok (.aload_n 0, 1) := by decide +kernel
theorem dX8_told_118 : decode cX8_told 118 = .ok (.bipush 14, 2) := by decide +kernel
theorem dX8_told_120 : decode cX8_told 120 = .ok (.invokevirtual 169, 3) := by decide +kernel
theorem dX8_told_123 : decode cX8_told 123 = .ok (.ireturn, 1) := by decide +kernel
theorem dX8_told_124 : decode cX8_told 124 = .ok (.aload_n 0, 1) := by decide +kernel
theorem dX8_told_125 : decode cX8_told 125 = .ok (.invokevirtual 173, 3) := by decide +kernel
theorem dX8_told_128 : decode cX8_told 128 = .ok (.ireturn, 1) := by decide +kernel
theorem dX8_told_129 : decode cX8_told 129 = .ok (.aload_n 0, 1) := by decide +kernel
theorem dX8_told_130 : decode cX8_told 130 = .ok (.invokevirtual 176, 3) := by decide +kernel
theorem dX8_told_133 : decode cX8_told 133 = .ok (.ireturn, 1) := by decide +kernel
theorem dX8_told_134 : decode cX8_told 134 = .ok (.aload_n 0, 1) := by decide +kernel
theorem dX8_told_135 : decode cX8_told 135 = .ok (.getfield 16, 3) := by decide +kernel
theorem dX8_told_138 : decode cX8_told 138 = .ok (.bipush 34, 2) := by decide +kernel
theorem dX8_told_140 : decode cX8_told 140 = .ok (.iaload, 1) := by decide +kernel
theorem dX8_told_141 : decode cX8_told 141 = .ok (.ireturn, 1) := by decide +kernel
theorem dX8_told_142 : decode cX8_told 142 = .ok (.aload_n 0, 1) := by decide +kernel
theorem dX8_told_143 : decode cX8_told 143 = .ok (.getfield 153, 3) := by decide +kernel
theorem dX8_told_146 : decode cX8_told 146 = .ok (.ireturn, 1) := by decide +kernel
theorem dX8_told_147 : decode cX8_told 147 = .ok (.aload_n 0, 1) := by decide +kernel
theorem dX8_told_148 : decode cX8_told 148 = .ok (.getfield 156, 3) := by decide +kernel
theorem dX8_told_151 : decode cX8_told 151 = .ok (.ireturn, 1) := by decide +kernel
theorem dX8_told_152 : decode cX8_told 152 = .ok (.aload_n 0, 1) := by decide +kernel
theorem dX8_told_153 : decode cX8_told 153 = .ok (.getfield 159, 3) := by decide +kernel
theorem dX8_told_156 : decode cX8_told 156 = .ok (.ireturn, 1) := by decide +kernel
theorem dX8_told_157 : decode cX8_told 157 = .ok (.ldc 99, 2) := by decide +kernel
theorem dX8_told_159 : decode cX8_told 159 = .ok (.ireturn, 1) := by decide +kernel
theorem dX8_gate_0 : decode cX8_gate 0 = .ok (.aload_n 0, 1) := by decide +kernel
theorem dX8_gate_1 : decode cX8_gate 1 = .ok (.iload_n 1, 1) := by decide +kernel
theorem dX8_gate_2 : decode cX8_gate 2 = .ok (.invokevirtual 179, 3) := by decide +kernel
theorem dX8_gate_5 : decode cX8_gate 5 = .ok (.ifCond .ne 6, 3) := by decide +kernel
theorem dX8_gate_8 : decode cX8_gate 8 = .ok (.ldc 183, 2) := by decide +kernel
theorem dX8_gate_10 : decode cX8_gate 10 = .ok (.ireturn, 1) := by decide +kernel
theorem dX8_gate_11 : decode cX8_gate 11 = .ok (.iload_n 2, 1) := by decide +kernel
theorem dX8_gate_12 : decode cX8_gate 12 = .ok (.tableswitch 65 0 3 #[32, 39, 49, 59], 32) := by decide +kernel
theorem dX8_gate_44 : decode cX8_gate 44 = .ok (.aload_n 0, 1) := by decide +kernel
theorem dX8_gate_45 : decode cX8_gate 45 = .ok (.getfield 7, 3) := by decide +kernel
theorem dX8_gate_48 : decode cX8_gate 48 = .ok (.iload_n 1, 1) := by decide +kernel
theorem dX8_gate_49 : decode cX8_gate 49 = .ok (.iaload, 1) := by decide +kernel
theorem dX8_gate_50 : decode cX8_gate 50 = .ok (.ireturn, 1) := by decide +kernel
theorem dX8_gate_51 : decode cX8_gate 51 = .ok (.aload_n 0, 1) := by decide +kernel
theorem dX8_gate_52 : decode cX8_gate 52 = .ok (.getfield 16, 3) := by decide +kernel
theorem dX8_gate_55 : decode cX8_gate 55 = .ok (.bipush 21, 2) := by decide +kernel
theorem dX8_gate_57 : decode cX8_gate 57 = .ok (.iload_n 1, 1) := by decide +kernel
theorem dX8_gate_58 : decode cX8_gate 58 = .ok (.iadd, 1) := by decide +kernel
theorem dX8_gate_59 : decode cX8_gate 59 = .ok (.iaload, 1) := by decide +kernel
theorem dX8_gate_60 : decode cX8_gate 60 = .ok (.ireturn, 1) := by decide +kernel
theorem dX8_gate_61 : decode cX8_gate 61 = .ok (.aload_n 0, 1) := by decide +kernel
theorem dX8_gate_62 : decode cX8_gate 62 = .ok (.getfield 16, 3) := by decide +kernel
theorem dX8_gate_65 : decode cX8_gate 65 = .ok (.bipush 26, 2) := by decide +kernel
theorem dX8_gate_67 : decode cX8_gate 67 = .ok (.iload_n 1, 1) := by decide +kernel
theorem dX8_gate_68 : decode cX8_gate 68 = .ok (.iadd, 1) := by decide +kernel
theorem dX8_gate_69 : decode cX8_gate 69 = .ok (.iaload, 1) := by decide +kernel
theorem dX8_gate_70 : decode cX8_gate 70 = .ok (.ireturn, 1) := by decide +kernel
theorem dX8_gate_71 : decode cX8_gate 71 = .ok (.aload_n 0, 1) := by decide +kernel
theorem dX8_gate_72 : decode cX8_gate 72 = .ok (.iload_n 1, 1) := by decide +kernel
theorem dX8_gate_73 : decode cX8_gate 73 = .ok (.invokevirtual 184, 3) := by decide +kernel
theorem dX8_gate_76 : decode cX8_gate 76 = .ok (.ireturn, 1) := by decide +kernel
theorem dX8_gate_77 : decode cX8_gate 77 = .ok (.ldc 99, 2) := by decide +kernel
theorem dX8_gate_79 : decode cX8_gate 79 = .ok (.ireturn, 1) := by decide +kernel
theorem dX8_person_0 : decode cX8_person 0 = .ok (.aload_n 0, 1) := by decide +kernel
theorem dX8_person_1 : decode cX8_person 1 = .ok (.iload_n 1, 1) := by decide +kernel
theorem dX8_person_2 : decode cX8_person 2 = .ok (.invokevirtual 187, 3) := by decide +kernel
theorem dX8_person_5 : decode cX8_person 5 = .ok (.ifCond .ne 6, 3) := by decide +kernel
theorem dX8_person_8 : decode cX8_person 8 = .ok (.ldc 183, 2) := by decide +kernel
theorem dX8_person_10 : decode cX8_person 10 = .ok (.ireturn, 1) := by decide +kernel
theorem dX8_person_11 : decode cX8_person 11 = .ok (.iload_n 2, 1) := by decide +kernel
theorem dX8_person_12 : decode cX8_person 12 = .ok (.tableswitch 65 0 3 #[32, 39, 49, 59], 32) := by decide +kernel
theorem dX8_person_44 : decode cX8_person 44 = .ok (.aload_n 0, 1) := by decide +kernel
theorem dX8_person_45 : decode cX8_person 45 = .ok (.getfield 16, 3) := by decide +kernel
theorem dX8_person_48 : decode cX8_person 48 = .ok (.iload_n 1, 1) := by decide +kernel
theorem dX8_person_49 : decode cX8_person 49 = .ok (.iaload, 1) := by decide +kernel
theorem dX8_person_50 : decode cX8_person 50 = .ok (.ireturn, 1) := by decide +kernel
theorem dX8_person_51 : decode cX8_person 51 = .ok (.aload_n 0, 1) := by decide +kernel
theorem dX8_person_52 : decode cX8_person 52 = .ok (.getfield 16, 3) := by decide +kernel
theorem dX8_person_55 : decode cX8_person 55 = .ok (.bipush 7, 2) := by decide +kernel
theorem dX8_person_57 : decode cX8_person 57 = .ok (.iload_n 1, 1) := by decide +kernel
theorem dX8_person_58 : decode cX8_person 58 = .ok (.iadd, 1) := by decide +kernel
theorem dX8_person_59 : decode cX8_person 59 = .ok (.iaload, 1) := by decide +kernel
theorem dX8_person_60 : decode cX8_person 60 = .ok (.ireturn, 1) := by decide +kernel
theorem dX8_person_61 : decode cX8_person 61 = .ok (.aload_n 0, 1) := by decide +kernel
theorem dX8_person_62 : decode cX8_person 62 = .ok (.getfield 16, 3) := by decide +kernel
theorem dX8_person_65 : decode cX8_person 65 = .ok (.bipush 14, 2) := by decide +kernel
theorem dX8_person_67 : decode cX8_person 67 = .ok (.iload_n 1, 1) := by decide +kernel
theorem dX8_person_68 : decode cX8_person 68 = .ok (.iadd, 1) := by decide +kernel
theorem dX8_person_69 : decode cX8_person 69 = .ok (.iaload, 1) := by decide +kernel
theorem dX8_person_70 : decode cX8_person 70 = .ok (.ireturn, 1) := by decide +kernel
theorem dX8_person_71 : decode cX8_person 71 = .ok (.aload_n 0, 1) := by decide +kernel
theorem dX8_person_72 : decode cX8_person 72 = .ok (.iload_n 1, 1) := by decide +kernel
theorem dX8_person_73 : decode cX8_person 73 = .ok (.invokevirtual 190, 3) := by decide +kernel
theorem dX8_person_76 : decode cX8_person 76 = .ok (.ireturn, 1) := by decide +kernel
theorem dX8_person_77 : decode cX8_person 77 = .ok (.ldc 99, 2) := by decide +kernel
theorem dX8_person_79 : decode cX8_person 79 = .ok (.ireturn, 1) := by decide +kernel
theorem dX8_likes_0 : decode cX8_likes 0 = .ok (.aload_n 0, 1) := by decide +kernel
theorem dX8_likes_1 : decode cX8_likes 1 = .ok (.iload_n 1, 1) := by decide +kernel
theorem dX8_likes_2 : decode cX8_likes 2 = .ok (.invokevirtual 187, 3) := by decide +kernel
theorem dX8_likes_5 : decode cX8_likes 5 = .ok (.ifCond .eq 30, 3) := by decide +kernel
theorem dX8_likes_8 : decode cX8_likes 8 = .ok (.aload_n 0, 1) := by decide +kernel
theorem dX8_likes_9 : decode cX8_likes 9 = .ok (.iload_n 2, 1) := by decide +kernel
theorem dX8_likes_10 : decode cX8_likes 10 = .ok (.invokevirtual 187, 3) := by decide +kernel
theorem dX8_likes_13 : decode cX8_likes 13 = .ok (.ifCond .eq 22, 3) := by decide +kernel
theorem dX8_likes_16 : decode cX8_likes 16 = .ok (.iload_n 1, 1) := by decide +kernel
theorem dX8_likes_17 : decode cX8_likes 17 = .ok (.iload_n 2, 1) := by decide +kernel
theorem dX8_likes_18 : decode cX8_likes 18 = .ok (.if_icmp .eq 17, 3) := by decide +kernel
theorem dX8_likes_21 : decode cX8_likes 21 = .ok (.aload_n 0, 1) := by decide +kernel
theorem dX8_likes_22 : decode cX8_likes 22 = .ok (.getfield 13, 3) := by decide +kernel
theorem dX8_likes_25 : decode cX8_likes 25 = .ok (.bipush 7, 2) := by decide +kernel
theorem dX8_likes_27 : decode cX8_likes 27 = .ok (.iload_n 1, 1) := by decide +kernel
theorem dX8_likes_28 : decode cX8_likes 28 = .ok (.imul, 1) := by decide +kernel
theorem dX8_likes_29 : decode cX8_likes 29 = .ok (.iload_n 2, 1) := by decide +kernel
theorem dX8_likes_30 : decode cX8_likes 30 = .ok (.iadd, 1) := by decide +kernel
theorem dX8_likes_31 : decode cX8_likes 31 = .ok (.iaload, 1) := by decide +kernel
theorem dX8_likes_32 : decode cX8_likes 32 = .ok (.goto 5, 3) := by decide +kernel
theorem dX8_likes_35 : decode cX8_likes 35 = .ok (.ldc 183, 2) := by decide +kernel
theorem dX8_likes_37 : decode cX8_likes 37 = .ok (.ireturn, 1) := by decide +kernel
theorem dX8_logged_0 : decode cX8_logged 0 = .ok (.iload_n 1, 1) := by decide +kernel
theorem dX8_logged_1 : decode cX8_logged 1 = .ok (.i2l, 1) := by decide +kernel
theorem dX8_logged_2 : decode cX8_logged 2 = .ok (.lconst 0, 1) := by decide +kernel
theorem dX8_logged_3 : decode cX8_logged 3 = .ok (.aload_n 0, 1) := by decide +kernel
theorem dX8_logged_4 : decode cX8_logged 4 = .ok (.getfield 16, 3) := by decide +kernel
theorem dX8_logged_7 : decode cX8_logged 7 = .ok (.bipush 34, 2) := by decide +kernel
theorem dX8_logged_9 : decode cX8_logged 9 = .ok (.iaload, 1) := by decide +kernel
theorem dX8_logged_10 : decode cX8_logged 10 = .ok (.iconst 1, 1) := by decide +kernel
theorem dX8_logged_11 : decode cX8_logged 11 = .ok (.isub, 1) := by decide +kernel
theorem dX8_logged_12 : decode cX8_logged 12 = .ok (.i2l, 1) := by decide +kernel
theorem dX8_logged_13 : decode cX8_logged 13 = .ok (.invokestatic 90, 3) := by decide +kernel
theorem dX8_logged_16 : decode cX8_logged 16 = .ok (.ifCond .eq 25, 3) := by decide +kernel
theorem dX8_logged_19 : decode cX8_logged 19 = .ok (.aload_n 0, 1) := by decide +kernel
theorem dX8_logged_20 : decode cX8_logged 20 = .ok (.getfield 16, 3) := by decide +kernel
theorem dX8_logged_23 : decode cX8_logged 23 = .ok (.bipush 35, 2) := by decide +kernel
theorem dX8_logged_25 : decode cX8_logged 25 = .ok (.aload_n 0, 1) := by decide +kernel
theorem dX8_logged_26 : decode cX8_logged 26 = .ok (.getfield 16, 3) := by decide +kernel
theorem dX8_logged_29 : decode cX8_logged 29 = .ok (.bipush 34, 2) := by decide +kernel
theorem dX8_logged_31 : decode cX8_logged 31 = .ok (.iaload, 1) := by decide +kernel
theorem dX8_logged_32 : decode cX8_logged 32 = .ok (.iadd, 1) := by decide +kernel
theorem dX8_logged_33 : decode cX8_logged 33 = .ok (.iconst 1, 1) := by decide +kernel
theorem dX8_logged_34 : decode cX8_logged 34 = .ok (.isub, 1) := by decide +kernel
theorem dX8_logged_35 : decode cX8_logged 35 = .ok (.iload_n 1, 1) := by decide +kernel
theorem dX8_logged_36 : decode cX8_logged 36 = .ok (.isub, 1) := by decide +kernel
theorem dX8_logged_37 : decode cX8_logged 37 = .ok (.iaload, 1) := by decide +kernel
theorem dX8_logged_38 : decode cX8_logged 38 = .ok (.goto 4, 3) := by decide +kernel
theorem dX8_logged_41 : decode cX8_logged 41 = .ok (.iconst (-1), 1) := by decide +kernel
theorem dX8_logged_42 : decode cX8_logged 42 = .ok (.ireturn, 1) := by decide +kernel
theorem dX8_remember_0 : decode cX8_remember 0 = .ok (.aload_n 0, 1) := by decide +kernel
theorem dX8_remember_1 : decode cX8_remember 1 = .ok (.getfield 159, 3) := by decide +kernel
theorem dX8_remember_4 : decode cX8_remember 4 = .ok (.bipush 20, 2) := by decide +kernel
theorem dX8_remember_6 : decode cX8_remember 6 = .ok (.if_icmp .ne 44, 3) := by decide +kernel
theorem dX8_remember_9 : decode cX8_remember 9 = .ok (.bipush 55, 2) := by decide +kernel
theorem dX8_remember_11 : decode cX8_remember 11 = .ok (.istore_n 1, 1) := by decide +kernel
theorem dX8_remember_12 : decode cX8_remember 12 = .ok (.iload_n 1, 1) := by decide +kernel
theorem dX8_remember_13 : decode cX8_remember 13 = .ok (.sipush 1100, 3) := by decide +kernel
theorem dX8_remember_16 : decode cX8_remember 16 = .ok (.if_icmp .ge 24, 3) := by decide +kernel
theorem dX8_remember_19 : decode cX8_remember 19 = .ok (.aload_n 0, 1) := by decide +kernel
theorem dX8_remember_20 : decode cX8_remember 20 = .ok (.getfield 44, 3) := by decide +kernel
theorem dX8_remember_23 : decode cX8_remember 23 = .ok (.iload_n 1, 1) := by decide +kernel
theorem dX8_remember_24 : decode cX8_remember 24 = .ok (.bipush 55, 2) := by decide +kernel
theorem dX8_remember_26 : decode cX8_remember 26 = .ok (.isub, 1) := by decide +kernel
theorem dX8_remember_27 : decode cX8_remember 27 = .ok (.aload_n 0, 1) := by decide +kernel
theorem dX8_remember_28 : decode cX8_remember 28 = .ok (.getfield 44, 3) := by decide +kernel
theorem dX8_remember_31 : decode cX8_remember 31 = .ok (.iload_n 1, 1) := by decide +kernel
theorem dX8_remember_32 : decode cX8_remember 32 = .ok (.iaload, 1) := by decide +kernel
theorem dX8_remember_33 : decode cX8_remember 33 = .ok (.iastore, 1) := by decide +kernel
theorem dX8_remember_34 : decode cX8_remember 34 = .ok (.iinc 1 1, 3) := by decide +kernel
theorem dX8_remember_37 : decode cX8_remember 37 = .ok (.goto (-25), 3) := by decide +kernel
theorem dX8_remember_40 : decode cX8_remember 40 = .ok (.aload_n 0, 1) := by decide +kernel
theorem dX8_remember_41 : decode cX8_remember 41 = .ok (.dup, 1) := by decide +kernel
theorem dX8_remember_42 : decode cX8_remember 42 = .ok (.getfield 159, 3) := by decide +kernel
theorem dX8_remember_45 : decode cX8_remember 45 = .ok (.iconst 1, 1) := by decide +kernel
theorem dX8_remember_46 : decode cX8_remember 46 = .ok (.isub, 1) := by decide +kernel
theorem dX8_remember_47 : decode cX8_remember 47 = .ok (.putfield 159, 3) := by decide +kernel
theorem dX8_remember_50 : decode cX8_remember 50 = .ok (.iconst 0, 1) := by decide +kernel
theorem dX8_remember_51 : decode cX8_remember 51 = .ok (.istore_n 1, 1) := by decide +kernel
theorem dX8_remember_52 : decode cX8_remember 52 = .ok (.iload_n 1, 1) := by decide +kernel
theorem dX8_remember_53 : decode cX8_remember 53 = .ok (.bipush 55, 2) := by decide +kernel
theorem dX8_remember_55 : decode cX8_remember 55 = .ok (.if_icmp .ge 29, 3) := by decide +kernel
theorem dX8_remember_58 : decode cX8_remember 58 = .ok (.aload_n 0, 1) := by decide +kernel
theorem dX8_remember_59 : decode cX8_remember 59 = .ok (.getfield 44, 3) := by decide +kernel
theorem dX8_remember_62 : decode cX8_remember 62 = .ok (.bipush 55, 2) := by decide +kernel
theorem dX8_remember_64 : decode cX8_remember 64 = .ok (.aload_n 0, 1) := by decide +kernel
theorem dX8_remember_65 : decode cX8_remember 65 = .ok (.getfield 159, 3) := by decide +kernel
theorem dX8_remember_68 : decode cX8_remember 68 = .ok (.imul, 1) := by decide +kernel
theorem dX8_remember_69 : decode cX8_remember 69 = .ok (.iload_n 1, 1) := by decide +kernel
theorem dX8_remember_70 : decode cX8_remember 70 = .ok (.iadd, 1) := by decide +kernel
theorem dX8_remember_71 : decode cX8_remember 71 = .ok (.aload_n 0, 1) := by decide +kernel
theorem dX8_remember_72 : decode cX8_remember 72 = .ok (.getfield 16, 3) := by decide +kernel
theorem dX8_remember_75 : decode cX8_remember 75 = .ok (.iload_n 1, 1) := by decide +kernel
theorem dX8_remember_76 : decode cX8_remember 76 = .ok (.iaload, 1) := by decide +kernel
theorem dX8_remember_77 : decode cX8_remember 77 = .ok (.iastore, 1) := by decide +kernel
theorem dX8_remember_78 : decode cX8_remember 78 = .ok (.iinc 1 1, 3) := by decide +kernel
theorem dX8_remember_81 : decode cX8_remember 81 = .ok (.goto (-29), 3) := by decide +kernel
theorem dX8_remember_84 : decode cX8_remember 84 = .ok (.aload_n 0, 1) := by decide +kernel
theorem dX8_remember_85 : decode cX8_remember 85 = .ok (.dup, 1) := by decide +kernel
theorem dX8_remember_86 : decode cX8_remember 86 = .ok (.getfield 159, 3) := by decide +kernel
theorem dX8_remember_89 : decode cX8_remember 89 = .ok (.iconst 1, 1) := by decide +kernel
theorem dX8_remember_90 : decode cX8_remember 90 = .ok (.iadd, 1) := by decide +kernel
theorem dX8_remember_91 : decode cX8_remember 91 = .ok (.putfield 159, 3) := by decide +kernel
theorem dX8_remember_94 : decode cX8_remember 94 = .ok (.return_, 1) := by decide +kernel
theorem dX8_log_0 : decode cX8_log 0 = .ok (.aload_n 0, 1) := by decide +kernel
theorem dX8_log_1 : decode cX8_log 1 = .ok (.getfield 16, 3) := by decide +kernel
theorem dX8_log_4 : decode cX8_log 4 = .ok (.bipush 34, 2) := by decide +kernel
theorem dX8_log_6 : decode cX8_log 6 = .ok (.iaload, 1) := by decide +kernel
theorem dX8_log_7 : decode cX8_log 7 = .ok (.bipush 20, 2) := by decide +kernel
theorem dX8_log_9 : decode cX8_log 9 = .ok (.if_icmp .ne 43, 3) := by decide +kernel
theorem dX8_log_12 : decode cX8_log 12 = .ok (.bipush 36, 2) := by decide +kernel
theorem dX8_log_14 : decode cX8_log 14 = .ok (.istore_n 2, 1) := by decide +kernel
theorem dX8_log_15 : decode cX8_log 15 = .ok (.iload_n 2, 1) := by decide +kernel
theorem dX8_log_16 : decode cX8_log 16 = .ok (.bipush 55, 2) := by decide +kernel
theorem dX8_log_18 : decode cX8_log 18 = .ok (.if_icmp .ge 23, 3) := by decide +kernel
theorem dX8_log_21 : decode cX8_log 21 = .ok (.aload_n 0, 1) := by decide +kernel
theorem dX8_log_22 : decode cX8_log 22 = .ok (.getfield 16, 3) := by decide +kernel
theorem dX8_log_25 : decode cX8_log 25 = .ok (.iload_n 2, 1) := by decide +kernel
theorem dX8_log_26 : decode cX8_log 26 = .ok (.iconst 1, 1) := by decide +kernel
theorem dX8_log_27 : decode cX8_log 27 = .ok (.isub, 1) := by decide +kernel
theorem dX8_log_28 : decode cX8_log 28 = .ok (.aload_n 0, 1) := by decide +kernel
theorem dX8_log_29 : decode cX8_log 29 = .ok (.getfield 16, 3) := by decide +kernel
theorem dX8_log_32 : decode cX8_log 32 = .ok (.iload_n 2, 1) := by decide +kernel
theorem dX8_log_33 : decode cX8_log 33 = .ok (.iaload, 1) := by decide +kernel
theorem dX8_log_34 : decode cX8_log 34 = .ok (.iastore, 1) := by decide +kernel
theorem dX8_log_35 : decode cX8_log 35 = .ok (.iinc 2 1, 3) := by decide +kernel
theorem dX8_log_38 : decode cX8_log 38 = .ok (.goto (-23), 3) := by decide +kernel
theorem dX8_log_41 : decode cX8_log 41 = .ok (.aload_n 0, 1) := by decide +kernel
theorem dX8_log_42 : decode cX8_log 42 = .ok (.getfield 16, 3) := by decide +kernel
theorem dX8_log_45 : decode cX8_log 45 = .ok (.bipush 34, 2) := by decide +kernel
theorem dX8_log_47 : decode cX8_log 47 = .ok (.dup2, 1) := by decide +kernel
theorem dX8_log_48 : decode cX8_log 48 = .ok (.iaload, 1) := by decide +kernel
theorem dX8_log_49 : decode cX8_log 49 = .ok (.iconst 1, 1) := by decide +kernel
theorem dX8_log_50 : decode cX8_log 50 = .ok (.isub, 1) := by decide +kernel
theorem dX8_log_51 : decode cX8_log 51 = .ok (.iastore, 1) := by decide +kernel
theorem dX8_log_52 : decode cX8_log 52 = .ok (.aload_n 0, 1) := by decide +kernel
theorem dX8_log_53 : decode cX8_log 53 = .ok (.getfield 16, 3) := by decide +kernel
theorem dX8_log_56 : decode cX8_log 56 = .ok (.bipush 35, 2) := by decide +kernel
theorem dX8_log_58 : decode cX8_log 58 = .ok (.aload_n 0, 1) := by decide +kernel
theorem dX8_log_59 : decode cX8_log 59 = .ok (.getfield 16, 3) := by decide +kernel
theorem dX8_log_62 : decode cX8_log 62 = .ok (.bipush 34, 2) := by decide +kernel
theorem dX8_log_64 : decode cX8_log 64 = .ok (.iaload, 1) := by decide +kernel
theorem dX8_log_65 : decode cX8_log 65 = .ok (.iadd, 1) := by decide +kernel
theorem dX8_log_66 : decode cX8_log 66 = .ok (.iload_n 1, 1) := by decide +kernel
theorem dX8_log_67 : decode cX8_log 67 = .ok (.iastore, 1) := by decide +kernel
theorem dX8_log_68 : decode cX8_log 68 = .ok (.aload_n 0, 1) := by decide +kernel
theorem dX8_log_69 : decode cX8_log 69 = .ok (.getfield 16, 3) := by decide +kernel
theorem dX8_log_72 : decode cX8_log 72 = .ok (.bipush 34, 2) := by decide +kernel
theorem dX8_log_74 : decode cX8_log 74 = .ok (.dup2, 1) := by decide +kernel
theorem dX8_log_75 : decode cX8_log 75 = .ok (.iaload, 1) := by decide +kernel
theorem dX8_log_76 : decode cX8_log 76 = .ok (.iconst 1, 1) := by decide +kernel
theorem dX8_log_77 : decode cX8_log 77 = .ok (.iadd, 1) := by decide +kernel
theorem dX8_log_78 : decode cX8_log 78 = .ok (.iastore, 1) := by decide +kernel
theorem dX8_log_79 : decode cX8_log 79 = .ok (.return_, 1) := by decide +kernel
theorem dX8_meet_0 : decode cX8_meet 0 = .ok (.aload_n 0, 1) := by decide +kernel
theorem dX8_meet_1 : decode cX8_meet 1 = .ok (.getfield 16, 3) := by decide +kernel
theorem dX8_meet_4 : decode cX8_meet 4 = .ok (.iload_n 1, 1) := by decide +kernel
theorem dX8_meet_5 : decode cX8_meet 5 = .ok (.iconst 1, 1) := by decide +kernel
theorem dX8_meet_6 : decode cX8_meet 6 = .ok (.aload_n 0, 1) := by decide +kernel
theorem dX8_meet_7 : decode cX8_meet 7 = .ok (.getfield 16, 3) := by decide +kernel
theorem dX8_meet_10 : decode cX8_meet 10 = .ok (.iload_n 1, 1) := by decide +kernel
theorem dX8_meet_11 : decode cX8_meet 11 = .ok (.iaload, 1) := by decide +kernel
theorem dX8_meet_12 : decode cX8_meet 12 = .ok (.isub, 1) := by decide +kernel
theorem dX8_meet_13 : decode cX8_meet 13 = .ok (.iastore, 1) := by decide +kernel
theorem dX8_meet_14 : decode cX8_meet 14 = .ok (.aload_n 0, 1) := by decide +kernel
theorem dX8_meet_15 : decode cX8_meet 15 = .ok (.getfield 16, 3) := by decide +kernel
theorem dX8_meet_18 : decode cX8_meet 18 = .ok (.iload_n 2, 1) := by decide +kernel
theorem dX8_meet_19 : decode cX8_meet 19 = .ok (.iconst 1, 1) := by decide +kernel
theorem dX8_meet_20 : decode cX8_meet 20 = .ok (.aload_n 0, 1) := by decide +kernel
theorem dX8_meet_21 : decode cX8_meet 21 = .ok (.getfield 16, 3) := by decide +kernel
theorem dX8_meet_24 : decode cX8_meet 24 = .ok (.iload_n 2, 1) := by decide +kernel
theorem dX8_meet_25 : decode cX8_meet 25 = .ok (.iaload, 1) := by decide +kernel
theorem dX8_meet_26 : decode cX8_meet 26 = .ok (.isub, 1) := by decide +kernel
theorem dX8_meet_27 : decode cX8_meet 27 = .ok (.iastore, 1) := by decide +kernel
theorem dX8_meet_28 : decode cX8_meet 28 = .ok (.aload_n 0, 1) := by decide +kernel
theorem dX8_meet_29 : decode cX8_meet 29 = .ok (.getfield 16, 3) := by decide +kernel
theorem dX8_meet_32 : decode cX8_meet 32 = .ok (.bipush 7, 2) := by decide +kernel
theorem dX8_meet_34 : decode cX8_meet 34 = .ok (.iload_n 1, 1) := by decide +kernel
theorem dX8_meet_35 : decode cX8_meet 35 = .ok (.iadd, 1) := by decide +kernel
theorem dX8_meet_36 : decode cX8_meet 36 = .ok (.iconst (-1), 1) := by decide +kernel
theorem dX8_meet_37 : decode cX8_meet 37 = .ok (.iastore, 1) := by decide +kernel
theorem dX8_meet_38 : decode cX8_meet 38 = .ok (.aload_n 0, 1) := by decide +kernel
theorem dX8_meet_39 : decode cX8_meet 39 = .ok (.getfield 16, 3) := by decide +kernel
theorem dX8_meet_42 : decode cX8_meet 42 = .ok (.bipush 7, 2) := by decide +kernel
theorem dX8_meet_44 : decode cX8_meet 44 = .ok (.iload_n 2, 1) := by decide +kernel
theorem dX8_meet_45 : decode cX8_meet 45 = .ok (.iadd, 1) := by decide +kernel
theorem dX8_meet_46 : decode cX8_meet 46 = .ok (.iconst (-1), 1) := by decide +kernel
theorem dX8_meet_47 : decode cX8_meet 47 = .ok (.iastore, 1) := by decide +kernel
theorem dX8_meet_48 : decode cX8_meet 48 = .ok (.aload_n 0, 1) := by decide +kernel
theorem dX8_meet_49 : decode cX8_meet 49 = .ok (.getfield 16, 3) := by decide +kernel
theorem dX8_meet_52 : decode cX8_meet 52 = .ok (.bipush 14, 2) := by decide +kernel
theorem dX8_meet_54 : decode cX8_meet 54 = .ok (.iload_n 1, 1) := by decide +kernel
theorem dX8_meet_55 : decode cX8_meet 55 = .ok (.iadd, 1) := by decide +kernel
theorem dX8_meet_56 : decode cX8_meet 56 = .ok (.iaload, 1) := by decide +kernel
theorem dX8_meet_57 : decode cX8_meet 57 = .ok (.iconst 1, 1) := by decide +kernel
theorem dX8_meet_58 : decode cX8_meet 58 = .ok (.if_icmp .eq 16, 3) := by decide +kernel
theorem dX8_meet_61 : decode cX8_meet 61 = .ok (.aload_n 0, 1) := by decide +kernel
theorem dX8_meet_62 : decode cX8_meet 62 = .ok (.getfield 16, 3) := by decide +kernel
theorem dX8_meet_65 : decode cX8_meet 65 = .ok (.bipush 14, 2) := by decide +kernel
theorem dX8_meet_67 : decode cX8_meet 67 = .ok (.iload_n 2, 1) := by decide +kernel
theorem dX8_meet_68 : decode cX8_meet 68 = .ok (.iadd, 1) := by decide +kernel
theorem dX8_meet_69 : decode cX8_meet 69 = .ok (.iaload, 1) := by decide +kernel
theorem dX8_meet_70 : decode cX8_meet 70 = .ok (.iconst 1, 1) := by decide +kernel
theorem dX8_meet_71 : decode cX8_meet 71 = .ok (.if_icmp .ne 7, 3) := by decide +kernel
theorem dX8_meet_74 : decode cX8_meet 74 = .ok (.iconst 1, 1) := by decide +kernel
theorem dX8_meet_75 : decode cX8_meet 75 = .ok (.goto 4, 3) := by decide +kernel
theorem dX8_meet_78 : decode cX8_meet 78 = .ok (.iconst 0, 1) := by decide +kernel
theorem dX8_meet_79 : decode cX8_meet 79 = .ok (.istore_n 3, 1) := by decide +kernel
theorem dX8_meet_80 : decode cX8_meet 80 = .ok (.aload_n 0, 1) := by decide +kernel
theorem dX8_meet_81 : decode cX8_meet 81 = .ok (.getfield 16, 3) := by decide +kernel
theorem dX8_meet_84 : decode cX8_meet 84 = .ok (.bipush 14, 2) := by decide +kernel
theorem dX8_meet_86 : decode cX8_meet 86 = .ok (.iload_n 1, 1) := by decide +kernel
theorem dX8_meet_87 : decode cX8_meet 87 = .ok (.iadd, 1) := by decide +kernel
theorem dX8_meet_88 : decode cX8_meet 88 = .ok (.iload_n 3, 1) := by decide +kernel
theorem dX8_meet_89 : decode cX8_meet 89 = .ok (.iastore, 1) := by decide +kernel
theorem dX8_meet_90 : decode cX8_meet 90 = .ok (.aload_n 0, 1) := by decide +kernel
theorem dX8_meet_91 : decode cX8_meet 91 = .ok (.getfield 16, 3) := by decide +kernel
theorem dX8_meet_94 : decode cX8_meet 94 = .ok (.bipush 14, 2) := by decide +kernel
theorem dX8_meet_96 : decode cX8_meet 96 = .ok (.iload_n 2, 1) := by decide +kernel
theorem dX8_meet_97 : decode cX8_meet 97 = .ok (.iadd, 1) := by decide +kernel
theorem dX8_meet_98 : decode cX8_meet 98 = .ok (.iload_n 3, 1) := by decide +kernel
theorem dX8_meet_99 : decode cX8_meet 99 = .ok (.iastore, 1) := by decide +kernel
theorem dX8_meet_100 : decode cX8_meet 100 = .ok (.aload_n 0, 1) := by decide +kernel
theorem dX8_meet_101 : decode cX8_meet 101 = .ok (.getfield 16, 3) := by decide +kernel
theorem dX8_meet_104 : decode cX8_meet 104 = .ok (.bipush 32, 2) := by decide +kernel
theorem dX8_meet_106 : decode cX8_meet 106 = .ok (.dup2, 1) := by decide +kernel
theorem dX8_meet_107 : decode cX8_meet 107 = .ok (.iaload, 1) := by decide +kernel
theorem dX8_meet_108 : decode cX8_meet 108 = .ok (.iconst 1, 1) := by decide +kernel
theorem dX8_meet_109 : decode cX8_meet 109 = .ok (.iadd, 1) := by decide +kernel
theorem dX8_meet_110 : decode cX8_meet 110 = .ok (.iastore, 1) := by decide +kernel
theorem dX8_meet_111 : decode cX8_meet 111 = .ok (.aload_n 0, 1) := by decide +kernel
theorem dX8_meet_112 : decode cX8_meet 112 = .ok (.bipush 10, 2) := by decide +kernel
theorem dX8_meet_114 : decode cX8_meet 114 = .ok (.iload_n 1, 1) := by decide +kernel
theorem dX8_meet_115 : decode cX8_meet 115 = .ok (.imul, 1) := by decide +kernel
theorem dX8_meet_116 : decode cX8_meet 116 = .ok (.iload_n 2, 1) := by decide +kernel
theorem dX8_meet_117 : decode cX8_meet 117 = .ok (.iadd, 1) := by decide +kernel
theorem dX8_meet_118 : decode cX8_meet 118 = .ok (.invokevirtual 193, 3) := by decide +kernel
theorem dX8_meet_121 : decode cX8_meet 121 = .ok (.return_, 1) := by decide +kernel
theorem dX8_pairAt_0 : decode cX8_pairAt 0 = .ok (.iconst (-1), 1) := by decide +kernel
theorem dX8_pairAt_1 : decode cX8_pairAt 1 = .ok (.istore_n 2, 1) := by decide +kernel
theorem dX8_pairAt_2 : decode cX8_pairAt 2 = .ok (.iconst 0, 1) := by decide +kernel
theorem dX8_pairAt_3 : decode cX8_pairAt 3 = .ok (.istore_n 3, 1) := by decide +kernel
theorem dX8_pairAt_4 : decode cX8_pairAt 4 = .ok (.iload_n 3, 1) := by decide +kernel
theorem dX8_pairAt_5 : decode cX8_pairAt 5 = .ok (.bipush 21, 2) := by decide +kernel
theorem dX8_pairAt_7 : decode cX8_pairAt 7 = .ok (.if_icmp .ge 171, 3) := by decide +kernel
theorem dX8_pairAt_10 : decode cX8_pairAt 10 = .ok (.aload_n 0, 1) := by decide +kernel
theorem dX8_pairAt_11 : decode cX8_pairAt 11 = .ok (.getfield 19, 3) := by decide +kernel
theorem dX8_pairAt_14 : decode cX8_pairAt 14 = .ok (.iload_n 3, 1) := by decide +kernel
theorem dX8_pairAt_15 : decode cX8_pairAt 15 = .ok (.iaload, 1) := by decide +kernel
theorem dX8_pairAt_16 : decode cX8_pairAt 16 = .ok (.aload_n 0, 1) := by decide +kernel
theorem dX8_pairAt_17 : decode cX8_pairAt 17 = .ok (.getfield 94, 3) := by decide +kernel
theorem dX8_pairAt_20 : decode cX8_pairAt 20 = .ok (.if_icmp .ge 56, 3) := by decide +kernel
theorem dX8_pairAt_23 : decode cX8_pairAt 23 = .ok (.aload_n 0, 1) := by decide +kernel
theorem dX8_pairAt_24 : decode cX8_pairAt 24 = .ok (.getfield 22, 3) := by decide +kernel
theorem dX8_pairAt_27 : decode cX8_pairAt 27 = .ok (.iload_n 3, 1) := by decide +kernel
theorem dX8_pairAt_28 : decode cX8_pairAt 28 = .ok (.iaload, 1) := by decide +kernel
theorem dX8_pairAt_29 : decode cX8_pairAt 29 = .ok (.aload_n 0, 1) := by decide +kernel
theorem dX8_pairAt_30 : decode cX8_pairAt 30 = .ok (.getfield 94, 3) := by decide +kernel
theorem dX8_pairAt_33 : decode cX8_pairAt 33 = .ok (.if_icmp .ge 43, 3) := by decide +kernel
theorem dX8_pairAt_36 : decode cX8_pairAt 36 = .ok (.aload_n 0, 1) := by decide +kernel
theorem dX8_pairAt_37 : decode cX8_pairAt 37 = .ok (.getfield 16, 3) := by decide +kernel
theorem dX8_pairAt_40 : decode cX8_pairAt 40 = .ok (.bipush 7, 2) := by decide +kernel
theorem dX8_pairAt_42 : decode cX8_pairAt 42 = .ok (.aload_n 0, 1) := by decide +kernel
theorem dX8_pairAt_43 : decode cX8_pairAt 43 = .ok (.getfield 19, 3) := by decide +kernel
theorem dX8_pairAt_46 : decode cX8_pairAt 46 = .ok (.iload_n 3, 1) := by decide +kernel
theorem dX8_pairAt_47 : decode cX8_pairAt 47 = .ok (.iaload, 1) := by decide +kernel
theorem dX8_pairAt_48 : decode cX8_pairAt 48 = .ok (.iadd, 1) := by decide +kernel
theorem dX8_pairAt_49 : decode cX8_pairAt 49 = .ok (.iaload, 1) := by decide +kernel
theorem dX8_pairAt_50 : decode cX8_pairAt 50 = .ok (.iload_n 1, 1) := by decide +kernel
theorem dX8_pairAt_51 : decode cX8_pairAt 51 = .ok (.if_icmp .ne 25, 3) := by decide +kernel
theorem dX8_pairAt_54 : decode cX8_pairAt 54 = .ok (.aload_n 0, 1) := by decide +kernel
theorem dX8_pairAt_55 : decode cX8_pairAt 55 = .ok (.getfield 16, 3) := by decide +kernel
theorem dX8_pairAt_58 : decode cX8_pairAt 58 = .ok (.bipush 7, 2) := by decide +kernel
theorem dX8_pairAt_60 : decode cX8_pairAt 60 = .ok (.aload_n 0, 1) := by decide +kernel
theorem dX8_pairAt_61 : decode cX8_pairAt 61 = .ok (.getfield 22, 3) := by decide +kernel
theorem dX8_pairAt_64 : decode cX8_pairAt 64 = .ok (.iload_n 3, 1) := by decide +kernel
theorem dX8_pairAt_65 : decode cX8_pairAt 65 = .ok (.iaload, 1) := by decide +kernel
theorem dX8_pairAt_66 : decode cX8_pairAt 66 = .ok (.iadd, 1) := by decide +kernel
theorem dX8_pairAt_67 : decode cX8_pairAt 67 = .ok (.iaload, 1) := by decide +kernel
theorem dX8_pairAt_68 : decode cX8_pairAt 68 = .ok (.iload_n 1, 1) := by decide +kernel
theorem dX8_pairAt_69 : decode cX8_pairAt 69 = .ok (.if_icmp .ne 7, 3) := by decide +kernel
theorem dX8_pairAt_72 : decode cX8_pairAt 72 = .ok (.iconst 1, 1) := by decide +kernel
theorem dX8_pairAt_73 : decode cX8_pairAt 73 = .ok (.goto 4, 3) := by decide +kernel
theorem dX8_pairAt_76 : decode cX8_pairAt 76 = .ok (.iconst 0, 1) := by decide +kernel
theorem dX8_pairAt_77 : decode cX8_pairAt 77 = .ok (.istore 4, 2) := by decide +kernel
theorem dX8_pairAt_79 : decode cX8_pairAt 79 = .ok (.iload 4, 2) := by decide +kernel
theorem dX8_pairAt_81 : decode cX8_pairAt 81 = .ok (.ifCond .eq 26, 3) := by decide +kernel
theorem dX8_pairAt_84 : decode cX8_pairAt 84 = .ok (.aload_n 0, 1) := by decide +kernel
theorem dX8_pairAt_85 : decode cX8_pairAt 85 = .ok (.aload_n 0, 1) := by decide +kernel
theorem dX8_pairAt_86 : decode cX8_pairAt 86 = .ok (.getfield 19, 3) := by decide +kernel
theorem dX8_pairAt_89 : decode cX8_pairAt 89 = .ok (.iload_n 3, 1) := by decide +kernel
theorem dX8_pairAt_90 : decode cX8_pairAt 90 = .ok (.iaload, 1) := by decide +kernel
theorem dX8_pairAt_91 : decode cX8_pairAt 91 = .ok (.aload_n 0, 1) := by decide +kernel
theorem dX8_pairAt_92 : decode cX8_pairAt 92 = .ok (.getfield 22, 3) := by decide +kernel
theorem dX8_pairAt_95 : decode cX8_pairAt 95 = .ok (.iload_n 3, 1) := by decide +kernel
theorem dX8_pairAt_96 : decode cX8_pairAt 96 = .ok (.iaload, 1) := by decide +kernel
theorem dX8_pairAt_97 : decode cX8_pairAt 97 = .ok (.invokevirtual 166, 3) := by decide +kernel
theorem dX8_pairAt_100 : decode cX8_pairAt 100 = .ok (.ifCond .eq 7, 3) := by decide +kernel
theorem dX8_pairAt_103 : decode cX8_pairAt 103 = .ok (.iconst 1, 1) := by decide +kernel
theorem dX8_pairAt_104 : decode cX8_pairAt 104 = .ok (.goto 4, 3) := by decide +kernel
theorem dX8_pairAt_107 : decode cX8_pairAt 107 = .ok (.iconst 0, 1) := by decide +kernel
theorem dX8_pairAt_108 : decode cX8_pairAt 108 = .ok (.istore 5, 2) := by decide +kernel
theorem dX8_pairAt_110 : decode cX8_pairAt 110 = .ok (.iload 5, 2) := by decide +kernel
theorem dX8_pairAt_112 : decode cX8_pairAt 112 = .ok (.ifCond .eq 46, 3) := by decide +kernel
theorem dX8_pairAt_115 : decode cX8_pairAt 115 = .ok (.iload_n 2, 1) := by decide +kernel
theorem dX8_pairAt_116 : decode cX8_pairAt 116 = .ok (.ifCond .lt 38, 3) := by decide +kernel
theorem dX8_pairAt_119 : decode cX8_pairAt 119 = .ok (.aload_n 0, 1) := by decide +kernel
theorem dX8_pairAt_120 : decode cX8_pairAt 120 = .ok (.aload_n 0, 1) := by decide +kernel
theorem dX8_pairAt_121 : decode cX8_pairAt 121 = .ok (.getfield 19, 3) := by decide +kernel
theorem dX8_pairAt_124 : decode cX8_pairAt 124 = .ok (.iload_n 3, 1) := by decide +kernel
theorem dX8_pairAt_125 : decode cX8_pairAt 125 = .ok (.iaload, 1) := by decide +kernel
theorem dX8_pairAt_126 : decode cX8_pairAt 126 = .ok (.aload_n 0, 1) := by decide +kernel
theorem dX8_pairAt_127 : decode cX8_pairAt 127 = .ok (.getfield 22, 3) := by decide +kernel
theorem dX8_pairAt_130 : decode cX8_pairAt 130 = .ok (.iload_n 3, 1) := by decide +kernel
theorem dX8_pairAt_131 : decode cX8_pairAt 131 = .ok (.iaload, 1) := by decide +kernel
theorem dX8_pairAt_132 : decode cX8_pairAt 132 = .ok (.invokevirtual 197, 3) := by decide +kernel
theorem dX8_pairAt_135 : decode cX8_pairAt 135 = .ok (.aload_n 0, 1) := by decide +kernel
theorem dX8_pairAt_136 : decode cX8_pairAt 136 = .ok (.aload_n 0, 1) := by decide +kernel
theorem dX8_pairAt_137 : decode cX8_pairAt 137 = .ok (.getfield 19, 3) := by decide +kernel
theorem dX8_pairAt_140 : decode cX8_pairAt 140 = .ok (.iload_n 2, 1) := by decide +kernel
theorem dX8_pairAt_141 : decode cX8_pairAt 141 = .ok (.iaload, 1) := by decide +kernel
theorem dX8_pairAt_142 : decode cX8_pairAt 142 = .ok (.aload_n 0, 1) := by decide +kernel
theorem dX8_pairAt_143 : decode cX8_pairAt 143 = .ok (.getfield 22, 3) := by decide +kernel
theorem dX8_pairAt_146 : decode cX8_pairAt 146 = .ok (.iload_n 2, 1) := by decide +kernel
theorem dX8_pairAt_147 : decode cX8_pairAt 147 = .ok (.iaload, 1) := by decide +kernel
theorem dX8_pairAt_148 : decode cX8_pairAt 148 = .ok (.invokevirtual 197, 3) := by decide +kernel
theorem dX8_pairAt_151 : decode cX8_pairAt 151 = .ok (.if_icmp .le 7, 3) := by decide +kernel
theorem dX8_pairAt_154 : decode cX8_pairAt 154 = .ok (.iconst 1, 1) := by decide +kernel
theorem dX8_pairAt_155 : decode cX8_pairAt 155 = .ok (.goto 4, 3) := by decide +kernel
theorem dX8_pairAt_158 : decode cX8_pairAt 158 = .ok (.iconst 0, 1) := by decide +kernel
theorem dX8_pairAt_159 : decode cX8_pairAt 159 = .ok (.istore 6, 2) := by decide +kernel
theorem dX8_pairAt_161 : decode cX8_pairAt 161 = .ok (.iload 6, 2) := by decide +kernel
theorem dX8_pairAt_163 : decode cX8_pairAt 163 = .ok (.ifCond .eq 7, 3) := by decide +kernel
theorem dX8_pairAt_166 : decode cX8_pairAt 166 = .ok (.iload_n 3, 1) := by decide +kernel
theorem dX8_pairAt_167 : decode cX8_pairAt 167 = .ok (.goto 4, 3) := by decide +kernel
theorem dX8_pairAt_170 : decode cX8_pairAt 170 = .ok (.iload_n 2, 1) := by decide +kernel
theorem dX8_pairAt_171 : decode cX8_pairAt 171 = .ok (.istore_n 2, 1) := by decide +kernel
theorem dX8_pairAt_172 : decode cX8_pairAt 172 = .ok (.iinc 3 1, 3) := by decide +kernel
theorem dX8_pairAt_175 : decode cX8_pairAt 175 = .ok (.goto (-171), 3) := by decide +kernel
theorem dX8_pairAt_178 : decode cX8_pairAt 178 = .ok (.iload_n 2, 1) := by decide +kernel
theorem dX8_pairAt_179 : decode cX8_pairAt 179 = .ok (.ireturn, 1) := by decide +kernel
theorem dX8_pass_0 : decode cX8_pass 0 = .ok (.iconst 0, 1) := by decide +kernel
theorem dX8_pass_1 : decode cX8_pass 1 = .ok (.istore_n 1, 1) := by decide +kernel
theorem dX8_pass_2 : decode cX8_pass 2 = .ok (.iload_n 1, 1) := by decide +kernel
theorem dX8_pass_3 : decode cX8_pass 3 = .ok (.aload_n 0, 1) := by decide +kernel
theorem dX8_pass_4 : decode cX8_pass 4 = .ok (.getfield 87, 3) := by decide +kernel
theorem dX8_pass_7 : decode cX8_pass 7 = .ok (.if_icmp .ge 105, 3) := by decide +kernel
theorem dX8_pass_10 : decode cX8_pass 10 = .ok (.aload_n 0, 1) := by decide +kernel
theorem dX8_pass_11 : decode cX8_pass 11 = .ok (.getfield 16, 3) := by decide +kernel
theorem dX8_pass_14 : decode cX8_pass 14 = .ok (.bipush 26, 2) := by decide +kernel
theorem dX8_pass_16 : decode cX8_pass 16 = .ok (.iload_n 1, 1) := by decide +kernel
theorem dX8_pass_17 : decode cX8_pass 17 = .ok (.iadd, 1) := by decide +kernel
theorem dX8_pass_18 : decode cX8_pass 18 = .ok (.iaload, 1) := by decide +kernel
theorem dX8_pass_19 : decode cX8_pass 19 = .ok (.ifCond .ne 87, 3) := by decide +kernel
theorem dX8_pass_22 : decode cX8_pass 22 = .ok (.aload_n 0, 1) := by decide +kernel
theorem dX8_pass_23 : decode cX8_pass 23 = .ok (.iload_n 1, 1) := by decide +kernel
theorem dX8_pass_24 : decode cX8_pass 24 = .ok (.invokevirtual 200, 3) := by decide +kernel
theorem dX8_pass_27 : decode cX8_pass 27 = .ok (.istore_n 2, 1) := by decide +kernel
theorem dX8_pass_28 : decode cX8_pass 28 = .ok (.iload_n 2, 1) := by decide +kernel
theorem dX8_pass_29 : decode cX8_pass 29 = .ok (.ifCond .lt 32, 3) := by decide +kernel
theorem dX8_pass_32 : decode cX8_pass 32 = .ok (.aload_n 0, 1) := by decide +kernel
theorem dX8_pass_33 : decode cX8_pass 33 = .ok (.aload_n 0, 1) := by decide +kernel
theorem dX8_pass_34 : decode cX8_pass 34 = .ok (.getfield 19, 3) := by decide +kernel
theorem dX8_pass_37 : decode cX8_pass 37 = .ok (.iload_n 2, 1) := by decide +kernel
theorem dX8_pass_38 : decode cX8_pass 38 = .ok (.iaload, 1) := by decide +kernel
theorem dX8_pass_39 : decode cX8_pass 39 = .ok (.aload_n 0, 1) := by decide +kernel
theorem dX8_pass_40 : decode cX8_pass 40 = .ok (.getfield 22, 3) := by decide +kernel
theorem dX8_pass_43 : decode cX8_pass 43 = .ok (.iload_n 2, 1) := by decide +kernel
theorem dX8_pass_44 : decode cX8_pass 44 = .ok (.iaload, 1) := by decide +kernel
theorem dX8_pass_45 : decode cX8_pass 45 = .ok (.invokevirtual 203, 3) := by decide +kernel
theorem dX8_pass_48 : decode cX8_pass 48 = .ok (.aload_n 0, 1) := by decide +kernel
theorem dX8_pass_49 : decode cX8_pass 49 = .ok (.getfield 16, 3) := by decide +kernel
theorem dX8_pass_52 : decode cX8_pass 52 = .ok (.bipush 21, 2) := by decide +kernel
theorem dX8_pass_54 : decode cX8_pass 54 = .ok (.iload_n 1, 1) := by decide +kernel
theorem dX8_pass_55 : decode cX8_pass 55 = .ok (.iadd, 1) := by decide +kernel
theorem dX8_pass_56 : decode cX8_pass 56 = .ok (.iconst 0, 1) := by decide +kernel
theorem dX8_pass_57 : decode cX8_pass 57 = .ok (.iastore, 1) := by decide +kernel
theorem dX8_pass_58 : decode cX8_pass 58 = .ok (.goto 48, 3) := by decide +kernel
theorem dX8_pass_61 : decode cX8_pass 61 = .ok (.aload_n 0, 1) := by decide +kernel
theorem dX8_pass_62 : decode cX8_pass 62 = .ok (.getfield 16, 3) := by decide +kernel
theorem dX8_pass_65 : decode cX8_pass 65 = .ok (.bipush 21, 2) := by decide +kernel
theorem dX8_pass_67 : decode cX8_pass 67 = .ok (.iload_n 1, 1) := by decide +kernel
theorem dX8_pass_68 : decode cX8_pass 68 = .ok (.iadd, 1) := by decide +kernel
theorem dX8_pass_69 : decode cX8_pass 69 = .ok (.dup2, 1) := by decide +kernel
theorem dX8_pass_70 : decode cX8_pass 70 = .ok (.iaload, 1) := by decide +kernel
theorem dX8_pass_71 : decode cX8_pass 71 = .ok (.iconst 1, 1) := by decide +kernel
theorem dX8_pass_72 : decode cX8_pass 72 = .ok (.iadd, 1) := by decide +kernel
theorem dX8_pass_73 : decode cX8_pass 73 = .ok (.iastore, 1) := by decide +kernel
theorem dX8_pass_74 : decode cX8_pass 74 = .ok (.aload_n 0, 1) := by decide +kernel
theorem dX8_pass_75 : decode cX8_pass 75 = .ok (.getfield 16, 3) := by decide +kernel
theorem dX8_pass_78 : decode cX8_pass 78 = .ok (.bipush 26, 2) := by decide +kernel
theorem dX8_pass_80 : decode cX8_pass 80 = .ok (.iload_n 1, 1) := by decide +kernel
theorem dX8_pass_81 : decode cX8_pass 81 = .ok (.iadd, 1) := by decide +kernel
theorem dX8_pass_82 : decode cX8_pass 82 = .ok (.aload_n 0, 1) := by decide +kernel
theorem dX8_pass_83 : decode cX8_pass 83 = .ok (.getfield 16, 3) := by decide +kernel
theorem dX8_pass_86 : decode cX8_pass 86 = .ok (.bipush 21, 2) := by decide +kernel
theorem dX8_pass_88 : decode cX8_pass 88 = .ok (.iload_n 1, 1) := by decide +kernel
theorem dX8_pass_89 : decode cX8_pass 89 = .ok (.iadd, 1) := by decide +kernel
theorem dX8_pass_90 : decode cX8_pass 90 = .ok (.iaload, 1) := by decide +kernel
theorem dX8_pass_91 : decode cX8_pass 91 = .ok (.aload_n 0, 1) := by decide +kernel
theorem dX8_pass_92 : decode cX8_pass 92 = .ok (.getfield 7, 3) := by decide +kernel
theorem dX8_pass_95 : decode cX8_pass 95 = .ok (.iload_n 1, 1) := by decide +kernel
theorem dX8_pass_96 : decode cX8_pass 96 = .ok (.iaload, 1) := by decide +kernel
theorem dX8_pass_97 : decode cX8_pass 97 = .ok (.if_icmp .lt 7, 3) := by decide +kernel
theorem dX8_pass_100 : decode cX8_pass 100 = .ok (.iconst 1, 1) := by decide +kernel
theorem dX8_pass_101 : decode cX8_pass 101 = .ok (.goto 4, 3) := by decide +kernel
theorem dX8_pass_104 : decode cX8_pass 104 = .ok (.iconst 0, 1) := by decide +kernel
theorem dX8_pass_105 : decode cX8_pass 105 = .ok (.iastore, 1) := by decide +kernel
theorem dX8_pass_106 : decode cX8_pass 106 = .ok (.iinc 1 1, 3) := by decide +kernel
theorem dX8_pass_109 : decode cX8_pass 109 = .ok (.goto (-107), 3) := by decide +kernel
theorem dX8_pass_112 : decode cX8_pass 112 = .ok (.aload_n 0, 1) := by decide +kernel
theorem dX8_pass_113 : decode cX8_pass 113 = .ok (.getfield 16, 3) := by decide +kernel
theorem dX8_pass_116 : decode cX8_pass 116 = .ok (.bipush 31, 2) := by decide +kernel
theorem dX8_pass_118 : decode cX8_pass 118 = .ok (.dup2, 1) := by decide +kernel
theorem dX8_pass_119 : decode cX8_pass 119 = .ok (.iaload, 1) := by decide +kernel
theorem dX8_pass_120 : decode cX8_pass 120 = .ok (.iconst 1, 1) := by decide +kernel
theorem dX8_pass_121 : decode cX8_pass 121 = .ok (.iadd, 1) := by decide +kernel
theorem dX8_pass_122 : decode cX8_pass 122 = .ok (.iastore, 1) := by decide +kernel
theorem dX8_pass_123 : decode cX8_pass 123 = .ok (.return_, 1) := by decide +kernel
theorem dX8_hoursRefused_0 : decode cX8_hoursRefused 0 = .ok (.iload_n 1, 1) := by decide +kernel
theorem dX8_hoursRefused_1 : decode cX8_hoursRefused 1 = .ok (.i2l, 1) := by decide +kernel
theorem dX8_hoursRefused_2 : decode cX8_hoursRefused 2 = .ok (.lconst 1, 1) := by decide +kernel
theorem dX8_hoursRefused_3 : decode cX8_hoursRefused 3 = .ok (.ldc2_w 207, 3) := by decide +kernel
theorem dX8_hoursRefused_6 : decode cX8_hoursRefused 6 = .ok (.invokestatic 90, 3) := by decide +kernel
theorem dX8_hoursRefused_9 : decode cX8_hoursRefused 9 = .ok (.ifCond .ne 6, 3) := by decide +kernel
theorem dX8_hoursRefused_12 : decode cX8_hoursRefused 12 = .ok (.ldc 99, 2) := by decide +kernel
theorem dX8_hoursRefused_14 : decode cX8_hoursRefused 14 = .ok (.ireturn, 1) := by decide +kernel
theorem dX8_hoursRefused_15 : decode cX8_hoursRefused 15 = .ok (.aload_n 0, 1) := by decide +kernel
theorem dX8_hoursRefused_16 : decode cX8_hoursRefused 16 = .ok (.getfield 87, 3) := by decide +kernel
theorem dX8_hoursRefused_19 : decode cX8_hoursRefused 19 = .ok (.ifCond .ne 8, 3) := by decide +kernel
theorem dX8_hoursRefused_22 : decode cX8_hoursRefused 22 = .ok (.ldc 209, 2) := by decide +kernel
theorem dX8_hoursRefused_24 : decode cX8_hoursRefused 24 = .ok (.goto 22, 3) := by decide +kernel
theorem dX8_hoursRefused_27 : decode cX8_hoursRefused 27 = .ok (.aload_n 0, 1) := by decide +kernel
theorem dX8_hoursRefused_28 : decode cX8_hoursRefused 28 = .ok (.getfield 16, 3) := by decide +kernel
theorem dX8_hoursRefused_31 : decode cX8_hoursRefused 31 = .ok (.bipush 31, 2) := by decide +kernel
theorem dX8_hoursRefused_33 : decode cX8_hoursRefused 33 = .ok (.iaload, 1) := by decide +kernel
theorem dX8_hoursRefused_34 : decode cX8_hoursRefused 34 = .ok (.sipush 9000, 3) := by decide +kernel
theorem dX8_hoursRefused_37 : decode cX8_hoursRefused 37 = .ok (.if_icmp .le 8, 3) := by decide +kernel
theorem dX8_hoursRefused_40 : decode cX8_hoursRefused 40 = .ok (.ldc 103, 2) := by decide +kernel
theorem dX8_hoursRefused_42 : decode cX8_hoursRefused 42 = .ok (.goto 4, 3) := by decide +kernel
theorem dX8_hoursRefused_45 : decode cX8_hoursRefused 45 = .ok (.iconst 0, 1) := by decide +kernel
theorem dX8_hoursRefused_46 : decode cX8_hoursRefused 46 = .ok (.ireturn, 1) := by decide +kernel
theorem dX8_hour_0 : decode cX8_hour 0 = .ok (.aload_n 0, 1) := by decide +kernel
theorem dX8_hour_1 : decode cX8_hour 1 = .ok (.iload_n 1, 1) := by decide +kernel
theorem dX8_hour_2 : decode cX8_hour 2 = .ok (.invokevirtual 210, 3) := by decide +kernel
theorem dX8_hour_5 : decode cX8_hour 5 = .ok (.istore_n 2, 1) := by decide +kernel
theorem dX8_hour_6 : decode cX8_hour 6 = .ok (.iload_n 2, 1) := by decide +kernel
theorem dX8_hour_7 : decode cX8_hour 7 = .ok (.ifCond .eq 5, 3) := by decide +kernel
theorem dX8_hour_10 : decode cX8_hour 10 = .ok (.iload_n 2, 1) := by decide +kernel
theorem dX8_hour_11 : decode cX8_hour 11 = .ok (.ireturn, 1) := by decide +kernel
theorem dX8_hour_12 : decode cX8_hour 12 = .ok (.aload_n 0, 1) := by decide +kernel
theorem dX8_hour_13 : decode cX8_hour 13 = .ok (.invokevirtual 213, 3) := by decide +kernel
theorem dX8_hour_16 : decode cX8_hour 16 = .ok (.iconst 0, 1) := by decide +kernel
theorem dX8_hour_17 : decode cX8_hour 17 = .ok (.istore_n 3, 1) := by decide +kernel
theorem dX8_hour_18 : decode cX8_hour 18 = .ok (.iload_n 3, 1) := by decide +kernel
theorem dX8_hour_19 : decode cX8_hour 19 = .ok (.iload_n 1, 1) := by decide +kernel
theorem dX8_hour_20 : decode cX8_hour 20 = .ok (.if_icmp .ge 13, 3) := by decide +kernel
theorem dX8_hour_23 : decode cX8_hour 23 = .ok (.aload_n 0, 1) := by decide +kernel
theorem dX8_hour_24 : decode cX8_hour 24 = .ok (.invokevirtual 216, 3) := by decide +kernel
theorem dX8_hour_27 : decode cX8_hour 27 = .ok (.iinc 3 1, 3) := by decide +kernel
theorem dX8_hour_30 : decode cX8_hour 30 = .ok (.goto (-12), 3) := by decide +kernel
theorem dX8_hour_33 : decode cX8_hour 33 = .ok (.aload_n 0, 1) := by decide +kernel
theorem dX8_hour_34 : decode cX8_hour 34 = .ok (.getfield 16, 3) := by decide +kernel
theorem dX8_hour_37 : decode cX8_hour 37 = .ok (.bipush 31, 2) := by decide +kernel
theorem dX8_hour_39 : decode cX8_hour 39 = .ok (.iaload, 1) := by decide +kernel
theorem dX8_hour_40 : decode cX8_hour 40 = .ok (.ireturn, 1) := by decide +kernel
theorem dX8_canCome_0 : decode cX8_canCome 0 = .ok (.aload_n 0, 1) := by decide +kernel
theorem dX8_canCome_1 : decode cX8_canCome 1 = .ok (.getfield 16, 3) := by decide +kernel
theorem dX8_canCome_4 : decode cX8_canCome 4 = .ok (.bipush 26, 2) := by decide +kernel
theorem dX8_canCome_6 : decode cX8_canCome 6 = .ok (.iload_n 2, 1) := by decide +kernel
theorem dX8_canCome_7 : decode cX8_canCome 7 = .ok (.iadd, 1) := by decide +kernel
theorem dX8_canCome_8 : decode cX8_canCome 8 = .ok (.iaload, 1) := by decide +kernel
theorem dX8_canCome_9 : decode cX8_canCome 9 = .ok (.ifCond .ne 20, 3) := by decide +kernel
theorem dX8_canCome_12 : decode cX8_canCome 12 = .ok (.aload_n 0, 1) := by decide +kernel
theorem dX8_canCome_13 : decode cX8_canCome 13 = .ok (.getfield 16, 3) := by decide +kernel
theorem dX8_canCome_16 : decode cX8_canCome 16 = .ok (.bipush 7, 2) := by decide +kernel
theorem dX8_canCome_18 : decode cX8_canCome 18 = .ok (.iload_n 1, 1) := by decide +kernel
theorem dX8_canCome_19 : decode cX8_canCome 19 = .ok (.iadd, 1) := by decide +kernel
theorem dX8_canCome_20 : decode cX8_canCome 20 = .ok (.iaload, 1) := by decide +kernel
theorem dX8_canCome_21 : decode cX8_canCome 21 = .ok (.iload_n 2, 1) := by decide +kernel
theorem dX8_canCome_22 : decode cX8_canCome 22 = .ok (.if_icmp .eq 7, 3) := by decide +kernel
theorem dX8_canCome_25 : decode cX8_canCome 25 = .ok (.iconst 1, 1) := by decide +kernel
theorem dX8_canCome_26 : decode cX8_canCome 26 = .ok (.goto 4, 3) := by decide +kernel
theorem dX8_canCome_29 : decode cX8_canCome 29 = .ok (.iconst 0, 1) := by decide +kernel
theorem dX8_canCome_30 : decode cX8_canCome 30 = .ok (.ireturn, 1) := by decide +kernel
theorem dX8_come_0 : decode cX8_come 0 = .ok (.aload_n 0, 1) := by decide +kernel
theorem dX8_come_1 : decode cX8_come 1 = .ok (.iload_n 1, 1) := by decide +kernel
theorem dX8_come_2 : decode cX8_come 2 = .ok (.invokevirtual 187, 3) := by decide +kernel
theorem dX8_come_5 : decode cX8_come 5 = .ok (.ifCond .eq 11, 3) := by decide +kernel
theorem dX8_come_8 : decode cX8_come 8 = .ok (.aload_n 0, 1) := by decide +kernel
theorem dX8_come_9 : decode cX8_come 9 = .ok (.iload_n 2, 1) := by decide +kernel
theorem dX8_come_10 : decode cX8_come 10 = .ok (.invokevirtual 179, 3) := by decide +kernel
theorem dX8_come_13 : decode cX8_come 13 = .ok (.ifCond .ne 6, 3) := by decide +kernel
theorem dX8_come_16 : decode cX8_come 16 = .ok (.ldc 183, 2) := by decide +kernel
theorem dX8_come_18 : decode cX8_come 18 = .ok (.ireturn, 1) := by decide +kernel
theorem dX8_come_19 : decode cX8_come 19 = .ok (.aload_n 0, 1) := by decide +kernel
theorem dX8_come_20 : decode cX8_come 20 = .ok (.iload_n 1, 1) := by decide +kernel
theorem dX8_come_21 : decode cX8_come 21 = .ok (.iload_n 2, 1) := by decide +kernel
theorem dX8_come_22 : decode cX8_come 22 = .ok (.invokevirtual 219, 3) := by decide +kernel
theorem dX8_come_25 : decode cX8_come 25 = .ok (.ifCond .ne 6, 3) := by decide +kernel
theorem dX8_come_28 : decode cX8_come 28 = .ok (.ldc 209, 2) := by decide +kernel
theorem dX8_come_30 : decode cX8_come 30 = .ok (.ireturn, 1) := by decide +kernel
theorem dX8_come_31 : decode cX8_come 31 = .ok (.aload_n 0, 1) := by decide +kernel
theorem dX8_come_32 : decode cX8_come 32 = .ok (.invokevirtual 213, 3) := by decide +kernel
theorem dX8_come_35 : decode cX8_come 35 = .ok (.aload_n 0, 1) := by decide +kernel
theorem dX8_come_36 : decode cX8_come 36 = .ok (.getfield 16, 3) := by decide +kernel
theorem dX8_come_39 : decode cX8_come 39 = .ok (.bipush 7, 2) := by decide +kernel
theorem dX8_come_41 : decode cX8_come 41 = .ok (.iload_n 1, 1) := by decide +kernel
theorem dX8_come_42 : decode cX8_come 42 = .ok (.iadd, 1) := by decide +kernel
theorem dX8_come_43 : decode cX8_come 43 = .ok (.iload_n 2, 1) := by decide +kernel
theorem dX8_come_44 : decode cX8_come 44 = .ok (.iastore, 1) := by decide +kernel
theorem dX8_come_45 : decode cX8_come 45 = .ok (.aload_n 0, 1) := by decide +kernel
theorem dX8_come_46 : decode cX8_come 46 = .ok (.iload_n 2, 1) := by decide +kernel
theorem dX8_come_47 : decode cX8_come 47 = .ok (.invokevirtual 184, 3) := by decide +kernel
theorem dX8_come_50 : decode cX8_come 50 = .ok (.ireturn, 1) := by decide +kernel
theorem dX8_goOff_0 : decode cX8_goOff 0 = .ok (.aload_n 0, 1) := by decide +kernel
theorem dX8_goOff_1 : decode cX8_goOff 1 = .ok (.iload_n 1, 1) := by decide +kernel
theorem dX8_goOff_2 : decode cX8_goOff 2 = .ok (.invokevirtual 187, 3) := by decide +kernel
theorem dX8_goOff_5 : decode cX8_goOff 5 = .ok (.ifCond .ne 6, 3) := by decide +kernel
theorem dX8_goOff_8 : decode cX8_goOff 8 = .ok (.ldc 183, 2) := by decide +kernel
theorem dX8_goOff_10 : decode cX8_goOff 10 = .ok (.ireturn, 1) := by decide +kernel
theorem dX8_goOff_11 : decode cX8_goOff 11 = .ok (.aload_n 0, 1) := by decide +kernel
theorem dX8_goOff_12 : decode cX8_goOff 12 = .ok (.getfield 16, 3) := by decide +kernel
theorem dX8_goOff_15 : decode cX8_goOff 15 = .ok (.bipush 7, 2) := by decide +kernel
theorem dX8_goOff_17 : decode cX8_goOff 17 = .ok (.iload_n 1, 1) := by decide +kernel
theorem dX8_goOff_18 : decode cX8_goOff 18 = .ok (.iadd, 1) := by decide +kernel
theorem dX8_goOff_19 : decode cX8_goOff 19 = .ok (.iaload, 1) := by decide +kernel
theorem dX8_goOff_20 : decode cX8_goOff 20 = .ok (.ifCond .ge 6, 3) := by decide +kernel
theorem dX8_goOff_23 : decode cX8_goOff 23 = .ok (.ldc 209, 2) := by decide +kernel
theorem dX8_goOff_25 : decode cX8_goOff 25 = .ok (.ireturn, 1) := by decide +kernel
theorem dX8_goOff_26 : decode cX8_goOff 26 = .ok (.aload_n 0, 1) := by decide +kernel
theorem dX8_goOff_27 : decode cX8_goOff 27 = .ok (.invokevirtual 213, 3) := by decide +kernel
theorem dX8_goOff_30 : decode cX8_goOff 30 = .ok (.aload_n 0, 1) := by decide +kernel
theorem dX8_goOff_31 : decode cX8_goOff 31 = .ok (.getfield 16, 3) := by decide +kernel
theorem dX8_goOff_34 : decode cX8_goOff 34 = .ok (.bipush 7, 2) := by decide +kernel
theorem dX8_goOff_36 : decode cX8_goOff 36 = .ok (.iload_n 1, 1) := by decide +kernel
theorem dX8_goOff_37 : decode cX8_goOff 37 = .ok (.iadd, 1) := by decide +kernel
theorem dX8_goOff_38 : decode cX8_goOff 38 = .ok (.iaload, 1) := by decide +kernel
theorem dX8_goOff_39 : decode cX8_goOff 39 = .ok (.istore_n 2, 1) := by decide +kernel
theorem dX8_goOff_40 : decode cX8_goOff 40 = .ok (.aload_n 0, 1) := by decide +kernel
theorem dX8_goOff_41 : decode cX8_goOff 41 = .ok (.getfield 16, 3) := by decide +kernel
theorem dX8_goOff_44 : decode cX8_goOff 44 = .ok (.bipush 7, 2) := by decide +kernel
theorem dX8_goOff_46 : decode cX8_goOff 46 = .ok (.iload_n 1, 1) := by decide +kernel
theorem dX8_goOff_47 : decode cX8_goOff 47 = .ok (.iadd, 1) := by decide +kernel
theorem dX8_goOff_48 : decode cX8_goOff 48 = .ok (.iconst (-1), 1) := by decide +kernel
theorem dX8_goOff_49 : decode cX8_goOff 49 = .ok (.iastore, 1) := by decide +kernel
theorem dX8_goOff_50 : decode cX8_goOff 50 = .ok (.iload_n 2, 1) := by decide +kernel
theorem dX8_goOff_51 : decode cX8_goOff 51 = .ok (.ireturn, 1) := by decide +kernel
theorem dX8_hole_0 : decode cX8_hole 0 = .ok (.aload_n 0, 1) := by decide +kernel
theorem dX8_hole_1 : decode cX8_hole 1 = .ok (.iload_n 1, 1) := by decide +kernel
theorem dX8_hole_2 : decode cX8_hole 2 = .ok (.invokevirtual 187, 3) := by decide +kernel
theorem dX8_hole_5 : decode cX8_hole 5 = .ok (.ifCond .ne 6, 3) := by decide +kernel
theorem dX8_hole_8 : decode cX8_hole 8 = .ok (.ldc 183, 2) := by decide +kernel
theorem dX8_hole_10 : decode cX8_hole 10 = .ok (.ireturn, 1) := by decide +kernel
theorem dX8_hole_11 : decode cX8_hole 11 = .ok (.aload_n 0, 1) := by decide +kernel
theorem dX8_hole_12 : decode cX8_hole 12 = .ok (.getfield 16, 3) := by decide +kernel
theorem dX8_hole_15 : decode cX8_hole 15 = .ok (.bipush 7, 2) := by decide +kernel
theorem dX8_hole_17 : decode cX8_hole 17 = .ok (.iload_n 1, 1) := by decide +kernel
theorem dX8_hole_18 : decode cX8_hole 18 = .ok (.iadd, 1) := by decide +kernel
theorem dX8_hole_19 : decode cX8_hole 19 = .ok (.iaload, 1) := by decide +kernel
theorem dX8_hole_20 : decode cX8_hole 20 = .ok (.ifCond .lt 6, 3) := by decide +kernel
theorem dX8_hole_23 : decode cX8_hole 23 = .ok (.ldc 209, 2) := by decide +kernel
theorem dX8_hole_25 : decode cX8_hole 25 = .ok (.ireturn, 1) := by decide +kernel
theorem dX8_hole_26 : decode cX8_hole 26 = .ok (.aload_n 0, 1) := by decide +kernel
theorem dX8_hole_27 : decode cX8_hole 27 = .ok (.invokevirtual 213, 3) := by decide +kernel
theorem dX8_hole_30 : decode cX8_hole 30 = .ok (.aload_n 0, 1) := by decide +kernel
theorem dX8_hole_31 : decode cX8_hole 31 = .ok (.getfield 16, 3) := by decide +kernel
theorem dX8_hole_34 : decode cX8_hole 34 = .ok (.iload_n 1, 1) := by decide +kernel
theorem dX8_hole_35 : decode cX8_hole 35 = .ok (.iconst 1, 1) := by decide +kernel
theorem dX8_hole_36 : decode cX8_hole 36 = .ok (.aload_n 0, 1) := by decide +kernel
theorem dX8_hole_37 : decode cX8_hole 37 = .ok (.getfield 16, 3) := by decide +kernel
theorem dX8_hole_40 : decode cX8_hole 40 = .ok (.iload_n 1, 1) := by decide +kernel
theorem dX8_hole_41 : decode cX8_hole 41 = .ok (.iaload, 1) := by decide +kernel
theorem dX8_hole_42 : decode cX8_hole 42 = .ok (.isub, 1) := by decide +kernel
theorem dX8_hole_43 : decode cX8_hole 43 = .ok (.iastore, 1) := by decide +kernel
theorem dX8_hole_44 : decode cX8_hole 44 = .ok (.aload_n 0, 1) := by decide +kernel
theorem dX8_hole_45 : decode cX8_hole 45 = .ok (.getfield 16, 3) := by decide +kernel
theorem dX8_hole_48 : decode cX8_hole 48 = .ok (.bipush 33, 2) := by decide +kernel
theorem dX8_hole_50 : decode cX8_hole 50 = .ok (.dup2, 1) := by decide +kernel
theorem dX8_hole_51 : decode cX8_hole 51 = .ok (.iaload, 1) := by decide +kernel
theorem dX8_hole_52 : decode cX8_hole 52 = .ok (.iconst 1, 1) := by decide +kernel
theorem dX8_hole_53 : decode cX8_hole 53 = .ok (.iadd, 1) := by decide +kernel
theorem dX8_hole_54 : decode cX8_hole 54 = .ok (.iastore, 1) := by decide +kernel
theorem dX8_hole_55 : decode cX8_hole 55 = .ok (.aload_n 0, 1) := by decide +kernel
theorem dX8_hole_56 : decode cX8_hole 56 = .ok (.getfield 16, 3) := by decide +kernel
theorem dX8_hole_59 : decode cX8_hole 59 = .ok (.iload_n 1, 1) := by decide +kernel
theorem dX8_hole_60 : decode cX8_hole 60 = .ok (.iaload, 1) := by decide +kernel
theorem dX8_hole_61 : decode cX8_hole 61 = .ok (.ireturn, 1) := by decide +kernel
theorem dX8_oil_0 : decode cX8_oil 0 = .ok (.aload_n 0, 1) := by decide +kernel
theorem dX8_oil_1 : decode cX8_oil 1 = .ok (.iload_n 1, 1) := by decide +kernel
theorem dX8_oil_2 : decode cX8_oil 2 = .ok (.invokevirtual 179, 3) := by decide +kernel
theorem dX8_oil_5 : decode cX8_oil 5 = .ok (.ifCond .ne 6, 3) := by decide +kernel
theorem dX8_oil_8 : decode cX8_oil 8 = .ok (.ldc 183, 2) := by decide +kernel
theorem dX8_oil_10 : decode cX8_oil 10 = .ok (.ireturn, 1) := by decide +kernel
theorem dX8_oil_11 : decode cX8_oil 11 = .ok (.aload_n 0, 1) := by decide +kernel
theorem dX8_oil_12 : decode cX8_oil 12 = .ok (.invokevirtual 213, 3) := by decide +kernel
theorem dX8_oil_15 : decode cX8_oil 15 = .ok (.aload_n 0, 1) := by decide +kernel
theorem dX8_oil_16 : decode cX8_oil 16 = .ok (.getfield 16, 3) := by decide +kernel
theorem dX8_oil_19 : decode cX8_oil 19 = .ok (.bipush 26, 2) := by decide +kernel
theorem dX8_oil_21 : decode cX8_oil 21 = .ok (.iload_n 1, 1) := by decide +kernel
theorem dX8_oil_22 : decode cX8_oil 22 = .ok (.iadd, 1) := by decide +kernel
theorem dX8_oil_23 : decode cX8_oil 23 = .ok (.iaload, 1) := by decide +kernel
theorem dX8_oil_24 : decode cX8_oil 24 = .ok (.istore_n 2, 1) := by decide +kernel
theorem dX8_oil_25 : decode cX8_oil 25 = .ok (.aload_n 0, 1) := by decide +kernel
theorem dX8_oil_26 : decode cX8_oil 26 = .ok (.getfield 16, 3) := by decide +kernel
theorem dX8_oil_29 : decode cX8_oil 29 = .ok (.bipush 26, 2) := by decide +kernel
theorem dX8_oil_31 : decode cX8_oil 31 = .ok (.iload_n 1, 1) := by decide +kernel
theorem dX8_oil_32 : decode cX8_oil 32 = .ok (.iadd, 1) := by decide +kernel
theorem dX8_oil_33 : decode cX8_oil 33 = .ok (.iconst 0, 1) := by decide +kernel
theorem dX8_oil_34 : decode cX8_oil 34 = .ok (.iastore, 1) := by decide +kernel
theorem dX8_oil_35 : decode cX8_oil 35 = .ok (.aload_n 0, 1) := by decide +kernel
theorem dX8_oil_36 : decode cX8_oil 36 = .ok (.getfield 16, 3) := by decide +kernel
theorem dX8_oil_39 : decode cX8_oil 39 = .ok (.bipush 21, 2) := by decide +kernel
theorem dX8_oil_41 : decode cX8_oil 41 = .ok (.iload_n 1, 1) := by decide +kernel
theorem dX8_oil_42 : decode cX8_oil 42 = .ok (.iadd, 1) := by decide +kernel
theorem dX8_oil_43 : decode cX8_oil 43 = .ok (.iconst 0, 1) := by decide +kernel
theorem dX8_oil_44 : decode cX8_oil 44 = .ok (.iastore, 1) := by decide +kernel
theorem dX8_oil_45 : decode cX8_oil 45 = .ok (.iload_n 2, 1) := by decide +kernel
theorem dX8_oil_46 : decode cX8_oil 46 = .ok (.ireturn, 1) := by decide +kernel
theorem dX8_well_0 : decode cX8_well 0 = .ok (.aload_n 0, 1) := by decide +kernel
theorem dX8_well_1 : decode cX8_well 1 = .ok (.iload_n 1, 1) := by decide +kernel
theorem dX8_well_2 : decode cX8_well 2 = .ok (.invokevirtual 187, 3) := by decide +kernel
theorem dX8_well_5 : decode cX8_well 5 = .ok (.ifCond .ne 6, 3) := by decide +kernel
theorem dX8_well_8 : decode cX8_well 8 = .ok (.ldc 183, 2) := by decide +kernel
theorem dX8_well_10 : decode cX8_well 10 = .ok (.ireturn, 1) := by decide +kernel
theorem dX8_well_11 : decode cX8_well 11 = .ok (.aload_n 0, 1) := by decide +kernel
theorem dX8_well_12 : decode cX8_well 12 = .ok (.invokevirtual 213, 3) := by decide +kernel
theorem dX8_well_15 : decode cX8_well 15 = .ok (.aload_n 0, 1) := by decide +kernel
theorem dX8_well_16 : decode cX8_well 16 = .ok (.getfield 16, 3) := by decide +kernel
theorem dX8_well_19 : decode cX8_well 19 = .ok (.bipush 14, 2) := by decide +kernel
theorem dX8_well_21 : decode cX8_well 21 = .ok (.iload_n 1, 1) := by decide +kernel
theorem dX8_well_22 : decode cX8_well 22 = .ok (.iadd, 1) := by decide +kernel
theorem dX8_well_23 : decode cX8_well 23 = .ok (.iaload, 1) := by decide +kernel
theorem dX8_well_24 : decode cX8_well 24 = .ok (.istore_n 2, 1) := by decide +kernel
theorem dX8_well_25 : decode cX8_well 25 = .ok (.aload_n 0, 1) := by decide +kernel
theorem dX8_well_26 : decode cX8_well 26 = .ok (.getfield 16, 3) := by decide +kernel
theorem dX8_well_29 : decode cX8_well 29 = .ok (.bipush 14, 2) := by decide +kernel
theorem dX8_well_31 : decode cX8_well 31 = .ok (.iload_n 1, 1) := by decide +kernel
theorem dX8_well_32 : decode cX8_well 32 = .ok (.iadd, 1) := by decide +kernel
theorem dX8_well_33 : decode cX8_well 33 = .ok (.iconst 0, 1) := by decide +kernel
theorem dX8_well_34 : decode cX8_well 34 = .ok (.iastore, 1) := by decide +kernel
theorem dX8_well_35 : decode cX8_well 35 = .ok (.iload_n 2, 1) := by decide +kernel
theorem dX8_well_36 : decode cX8_well 36 = .ok (.ireturn, 1) := by decide +kernel
theorem dX8_draw_0 : decode cX8_draw 0 = .ok (.aload_n 0, 1) := by decide +kernel
theorem dX8_draw_1 : decode cX8_draw 1 = .ok (.aload_n 0, 1) := by decide +kernel
theorem dX8_draw_2 : decode cX8_draw 2 = .ok (.getfield 222, 3) := by decide +kernel
theorem dX8_draw_5 : decode cX8_draw 5 = .ok (.i2l, 1) := by decide +kernel
theorem dX8_draw_6 : decode cX8_draw 6 = .ok (.ldc2_w 225, 3) := by decide +kernel
theorem dX8_draw_9 : decode cX8_draw 9 = .ok (.lmul, 1) := by decide +kernel
theorem dX8_draw_10 : decode cX8_draw 10 = .ok (.ldc2_w 227, 3) := by decide +kernel
theorem dX8_draw_13 : decode cX8_draw 13 = .ok (.ladd, 1) := by decide +kernel
theorem dX8_draw_14 : decode cX8_draw 14 = .ok (.ldc2_w 229, 3) := by decide +kernel
theorem dX8_draw_17 : decode cX8_draw 17 = .ok (.lrem, 1) := by decide +kernel
theorem dX8_draw_18 : decode cX8_draw 18 = .ok (.l2i, 1) := by decide +kernel
theorem dX8_draw_19 : decode cX8_draw 19 = .ok (.putfield 222, 3) := by decide +kernel
theorem dX8_draw_22 : decode cX8_draw 22 = .ok (.aload_n 0, 1) := by decide +kernel
theorem dX8_draw_23 : decode cX8_draw 23 = .ok (.getfield 222, 3) := by decide +kernel
theorem dX8_draw_26 : decode cX8_draw 26 = .ok (.ldc 231, 2) := by decide +kernel
theorem dX8_draw_28 : decode cX8_draw 28 = .ok (.idiv, 1) := by decide +kernel
theorem dX8_draw_29 : decode cX8_draw 29 = .ok (.iload_n 1, 1) := by decide +kernel
theorem dX8_draw_30 : decode cX8_draw 30 = .ok (.irem, 1) := by decide +kernel
theorem dX8_draw_31 : decode cX8_draw 31 = .ok (.ireturn, 1) := by decide +kernel
theorem dX8_chance_0 : decode cX8_chance 0 = .ok (.aload_n 0, 1) := by decide +kernel
theorem dX8_chance_1 : decode cX8_chance 1 = .ok (.aload_n 0, 1) := by decide +kernel
theorem dX8_chance_2 : decode cX8_chance 2 = .ok (.getfield 94, 3) := by decide +kernel
theorem dX8_chance_5 : decode cX8_chance 5 = .ok (.invokevirtual 232, 3) := by decide +kernel
theorem dX8_chance_8 : decode cX8_chance 8 = .ok (.istore_n 1, 1) := by decide +kernel
theorem dX8_chance_9 : decode cX8_chance 9 = .ok (.aload_n 0, 1) := by decide +kernel
theorem dX8_chance_10 : decode cX8_chance 10 = .ok (.aload_n 0, 1) := by decide +kernel
theorem dX8_chance_11 : decode cX8_chance 11 = .ok (.getfield 87, 3) := by decide +kernel
theorem dX8_chance_14 : decode cX8_chance 14 = .ok (.invokevirtual 232, 3) := by decide +kernel
theorem dX8_chance_17 : decode cX8_chance 17 = .ok (.istore_n 2, 1) := by decide +kernel
theorem dX8_chance_18 : decode cX8_chance 18 = .ok (.aload_n 0, 1) := by decide +kernel
theorem dX8_chance_19 : decode cX8_chance 19 = .ok (.getfield 16, 3) := by decide +kernel
theorem dX8_chance_22 : decode cX8_chance 22 = .ok (.bipush 7, 2) := by decide +kernel
theorem dX8_chance_24 : decode cX8_chance 24 = .ok (.iload_n 1, 1) := by decide +kernel
theorem dX8_chance_25 : decode cX8_chance 25 = .ok (.iadd, 1) := by decide +kernel
theorem dX8_chance_26 : decode cX8_chance 26 = .ok (.aload_n 0, 1) := by decide +kernel
theorem dX8_chance_27 : decode cX8_chance 27 = .ok (.iload_n 1, 1) := by decide +kernel
theorem dX8_chance_28 : decode cX8_chance 28 = .ok (.iload_n 2, 1) := by decide +kernel
theorem dX8_chance_29 : decode cX8_chance 29 = .ok (.invokevirtual 219, 3) := by decide +kernel
theorem dX8_chance_32 : decode cX8_chance 32 = .ok (.ifCond .eq 7, 3) := by decide +kernel
theorem dX8_chance_35 : decode cX8_chance 35 = .ok (.iload_n 2, 1) := by decide +kernel
theorem dX8_chance_36 : decode cX8_chance 36 = .ok (.goto 12, 3) := by decide +kernel
theorem dX8_chance_39 : decode cX8_chance 39 = .ok (.aload_n 0, 1) := by decide +kernel
theorem dX8_chance_40 : decode cX8_chance 40 = .ok (.getfield 16, 3) := by decide +kernel
theorem dX8_chance_43 : decode cX8_chance 43 = .ok (.bipush 7, 2) := by decide +kernel
theorem dX8_chance_45 : decode cX8_chance 45 = .ok (.iload_n 1, 1) := by decide +kernel
theorem dX8_chance_46 : decode cX8_chance 46 = .ok (.iadd, 1) := by decide +kernel
theorem dX8_chance_47 : decode cX8_chance 47 = .ok (.iaload, 1) := by decide +kernel
theorem dX8_chance_48 : decode cX8_chance 48 = .ok (.iastore, 1) := by decide +kernel
theorem dX8_chance_49 : decode cX8_chance 49 = .ok (.return_, 1) := by decide +kernel
theorem dX8_drift_0 : decode cX8_drift 0 = .ok (.aload_n 0, 1) := by decide +kernel
theorem dX8_drift_1 : decode cX8_drift 1 = .ok (.iload_n 1, 1) := by decide +kernel
theorem dX8_drift_2 : decode cX8_drift 2 = .ok (.invokevirtual 210, 3) := by decide +kernel
theorem dX8_drift_5 : decode cX8_drift 5 = .ok (.istore_n 2, 1) := by decide +kernel
theorem dX8_drift_6 : decode cX8_drift 6 = .ok (.iload_n 2, 1) := by decide +kernel
theorem dX8_drift_7 : decode cX8_drift 7 = .ok (.ifCond .eq 5, 3) := by decide +kernel
theorem dX8_drift_10 : decode cX8_drift 10 = .ok (.iload_n 2, 1) := by decide +kernel
theorem dX8_drift_11 : decode cX8_drift 11 = .ok (.ireturn, 1) := by decide +kernel
theorem dX8_drift_12 : decode cX8_drift 12 = .ok (.aload_n 0, 1) := by decide +kernel
theorem dX8_drift_13 : decode cX8_drift 13 = .ok (.invokevirtual 213, 3) := by decide +kernel
theorem dX8_drift_16 : decode cX8_drift 16 = .ok (.iconst 0, 1) := by decide +kernel
theorem dX8_drift_17 : decode cX8_drift 17 = .ok (.istore_n 3, 1) := by decide +kernel
theorem dX8_drift_18 : decode cX8_drift 18 = .ok (.iload_n 3, 1) := by decide +kernel
theorem dX8_drift_19 : decode cX8_drift 19 = .ok (.iload_n 1, 1) := by decide +kernel
theorem dX8_drift_20 : decode cX8_drift 20 = .ok (.if_icmp .ge 24, 3) := by decide +kernel
theorem dX8_drift_23 : decode cX8_drift 23 = .ok (.aload_n 0, 1) := by decide +kernel
theorem dX8_drift_24 : decode cX8_drift 24 = .ok (.getfield 94, 3) := by decide +kernel
theorem dX8_drift_27 : decode cX8_drift 27 = .ok (.ifCond .le 7, 3) := by decide +kernel
theorem dX8_drift_30 : decode cX8_drift 30 = .ok (.aload_n 0, 1) := by decide +kernel
theorem dX8_drift_31 : decode cX8_drift 31 = .ok (.invokevirtual 235, 3) := by decide +kernel
theorem dX8_drift_34 : decode cX8_drift 34 = .ok (.aload_n 0, 1) := by decide +kernel
theorem dX8_drift_35 : decode cX8_drift 35 = .ok (.invokevirtual 216, 3) := by decide +kernel
theorem dX8_drift_38 : decode cX8_drift 38 = .ok (.iinc 3 1, 3) := by decide +kernel
theorem dX8_drift_41 : decode cX8_drift 41 = .ok (.goto (-23), 3) := by decide +kernel
theorem dX8_drift_44 : decode cX8_drift 44 = .ok (.aload_n 0, 1) := by decide +kernel
theorem dX8_drift_45 : decode cX8_drift 45 = .ok (.getfield 16, 3) := by decide +kernel
theorem dX8_drift_48 : decode cX8_drift 48 = .ok (.bipush 32, 2) := by decide +kernel
theorem dX8_drift_50 : decode cX8_drift 50 = .ok (.iaload, 1) := by decide +kernel
theorem dX8_drift_51 : decode cX8_drift 51 = .ok (.ireturn, 1) := by decide +kernel
theorem dX8_undo_0 : decode cX8_undo 0 = .ok (.aload_n 0, 1) := by decide +kernel
theorem dX8_undo_1 : decode cX8_undo 1 = .ok (.getfield 159, 3) := by decide +kernel
theorem dX8_undo_4 : decode cX8_undo 4 = .ok (.ifCond .ne 6, 3) := by decide +kernel
theorem dX8_undo_7 : decode cX8_undo 7 = .ok (.ldc 209, 2) := by decide +kernel
theorem dX8_undo_9 : decode cX8_undo 9 = .ok (.ireturn, 1) := by decide +kernel
theorem dX8_undo_10 : decode cX8_undo 10 = .ok (.aload_n 0, 1) := by decide +kernel
theorem dX8_undo_11 : decode cX8_undo 11 = .ok (.dup, 1) := by decide +kernel
theorem dX8_undo_12 : decode cX8_undo 12 = .ok (.getfield 159, 3) := by decide +kernel
theorem dX8_undo_15 : decode cX8_undo 15 = .ok (.iconst 1, 1) := by decide +kernel
theorem dX8_undo_16 : decode cX8_undo 16 = .ok (.isub, 1) := by decide +kernel
theorem dX8_undo_17 : decode cX8_undo 17 = .ok (.putfield 159, 3) := by decide +kernel
theorem dX8_undo_20 : decode cX8_undo 20 = .ok (.iconst 0, 1) := by decide +kernel
theorem dX8_undo_21 : decode cX8_undo 21 = .ok (.istore_n 1, 1) := by decide +kernel
theorem dX8_undo_22 : decode cX8_undo 22 = .ok (.iload_n 1, 1) := by decide +kernel
theorem dX8_undo_23 : decode cX8_undo 23 = .ok (.bipush 55, 2) := by decide +kernel
theorem dX8_undo_25 : decode cX8_undo 25 = .ok (.if_icmp .ge 29, 3) := by decide +kernel
theorem dX8_undo_28 : decode cX8_undo 28 = .ok (.aload_n 0, 1) := by decide +kernel
theorem dX8_undo_29 : decode cX8_undo 29 = .ok (.getfield 16, 3) := by decide +kernel
theorem dX8_undo_32 : decode cX8_undo 32 = .ok (.iload_n 1, 1) := by decide +kernel
theorem dX8_undo_33 : decode cX8_undo 33 = .ok (.aload_n 0, 1) := by decide +kernel
theorem dX8_undo_34 : decode cX8_undo 34 = .ok (.getfield 44, 3) := by decide +kernel
theorem dX8_undo_37 : decode cX8_undo 37 = .ok (.bipush 55, 2) := by decide +kernel
theorem dX8_undo_39 : decode cX8_undo 39 = .ok (.aload_n 0, 1) := by decide +kernel
theorem dX8_undo_40 : decode cX8_undo 40 = .ok (.getfield 159, 3) := by decide +kernel
theorem dX8_undo_43 : decode cX8_undo 43 = .ok (.imul, 1) := by decide +kernel
theorem dX8_undo_44 : decode cX8_undo 44 = .ok (.iload_n 1, 1) := by decide +kernel
theorem dX8_undo_45 : decode cX8_undo 45 = .ok (.iadd, 1) := by decide +kernel
theorem dX8_undo_46 : decode cX8_undo 46 = .ok (.iaload, 1) := by decide +kernel
theorem dX8_undo_47 : decode cX8_undo 47 = .ok (.iastore, 1) := by decide +kernel
theorem dX8_undo_48 : decode cX8_undo 48 = .ok (.iinc 1 1, 3) := by decide +kernel
theorem dX8_undo_51 : decode cX8_undo 51 = .ok (.goto (-29), 3) := by decide +kernel
theorem dX8_undo_54 : decode cX8_undo 54 = .ok (.aload_n 0, 1) := by decide +kernel
theorem dX8_undo_55 : decode cX8_undo 55 = .ok (.getfield 159, 3) := by decide +kernel
theorem dX8_undo_58 : decode cX8_undo 58 = .ok (.ireturn, 1) := by decide +kernel
theorem dX8_openGates_0 : decode cX8_openGates 0 = .ok (.aload_n 0, 1) := by decide +kernel
theorem dX8_openGates_1 : decode cX8_openGates 1 = .ok (.getfield 87, 3) := by decide +kernel
theorem dX8_openGates_4 : decode cX8_openGates 4 = .ok (.aload_n 0, 1) := by decide +kernel
theorem dX8_openGates_5 : decode cX8_openGates 5 = .ok (.invokevirtual 176, 3) := by decide +kernel
theorem dX8_openGates_8 : decode cX8_openGates 8 = .ok (.invokestatic 238, 3) := by decide +kernel
theorem dX8_openGates_11 : decode cX8_openGates 11 = .ok (.isub, 1) := by decide +kernel
theorem dX8_openGates_12 : decode cX8_openGates 12 = .ok (.ireturn, 1) := by decide +kernel
theorem dX8_pairBits_0 : decode cX8_pairBits 0 = .ok (.iload_n 1, 1) := by decide +kernel
theorem dX8_pairBits_1 : decode cX8_pairBits 1 = .ok (.bipush 21, 2) := by decide +kernel
theorem dX8_pairBits_3 : decode cX8_pairBits 3 = .ok (.if_icmp .ne 7, 3) := by decide +kernel
theorem dX8_pairBits_6 : decode cX8_pairBits 6 = .ok (.iconst 0, 1) := by decide +kernel
theorem dX8_pairBits_7 : decode cX8_pairBits 7 = .ok (.goto 20, 3) := by decide +kernel
theorem dX8_pairBits_10 : decode cX8_pairBits 10 = .ok (.iconst 1, 1) := by decide +kernel
theorem dX8_pairBits_11 : decode cX8_pairBits 11 = .ok (.aload_n 0, 1) := by decide +kernel
theorem dX8_pairBits_12 : decode cX8_pairBits 12 = .ok (.getfield 19, 3) := by decide +kernel
theorem dX8_pairBits_15 : decode cX8_pairBits 15 = .ok (.iload_n 1, 1) := by decide +kernel
theorem dX8_pairBits_16 : decode cX8_pairBits 16 = .ok (.iaload, 1) := by decide +kernel
theorem dX8_pairBits_17 : decode cX8_pairBits 17 = .ok (.ishl, 1) := by decide +kernel
theorem dX8_pairBits_18 : decode cX8_pairBits 18 = .ok (.iconst 1, 1) := by decide +kernel
theorem dX8_pairBits_19 : decode cX8_pairBits 19 = .ok (.aload_n 0, 1) := by decide +kernel
theorem dX8_pairBits_20 : decode cX8_pairBits 20 = .ok (.getfield 22, 3) := by decide +kernel
theorem dX8_pairBits_23 : decode cX8_pairBits 23 = .ok (.iload_n 1, 1) := by decide +kernel
theorem dX8_pairBits_24 : decode cX8_pairBits 24 = .ok (.iaload, 1) := by decide +kernel
theorem dX8_pairBits_25 : decode cX8_pairBits 25 = .ok (.ishl, 1) := by decide +kernel
theorem dX8_pairBits_26 : decode cX8_pairBits 26 = .ok (.ior, 1) := by decide +kernel
theorem dX8_pairBits_27 : decode cX8_pairBits 27 = .ok (.ireturn, 1) := by decide +kernel
theorem dX8_choose_0 : decode cX8_choose 0 = .ok (.aload_n 0, 1) := by decide +kernel
theorem dX8_choose_1 : decode cX8_choose 1 = .ok (.getfield 47, 3) := by decide +kernel
theorem dX8_choose_4 : decode cX8_choose 4 = .ok (.iconst 0, 1) := by decide +kernel
theorem dX8_choose_5 : decode cX8_choose 5 = .ok (.iload_n 1, 1) := by decide +kernel
theorem dX8_choose_6 : decode cX8_choose 6 = .ok (.sipush 484, 3) := by decide +kernel
theorem dX8_choose_9 : decode cX8_choose 9 = .ok (.idiv, 1) := by decide +kernel
theorem dX8_choose_10 : decode cX8_choose 10 = .ok (.iastore, 1) := by decide +kernel
theorem dX8_choose_11 : decode cX8_choose 11 = .ok (.aload_n 0, 1) := by decide +kernel
theorem dX8_choose_12 : decode cX8_choose 12 = .ok (.getfield 47, 3) := by decide +kernel
theorem dX8_choose_15 : decode cX8_choose 15 = .ok (.iconst 1, 1) := by decide +kernel
theorem dX8_choose_16 : decode cX8_choose 16 = .ok (.iload_n 1, 1) := by decide +kernel
theorem dX8_choose_17 : decode cX8_choose 17 = .ok (.bipush 22, 2) := by decide +kernel
theorem dX8_choose_19 : decode cX8_choose 19 = .ok (.idiv, 1) := by decide +kernel
