theorem dX7_loves_42 : decode cX7_loves 42 = .ok (.ifCond .eq 32, 3) := by decide +kernel
theorem dX7_loves_45 : decode cX7_loves 45 = .ok (.aload_n 0, 1) := by decide +kernel
theorem dX7_loves_46 : decode cX7_loves 46 = .ok (.getfield 69, 3) := by decide +kernel
theorem dX7_loves_49 : decode cX7_loves 49 = .ok (.iload 4, 2) := by decide +kernel
theorem dX7_loves_51 : decode cX7_loves 51 = .ok (.iload_n 3, 1) := by decide +kernel
theorem dX7_loves_52 : decode cX7_loves 52 = .ok (.invokevirtual 234, 3) := by decide +kernel
theorem dX7_loves_55 : decode cX7_loves 55 = .ok (.ifCond .eq 19, 3) := by decide +kernel
theorem dX7_loves_58 : decode cX7_loves 58 = .ok (.iload_n 2, 1) := by decide +kernel
theorem dX7_loves_59 : decode cX7_loves 59 = .ok (.iload_n 1, 1) := by decide +kernel
theorem dX7_loves_60 : decode cX7_loves 60 = .ok (.if_icmp .ne 11, 3) := by decide +kernel
theorem dX7_loves_63 : decode cX7_loves 63 = .ok (.bipush 10, 2) := by decide +kernel
theorem dX7_loves_65 : decode cX7_loves 65 = .ok (.iload_n 3, 1) := by decide +kernel
theorem dX7_loves_66 : decode cX7_loves 66 = .ok (.imul, 1) := by decide +kernel
theorem dX7_loves_67 : decode cX7_loves 67 = .ok (.iload 4, 2) := by decide +kernel
theorem dX7_loves_69 : decode cX7_loves 69 = .ok (.iadd, 1) := by decide +kernel
theorem dX7_loves_70 : decode cX7_loves 70 = .ok (.ireturn, 1) := by decide +kernel
theorem dX7_loves_71 : decode cX7_loves 71 = .ok (.iinc 2 1, 3) := by decide +kernel
theorem dX7_loves_74 : decode cX7_loves 74 = .ok (.iinc 4 1, 3) := by decide +kernel
theorem dX7_loves_77 : decode cX7_loves 77 = .ok (.goto (-57), 3) := by decide +kernel
theorem dX7_loves_80 : decode cX7_loves 80 = .ok (.iinc 3 1, 3) := by decide +kernel
theorem dX7_loves_83 : decode cX7_loves 83 = .ok (.goto (-79), 3) := by decide +kernel
theorem dX7_loves_86 : decode cX7_loves 86 = .ok (.iload_n 1, 1) := by decide +kernel
theorem dX7_loves_87 : decode cX7_loves 87 = .ok (.iconst (-1), 1) := by decide +kernel
theorem dX7_loves_88 : decode cX7_loves 88 = .ok (.if_icmp .ne 7, 3) := by decide +kernel
theorem dX7_loves_91 : decode cX7_loves 91 = .ok (.iload_n 2, 1) := by decide +kernel
theorem dX7_loves_92 : decode cX7_loves 92 = .ok (.goto 4, 3) := by decide +kernel
theorem dX7_loves_95 : decode cX7_loves 95 = .ok (.iconst (-1), 1) := by decide +kernel
theorem dX7_loves_96 : decode cX7_loves 96 = .ok (.ireturn, 1) := by decide +kernel
theorem dX7_first_0 : decode cX7_first 0 = .ok (.iconst 0, 1) := by decide +kernel
theorem dX7_first_1 : decode cX7_first 1 = .ok (.istore_n 1, 1) := by decide +kernel
theorem dX7_first_2 : decode cX7_first 2 = .ok (.iconst 0, 1) := by decide +kernel
theorem dX7_first_3 : decode cX7_first 3 = .ok (.istore_n 2, 1) := by decide +kernel
theorem dX7_first_4 : decode cX7_first 4 = .ok (.iload_n 2, 1) := by decide +kernel
theorem dX7_first_5 : decode cX7_first 5 = .ok (.aload_n 0, 1) := by decide +kernel
theorem dX7_first_6 : decode cX7_first 6 = .ok (.getfield 69, 3) := by decide +kernel
theorem dX7_first_9 : decode cX7_first 9 = .ok (.getfield 110, 3) := by decide +kernel
theorem dX7_first_12 : decode cX7_first 12 = .ok (.if_icmp .ge 33, 3) := by decide +kernel
theorem dX7_first_15 : decode cX7_first 15 = .ok (.aload_n 0, 1) := by decide +kernel
theorem dX7_first_16 : decode cX7_first 16 = .ok (.getfield 19, 3) := by decide +kernel
theorem dX7_first_19 : decode cX7_first 19 = .ok (.iload_n 2, 1) := by decide +kernel
theorem dX7_first_20 : decode cX7_first 20 = .ok (.invokevirtual 237, 3) := by decide +kernel
theorem dX7_first_23 : decode cX7_first 23 = .ok (.aload_n 0, 1) := by decide +kernel
theorem dX7_first_24 : decode cX7_first 24 = .ok (.getfield 19, 3) := by decide +kernel
theorem dX7_first_27 : decode cX7_first 27 = .ok (.getfield 128, 3) := by decide +kernel
theorem dX7_first_30 : decode cX7_first 30 = .ok (.if_icmp .ne 9, 3) := by decide +kernel
theorem dX7_first_33 : decode cX7_first 33 = .ok (.iload_n 1, 1) := by decide +kernel
theorem dX7_first_34 : decode cX7_first 34 = .ok (.iconst 1, 1) := by decide +kernel
theorem dX7_first_35 : decode cX7_first 35 = .ok (.iload_n 2, 1) := by decide +kernel
theorem dX7_first_36 : decode cX7_first 36 = .ok (.ishl, 1) := by decide +kernel
theorem dX7_first_37 : decode cX7_first 37 = .ok (.ior, 1) := by decide +kernel
theorem dX7_first_38 : decode cX7_first 38 = .ok (.istore_n 1, 1) := by decide +kernel
theorem dX7_first_39 : decode cX7_first 39 = .ok (.iinc 2 1, 3) := by decide +kernel
theorem dX7_first_42 : decode cX7_first 42 = .ok (.goto (-38), 3) := by decide +kernel
theorem dX7_first_45 : decode cX7_first 45 = .ok (.iload_n 1, 1) := by decide +kernel
theorem dX7_first_46 : decode cX7_first 46 = .ok (.ireturn, 1) := by decide +kernel
theorem dX7_dies_0 : decode cX7_dies 0 = .ok (.iload_n 1, 1) := by decide +kernel
theorem dX7_dies_1 : decode cX7_dies 1 = .ok (.ifCond .eq 11, 3) := by decide +kernel
theorem dX7_dies_4 : decode cX7_dies 4 = .ok (.iload_n 1, 1) := by decide +kernel
theorem dX7_dies_5 : decode cX7_dies 5 = .ok (.iconst 1, 1) := by decide +kernel
theorem dX7_dies_6 : decode cX7_dies 6 = .ok (.if_icmp .eq 6, 3) := by decide +kernel
theorem dX7_dies_9 : decode cX7_dies 9 = .ok (.ldc 90, 2) := by decide +kernel
theorem dX7_dies_11 : decode cX7_dies 11 = .ok (.ireturn, 1) := by decide +kernel
theorem dX7_dies_12 : decode cX7_dies 12 = .ok (.iconst (-1), 1) := by decide +kernel
theorem dX7_dies_13 : decode cX7_dies 13 = .ok (.istore_n 2, 1) := by decide +kernel
theorem dX7_dies_14 : decode cX7_dies 14 = .ok (.iconst (-1), 1) := by decide +kernel
theorem dX7_dies_15 : decode cX7_dies 15 = .ok (.istore_n 3, 1) := by decide +kernel
theorem dX7_dies_16 : decode cX7_dies 16 = .ok (.iconst 0, 1) := by decide +kernel
theorem dX7_dies_17 : decode cX7_dies 17 = .ok (.istore 4, 2) := by decide +kernel
theorem dX7_dies_19 : decode cX7_dies 19 = .ok (.iload 4, 2) := by decide +kernel
theorem dX7_dies_21 : decode cX7_dies 21 = .ok (.aload_n 0, 1) := by decide +kernel
theorem dX7_dies_22 : decode cX7_dies 22 = .ok (.getfield 69, 3) := by decide +kernel
theorem dX7_dies_25 : decode cX7_dies 25 = .ok (.getfield 113, 3) := by decide +kernel
theorem dX7_dies_28 : decode cX7_dies 28 = .ok (.if_icmp .ge 54, 3) := by decide +kernel
theorem dX7_dies_31 : decode cX7_dies 31 = .ok (.aload_n 0, 1) := by decide +kernel
theorem dX7_dies_32 : decode cX7_dies 32 = .ok (.getfield 69, 3) := by decide +kernel
theorem dX7_dies_35 : decode cX7_dies 35 = .ok (.getfield 154, 3) := by decide +kernel
theorem dX7_dies_38 : decode cX7_dies 38 = .ok (.iload 4, 2) := by decide +kernel
theorem dX7_dies_40 : decode cX7_dies 40 = .ok (.iaload, 1) := by decide +kernel
theorem dX7_dies_41 : decode cX7_dies 41 = .ok (.aload_n 0, 1) := by decide +kernel
theorem dX7_dies_42 : decode cX7_dies 42 = .ok (.getfield 19, 3) := by decide +kernel
theorem dX7_dies_45 : decode cX7_dies 45 = .ok (.getfield 157, 3) := by decide +kernel
theorem dX7_dies_48 : decode cX7_dies 48 = .ok (.iload 4, 2) := by decide +kernel
theorem dX7_dies_50 : decode cX7_dies 50 = .ok (.iaload, 1) := by decide +kernel
theorem dX7_dies_51 : decode cX7_dies 51 = .ok (.isub, 1) := by decide +kernel
theorem dX7_dies_52 : decode cX7_dies 52 = .ok (.istore 5, 2) := by decide +kernel
theorem dX7_dies_54 : decode cX7_dies 54 = .ok (.iload 5, 2) := by decide +kernel
theorem dX7_dies_56 : decode cX7_dies 56 = .ok (.ifCond .le 20, 3) := by decide +kernel
theorem dX7_dies_59 : decode cX7_dies 59 = .ok (.iload_n 2, 1) := by decide +kernel
theorem dX7_dies_60 : decode cX7_dies 60 = .ok (.iconst (-1), 1) := by decide +kernel
theorem dX7_dies_61 : decode cX7_dies 61 = .ok (.if_icmp .eq 9, 3) := by decide +kernel
theorem dX7_dies_64 : decode cX7_dies 64 = .ok (.iload 5, 2) := by decide +kernel
theorem dX7_dies_66 : decode cX7_dies 66 = .ok (.iload_n 3, 1) := by decide +kernel
theorem dX7_dies_67 : decode cX7_dies 67 = .ok (.if_icmp .ge 9, 3) := by decide +kernel
theorem dX7_dies_70 : decode cX7_dies 70 = .ok (.iload 4, 2) := by decide +kernel
theorem dX7_dies_72 : decode cX7_dies 72 = .ok (.istore_n 2, 1) := by decide +kernel
theorem dX7_dies_73 : decode cX7_dies 73 = .ok (.iload 5, 2) := by decide +kernel
theorem dX7_dies_75 : decode cX7_dies 75 = .ok (.istore_n 3, 1) := by decide +kernel
theorem dX7_dies_76 : decode cX7_dies 76 = .ok (.iinc 4 1, 3) := by decide +kernel
theorem dX7_dies_79 : decode cX7_dies 79 = .ok (.goto (-60), 3) := by decide +kernel
theorem dX7_dies_82 : decode cX7_dies 82 = .ok (.iload_n 1, 1) := by decide +kernel
theorem dX7_dies_83 : decode cX7_dies 83 = .ok (.ifCond .ne 7, 3) := by decide +kernel
theorem dX7_dies_86 : decode cX7_dies 86 = .ok (.iload_n 2, 1) := by decide +kernel
theorem dX7_dies_87 : decode cX7_dies 87 = .ok (.goto 4, 3) := by decide +kernel
theorem dX7_dies_90 : decode cX7_dies 90 = .ok (.iload_n 3, 1) := by decide +kernel
theorem dX7_dies_91 : decode cX7_dies 91 = .ok (.ireturn, 1) := by decide +kernel
theorem dX7_oilFor_0 : decode cX7_oilFor 0 = .ok (.iload_n 1, 1) := by decide +kernel
theorem dX7_oilFor_1 : decode cX7_oilFor 1 = .ok (.ifCond .lt 10, 3) := by decide +kernel
theorem dX7_oilFor_4 : decode cX7_oilFor 4 = .ok (.iload_n 1, 1) := by decide +kernel
theorem dX7_oilFor_5 : decode cX7_oilFor 5 = .ok (.sipush 200, 3) := by decide +kernel
theorem dX7_oilFor_8 : decode cX7_oilFor 8 = .ok (.if_icmp .le 6, 3) := by decide +kernel
theorem dX7_oilFor_11 : decode cX7_oilFor 11 = .ok (.ldc 90, 2) := by decide +kernel
theorem dX7_oilFor_13 : decode cX7_oilFor 13 = .ok (.ireturn, 1) := by decide +kernel
theorem dX7_oilFor_14 : decode cX7_oilFor 14 = .ok (.iconst 0, 1) := by decide +kernel
theorem dX7_oilFor_15 : decode cX7_oilFor 15 = .ok (.istore_n 2, 1) := by decide +kernel
theorem dX7_oilFor_16 : decode cX7_oilFor 16 = .ok (.iconst 0, 1) := by decide +kernel
theorem dX7_oilFor_17 : decode cX7_oilFor 17 = .ok (.istore_n 3, 1) := by decide +kernel
theorem dX7_oilFor_18 : decode cX7_oilFor 18 = .ok (.iload_n 3, 1) := by decide +kernel
theorem dX7_oilFor_19 : decode cX7_oilFor 19 = .ok (.aload_n 0, 1) := by decide +kernel
theorem dX7_oilFor_20 : decode cX7_oilFor 20 = .ok (.getfield 69, 3) := by decide +kernel
theorem dX7_oilFor_23 : decode cX7_oilFor 23 = .ok (.getfield 113, 3) := by decide +kernel
theorem dX7_oilFor_26 : decode cX7_oilFor 26 = .ok (.if_icmp .ge 18, 3) := by decide +kernel
theorem dX7_oilFor_29 : decode cX7_oilFor 29 = .ok (.iload_n 2, 1) := by decide +kernel
theorem dX7_oilFor_30 : decode cX7_oilFor 30 = .ok (.aload_n 0, 1) := by decide +kernel
theorem dX7_oilFor_31 : decode cX7_oilFor 31 = .ok (.iload_n 3, 1) := by decide +kernel
theorem dX7_oilFor_32 : decode cX7_oilFor 32 = .ok (.iload_n 1, 1) := by decide +kernel
theorem dX7_oilFor_33 : decode cX7_oilFor 33 = .ok (.invokevirtual 240, 3) := by decide +kernel
theorem dX7_oilFor_36 : decode cX7_oilFor 36 = .ok (.iadd, 1) := by decide +kernel
theorem dX7_oilFor_37 : decode cX7_oilFor 37 = .ok (.istore_n 2, 1) := by decide +kernel
theorem dX7_oilFor_38 : decode cX7_oilFor 38 = .ok (.iinc 3 1, 3) := by decide +kernel
theorem dX7_oilFor_41 : decode cX7_oilFor 41 = .ok (.goto (-23), 3) := by decide +kernel
theorem dX7_oilFor_44 : decode cX7_oilFor 44 = .ok (.iload_n 2, 1) := by decide +kernel
theorem dX7_oilFor_45 : decode cX7_oilFor 45 = .ok (.ireturn, 1) := by decide +kernel
theorem dX7_evening_0 : decode cX7_evening 0 = .ok (.aload_n 0, 1) := by decide +kernel
theorem dX7_evening_1 : decode cX7_evening 1 = .ok (.getfield 69, 3) := by decide +kernel
theorem dX7_evening_4 : decode cX7_evening 4 = .ok (.iload_n 1, 1) := by decide +kernel
theorem dX7_evening_5 : decode cX7_evening 5 = .ok (.invokevirtual 168, 3) := by decide +kernel
theorem dX7_evening_8 : decode cX7_evening 8 = .ok (.ifCond .ne 6, 3) := by decide +kernel
theorem dX7_evening_11 : decode cX7_evening 11 = .ok (.ldc 153, 2) := by decide +kernel
theorem dX7_evening_13 : decode cX7_evening 13 = .ok (.ireturn, 1) := by decide +kernel
theorem dX7_evening_14 : decode cX7_evening 14 = .ok (.aload_n 0, 1) := by decide +kernel
theorem dX7_evening_15 : decode cX7_evening 15 = .ok (.getfield 19, 3) := by decide +kernel
theorem dX7_evening_18 : decode cX7_evening 18 = .ok (.getfield 171, 3) := by decide +kernel
theorem dX7_evening_21 : decode cX7_evening 21 = .ok (.iload_n 1, 1) := by decide +kernel
theorem dX7_evening_22 : decode cX7_evening 22 = .ok (.iaload, 1) := by decide +kernel
theorem dX7_evening_23 : decode cX7_evening 23 = .ok (.istore_n 2, 1) := by decide +kernel
theorem dX7_evening_24 : decode cX7_evening 24 = .ok (.iload_n 2, 1) := by decide +kernel
theorem dX7_evening_25 : decode cX7_evening 25 = .ok (.iconst (-1), 1) := by decide +kernel
theorem dX7_evening_26 : decode cX7_evening 26 = .ok (.if_icmp .ne 6, 3) := by decide +kernel
theorem dX7_evening_29 : decode cX7_evening 29 = .ok (.ldc 194, 2) := by decide +kernel
theorem dX7_evening_31 : decode cX7_evening 31 = .ok (.ireturn, 1) := by decide +kernel
theorem dX7_evening_32 : decode cX7_evening 32 = .ok (.aload_n 0, 1) := by decide +kernel
theorem dX7_evening_33 : decode cX7_evening 33 = .ok (.getfield 69, 3) := by decide +kernel
theorem dX7_evening_36 : decode cX7_evening 36 = .ok (.iload_n 1, 1) := by decide +kernel
theorem dX7_evening_37 : decode cX7_evening 37 = .ok (.aload_n 0, 1) := by decide +kernel
theorem dX7_evening_38 : decode cX7_evening 38 = .ok (.getfield 19, 3) := by decide +kernel
theorem dX7_evening_41 : decode cX7_evening 41 = .ok (.getfield 125, 3) := by decide +kernel
theorem dX7_evening_44 : decode cX7_evening 44 = .ok (.invokevirtual 174, 3) := by decide +kernel
theorem dX7_evening_47 : decode cX7_evening 47 = .ok (.aload_n 0, 1) := by decide +kernel
theorem dX7_evening_48 : decode cX7_evening 48 = .ok (.getfield 19, 3) := by decide +kernel
theorem dX7_evening_51 : decode cX7_evening 51 = .ok (.aload_n 0, 1) := by decide +kernel
theorem dX7_evening_52 : decode cX7_evening 52 = .ok (.getfield 69, 3) := by decide +kernel
theorem dX7_evening_55 : decode cX7_evening 55 = .ok (.iload_n 2, 1) := by decide +kernel
theorem dX7_evening_56 : decode cX7_evening 56 = .ok (.invokevirtual 164, 3) := by decide +kernel
theorem dX7_evening_59 : decode cX7_evening 59 = .ok (.iand, 1) := by decide +kernel
theorem dX7_evening_60 : decode cX7_evening 60 = .ok (.istore_n 3, 1) := by decide +kernel
theorem dX7_evening_61 : decode cX7_evening 61 = .ok (.iconst 0, 1) := by decide +kernel
theorem dX7_evening_62 : decode cX7_evening 62 = .ok (.bipush 10, 2) := by decide +kernel
theorem dX7_evening_64 : decode cX7_evening 64 = .ok (.iload_n 3, 1) := by decide +kernel
theorem dX7_evening_65 : decode cX7_evening 65 = .ok (.invokestatic 243, 3) := by decide +kernel
theorem dX7_evening_68 : decode cX7_evening 68 = .ok (.isub, 1) := by decide +kernel
theorem dX7_evening_69 : decode cX7_evening 69 = .ok (.invokestatic 248, 3) := by decide +kernel
theorem dX7_evening_72 : decode cX7_evening 72 = .ok (.ireturn, 1) := by decide +kernel
theorem dX7_dry_0 : decode cX7_dry 0 = .ok (.iload_n 1, 1) := by decide +kernel
theorem dX7_dry_1 : decode cX7_dry 1 = .ok (.ifCond .lt 19, 3) := by decide +kernel
theorem dX7_dry_4 : decode cX7_dry 4 = .ok (.iload_n 1, 1) := by decide +kernel
theorem dX7_dry_5 : decode cX7_dry 5 = .ok (.bipush 60, 2) := by decide +kernel
theorem dX7_dry_7 : decode cX7_dry 7 = .ok (.if_icmp .gt 13, 3) := by decide +kernel
theorem dX7_dry_10 : decode cX7_dry 10 = .ok (.iload_n 2, 1) := by decide +kernel
theorem dX7_dry_11 : decode cX7_dry 11 = .ok (.ifCond .lt 9, 3) := by decide +kernel
theorem dX7_dry_14 : decode cX7_dry 14 = .ok (.iload_n 2, 1) := by decide +kernel
theorem dX7_dry_15 : decode cX7_dry 15 = .ok (.bipush 100, 2) := by decide +kernel
theorem dX7_dry_17 : decode cX7_dry 17 = .ok (.if_icmp .le 6, 3) := by decide +kernel
theorem dX7_dry_20 : decode cX7_dry 20 = .ok (.ldc 90, 2) := by decide +kernel
theorem dX7_dry_22 : decode cX7_dry 22 = .ok (.ireturn, 1) := by decide +kernel
theorem dX7_dry_23 : decode cX7_dry 23 = .ok (.ldc2_w 253, 3) := by decide +kernel
theorem dX7_dry_26 : decode cX7_dry 26 = .ok (.lstore_n 3, 1) := by decide +kernel
theorem dX7_dry_27 : decode cX7_dry 27 = .ok (.iconst 0, 1) := by decide +kernel
theorem dX7_dry_28 : decode cX7_dry 28 = .ok (.istore 5, 2) := by decide +kernel
theorem dX7_dry_30 : decode cX7_dry 30 = .ok (.iload 5, 2) := by decide +kernel
theorem dX7_dry_32 : decode cX7_dry 32 = .ok (.iload_n 1, 1) := by decide +kernel
theorem dX7_dry_33 : decode cX7_dry 33 = .ok (.if_icmp .ge 21, 3) := by decide +kernel
theorem dX7_dry_36 : decode cX7_dry 36 = .ok (.lload_n 3, 1) := by decide +kernel
theorem dX7_dry_37 : decode cX7_dry 37 = .ok (.bipush 100, 2) := by decide +kernel
theorem dX7_dry_39 : decode cX7_dry 39 = .ok (.iload_n 2, 1) := by decide +kernel
theorem dX7_dry_40 : decode cX7_dry 40 = .ok (.isub, 1) := by decide +kernel
theorem dX7_dry_41 : decode cX7_dry 41 = .ok (.i2l, 1) := by decide +kernel
theorem dX7_dry_42 : decode cX7_dry 42 = .ok (.lmul, 1) := by decide +kernel
theorem dX7_dry_43 : decode cX7_dry 43 = .ok (.ldc2_w 255, 3) := by decide +kernel
theorem dX7_dry_46 : decode cX7_dry 46 = .ok (.ldiv, 1) := by decide +kernel
theorem dX7_dry_47 : decode cX7_dry 47 = .ok (.lstore_n 3, 1) := by decide +kernel
theorem dX7_dry_48 : decode cX7_dry 48 = .ok (.iinc 5 1, 3) := by decide +kernel
theorem dX7_dry_51 : decode cX7_dry 51 = .ok (.goto (-21), 3) := by decide +kernel
theorem dX7_dry_54 : decode cX7_dry 54 = .ok (.lload_n 3, 1) := by decide +kernel
theorem dX7_dry_55 : decode cX7_dry 55 = .ok (.l2i, 1) := by decide +kernel
theorem dX7_dry_56 : decode cX7_dry 56 = .ok (.ireturn, 1) := by decide +kernel
theorem dX7_openGates_0 : decode cX7_openGates 0 = .ok (.aload_n 0, 1) := by decide +kernel
theorem dX7_openGates_1 : decode cX7_openGates 1 = .ok (.getfield 69, 3) := by decide +kernel
theorem dX7_openGates_4 : decode cX7_openGates 4 = .ok (.getfield 113, 3) := by decide +kernel
theorem dX7_openGates_7 : decode cX7_openGates 7 = .ok (.aload_n 0, 1) := by decide +kernel
theorem dX7_openGates_8 : decode cX7_openGates 8 = .ok (.getfield 19, 3) := by decide +kernel
theorem dX7_openGates_11 : decode cX7_openGates 11 = .ok (.aload_n 0, 1) := by decide +kernel
theorem dX7_openGates_12 : decode cX7_openGates 12 = .ok (.getfield 69, 3) := by decide +kernel
theorem dX7_openGates_15 : decode cX7_openGates 15 = .ok (.invokevirtual 134, 3) := by decide +kernel
theorem dX7_openGates_18 : decode cX7_openGates 18 = .ok (.invokestatic 243, 3) := by decide +kernel
theorem dX7_openGates_21 : decode cX7_openGates 21 = .ok (.isub, 1) := by decide +kernel
theorem dX7_openGates_22 : decode cX7_openGates 22 = .ok (.ireturn, 1) := by decide +kernel
theorem dX7_wouldRather_0 : decode cX7_wouldRather 0 = .ok (.aload_n 0, 1) := by decide +kernel
theorem dX7_wouldRather_1 : decode cX7_wouldRather 1 = .ok (.getfield 40, 3) := by decide +kernel
theorem dX7_wouldRather_4 : decode cX7_wouldRather 4 = .ok (.getfield 220, 3) := by decide +kernel
theorem dX7_wouldRather_7 : decode cX7_wouldRather 7 = .ok (.iload_n 1, 1) := by decide +kernel
theorem dX7_wouldRather_8 : decode cX7_wouldRather 8 = .ok (.iaload, 1) := by decide +kernel
theorem dX7_wouldRather_9 : decode cX7_wouldRather 9 = .ok (.istore_n 3, 1) := by decide +kernel
theorem dX7_wouldRather_10 : decode cX7_wouldRather 10 = .ok (.iload_n 3, 1) := by decide +kernel
theorem dX7_wouldRather_11 : decode cX7_wouldRather 11 = .ok (.iconst (-1), 1) := by decide +kernel
theorem dX7_wouldRather_12 : decode cX7_wouldRather 12 = .ok (.if_icmp .ne 7, 3) := by decide +kernel
theorem dX7_wouldRather_15 : decode cX7_wouldRather 15 = .ok (.iconst 0, 1) := by decide +kernel
theorem dX7_wouldRather_16 : decode cX7_wouldRather 16 = .ok (.goto 12, 3) := by decide +kernel
theorem dX7_wouldRather_19 : decode cX7_wouldRather 19 = .ok (.aload_n 0, 1) := by decide +kernel
theorem dX7_wouldRather_20 : decode cX7_wouldRather 20 = .ok (.getfield 69, 3) := by decide +kernel
theorem dX7_wouldRather_23 : decode cX7_wouldRather 23 = .ok (.iload_n 1, 1) := by decide +kernel
theorem dX7_wouldRather_24 : decode cX7_wouldRather 24 = .ok (.iload_n 3, 1) := by decide +kernel
theorem dX7_wouldRather_25 : decode cX7_wouldRather 25 = .ok (.invokevirtual 178, 3) := by decide +kernel
theorem dX7_wouldRather_28 : decode cX7_wouldRather 28 = .ok (.istore 4, 2) := by decide +kernel
theorem dX7_wouldRather_30 : decode cX7_wouldRather 30 = .ok (.aload_n 0, 1) := by decide +kernel
theorem dX7_wouldRather_31 : decode cX7_wouldRather 31 = .ok (.getfield 69, 3) := by decide +kernel
theorem dX7_wouldRather_34 : decode cX7_wouldRather 34 = .ok (.iload_n 1, 1) := by decide +kernel
theorem dX7_wouldRather_35 : decode cX7_wouldRather 35 = .ok (.iload_n 2, 1) := by decide +kernel
theorem dX7_wouldRather_36 : decode cX7_wouldRather 36 = .ok (.invokevirtual 178, 3) := by decide +kernel
theorem dX7_wouldRather_39 : decode cX7_wouldRather 39 = .ok (.iload 4, 2) := by decide +kernel
theorem dX7_wouldRather_41 : decode cX7_wouldRather 41 = .ok (.if_icmp .le 7, 3) := by decide +kernel
theorem dX7_wouldRather_44 : decode cX7_wouldRather 44 = .ok (.iconst 1, 1) := by decide +kernel
theorem dX7_wouldRather_45 : decode cX7_wouldRather 45 = .ok (.goto 4, 3) := by decide +kernel
theorem dX7_wouldRather_48 : decode cX7_wouldRather 48 = .ok (.iconst 0, 1) := by decide +kernel
theorem dX7_wouldRather_49 : decode cX7_wouldRather 49 = .ok (.ireturn, 1) := by decide +kernel
theorem dX7_oilings_0 : decode cX7_oilings 0 = .ok (.iconst 0, 1) := by decide +kernel
theorem dX7_oilings_1 : decode cX7_oilings 1 = .ok (.istore_n 3, 1) := by decide +kernel
theorem dX7_oilings_2 : decode cX7_oilings 2 = .ok (.aload_n 0, 1) := by decide +kernel
theorem dX7_oilings_3 : decode cX7_oilings 3 = .ok (.getfield 19, 3) := by decide +kernel
theorem dX7_oilings_6 : decode cX7_oilings 6 = .ok (.getfield 157, 3) := by decide +kernel
theorem dX7_oilings_9 : decode cX7_oilings 9 = .ok (.iload_n 1, 1) := by decide +kernel
theorem dX7_oilings_10 : decode cX7_oilings 10 = .ok (.iaload, 1) := by decide +kernel
theorem dX7_oilings_11 : decode cX7_oilings 11 = .ok (.istore 4, 2) := by decide +kernel
theorem dX7_oilings_13 : decode cX7_oilings 13 = .ok (.iconst 0, 1) := by decide +kernel
theorem dX7_oilings_14 : decode cX7_oilings 14 = .ok (.istore 5, 2) := by decide +kernel
theorem dX7_oilings_16 : decode cX7_oilings 16 = .ok (.iload 5, 2) := by decide +kernel
theorem dX7_oilings_18 : decode cX7_oilings 18 = .ok (.iload_n 2, 1) := by decide +kernel
theorem dX7_oilings_19 : decode cX7_oilings 19 = .ok (.if_icmp .ge 32, 3) := by decide +kernel
theorem dX7_oilings_22 : decode cX7_oilings 22 = .ok (.iload 4, 2) := by decide +kernel
theorem dX7_oilings_24 : decode cX7_oilings 24 = .ok (.aload_n 0, 1) := by decide +kernel
theorem dX7_oilings_25 : decode cX7_oilings 25 = .ok (.getfield 69, 3) := by decide +kernel
theorem dX7_oilings_28 : decode cX7_oilings 28 = .ok (.getfield 154, 3) := by decide +kernel
theorem dX7_oilings_31 : decode cX7_oilings 31 = .ok (.iload_n 1, 1) := by decide +kernel
theorem dX7_oilings_32 : decode cX7_oilings 32 = .ok (.iaload, 1) := by decide +kernel
theorem dX7_oilings_33 : decode cX7_oilings 33 = .ok (.if_icmp .lt 9, 3) := by decide +kernel
theorem dX7_oilings_36 : decode cX7_oilings 36 = .ok (.iinc 3 1, 3) := by decide +kernel
theorem dX7_oilings_39 : decode cX7_oilings 39 = .ok (.iconst 0, 1) := by decide +kernel
theorem dX7_oilings_40 : decode cX7_oilings 40 = .ok (.istore 4, 2) := by decide +kernel
theorem dX7_oilings_42 : decode cX7_oilings 42 = .ok (.iinc 4 1, 3) := by decide +kernel
theorem dX7_oilings_45 : decode cX7_oilings 45 = .ok (.iinc 5 1, 3) := by decide +kernel
theorem dX7_oilings_48 : decode cX7_oilings 48 = .ok (.goto (-32), 3) := by decide +kernel
theorem dX7_oilings_51 : decode cX7_oilings 51 = .ok (.iload_n 3, 1) := by decide +kernel
theorem dX7_oilings_52 : decode cX7_oilings 52 = .ok (.ireturn, 1) := by decide +kernel
theorem dX7_ill_0 : decode cX7_ill 0 = .ok (.aload_n 0, 1) := by decide +kernel
theorem dX7_ill_1 : decode cX7_ill 1 = .ok (.getfield 69, 3) := by decide +kernel
theorem dX7_ill_4 : decode cX7_ill 4 = .ok (.iload_n 1, 1) := by decide +kernel
theorem dX7_ill_5 : decode cX7_ill 5 = .ok (.invokevirtual 168, 3) := by decide +kernel
theorem dX7_ill_8 : decode cX7_ill 8 = .ok (.ifCond .ne 6, 3) := by decide +kernel
theorem dX7_ill_11 : decode cX7_ill 11 = .ok (.ldc 153, 2) := by decide +kernel
theorem dX7_ill_13 : decode cX7_ill 13 = .ok (.ireturn, 1) := by decide +kernel
theorem dX7_ill_14 : decode cX7_ill 14 = .ok (.aload_n 0, 1) := by decide +kernel
theorem dX7_ill_15 : decode cX7_ill 15 = .ok (.getfield 33, 3) := by decide +kernel
theorem dX7_ill_18 : decode cX7_ill 18 = .ok (.getfield 140, 3) := by decide +kernel
theorem dX7_ill_21 : decode cX7_ill 21 = .ok (.bipush 6, 2) := by decide +kernel
theorem dX7_ill_23 : decode cX7_ill 23 = .ok (.if_icmp .lt 6, 3) := by decide +kernel
theorem dX7_ill_26 : decode cX7_ill 26 = .ok (.ldc 94, 2) := by decide +kernel
theorem dX7_ill_28 : decode cX7_ill 28 = .ok (.ireturn, 1) := by decide +kernel
theorem dX7_ill_29 : decode cX7_ill 29 = .ok (.aload_n 0, 1) := by decide +kernel
theorem dX7_ill_30 : decode cX7_ill 30 = .ok (.getfield 33, 3) := by decide +kernel
theorem dX7_ill_33 : decode cX7_ill 33 = .ok (.iload_n 1, 1) := by decide +kernel
theorem dX7_ill_34 : decode cX7_ill 34 = .ok (.iload_n 2, 1) := by decide +kernel
theorem dX7_ill_35 : decode cX7_ill 35 = .ok (.invokevirtual 257, 3) := by decide +kernel
theorem dX7_ill_38 : decode cX7_ill 38 = .ok (.ireturn, 1) := by decide +kernel
theorem dX7_mayBe_0 : decode cX7_mayBe 0 = .ok (.iconst 0, 1) := by decide +kernel
theorem dX7_mayBe_1 : decode cX7_mayBe 1 = .ok (.istore_n 1, 1) := by decide +kernel
theorem dX7_mayBe_2 : decode cX7_mayBe 2 = .ok (.iconst 0, 1) := by decide +kernel
theorem dX7_mayBe_3 : decode cX7_mayBe 3 = .ok (.istore_n 2, 1) := by decide +kernel
theorem dX7_mayBe_4 : decode cX7_mayBe 4 = .ok (.iload_n 2, 1) := by decide +kernel
theorem dX7_mayBe_5 : decode cX7_mayBe 5 = .ok (.aload_n 0, 1) := by decide +kernel
theorem dX7_mayBe_6 : decode cX7_mayBe 6 = .ok (.getfield 69, 3) := by decide +kernel
theorem dX7_mayBe_9 : decode cX7_mayBe 9 = .ok (.getfield 110, 3) := by decide +kernel
theorem dX7_mayBe_12 : decode cX7_mayBe 12 = .ok (.if_icmp .ge 33, 3) := by decide +kernel
theorem dX7_mayBe_15 : decode cX7_mayBe 15 = .ok (.aload_n 0, 1) := by decide +kernel
theorem dX7_mayBe_16 : decode cX7_mayBe 16 = .ok (.getfield 33, 3) := by decide +kernel
theorem dX7_mayBe_19 : decode cX7_mayBe 19 = .ok (.aload_n 0, 1) := by decide +kernel
theorem dX7_mayBe_20 : decode cX7_mayBe 20 = .ok (.getfield 19, 3) := by decide +kernel
theorem dX7_mayBe_23 : decode cX7_mayBe 23 = .ok (.iload_n 2, 1) := by decide +kernel
theorem dX7_mayBe_24 : decode cX7_mayBe 24 = .ok (.invokevirtual 237, 3) := by decide +kernel
theorem dX7_mayBe_27 : decode cX7_mayBe 27 = .ok (.invokevirtual 261, 3) := by decide +kernel
theorem dX7_mayBe_30 : decode cX7_mayBe 30 = .ok (.ifCond .eq 9, 3) := by decide +kernel
theorem dX7_mayBe_33 : decode cX7_mayBe 33 = .ok (.iload_n 1, 1) := by decide +kernel
theorem dX7_mayBe_34 : decode cX7_mayBe 34 = .ok (.iconst 1, 1) := by decide +kernel
theorem dX7_mayBe_35 : decode cX7_mayBe 35 = .ok (.iload_n 2, 1) := by decide +kernel
theorem dX7_mayBe_36 : decode cX7_mayBe 36 = .ok (.ishl, 1) := by decide +kernel
theorem dX7_mayBe_37 : decode cX7_mayBe 37 = .ok (.ior, 1) := by decide +kernel
theorem dX7_mayBe_38 : decode cX7_mayBe 38 = .ok (.istore_n 1, 1) := by decide +kernel
theorem dX7_mayBe_39 : decode cX7_mayBe 39 = .ok (.iinc 2 1, 3) := by decide +kernel
theorem dX7_mayBe_42 : decode cX7_mayBe 42 = .ok (.goto (-38), 3) := by decide +kernel
theorem dX7_mayBe_45 : decode cX7_mayBe 45 = .ok (.iload_n 1, 1) := by decide +kernel
theorem dX7_mayBe_46 : decode cX7_mayBe 46 = .ok (.ireturn, 1) := by decide +kernel
theorem dX7_ask_0 : decode cX7_ask 0 = .ok (.aload_n 0, 1) := by decide +kernel
theorem dX7_ask_1 : decode cX7_ask 1 = .ok (.invokevirtual 264, 3) := by decide +kernel
theorem dX7_ask_4 : decode cX7_ask 4 = .ok (.istore_n 1, 1) := by decide +kernel
theorem dX7_ask_5 : decode cX7_ask 5 = .ok (.iconst 0, 1) := by decide +kernel
theorem dX7_ask_6 : decode cX7_ask 6 = .ok (.istore_n 2, 1) := by decide +kernel
theorem dX7_ask_7 : decode cX7_ask 7 = .ok (.iload_n 2, 1) := by decide +kernel
theorem dX7_ask_8 : decode cX7_ask 8 = .ok (.aload_n 0, 1) := by decide +kernel
theorem dX7_ask_9 : decode cX7_ask 9 = .ok (.getfield 69, 3) := by decide +kernel
theorem dX7_ask_12 : decode cX7_ask 12 = .ok (.getfield 110, 3) := by decide +kernel
theorem dX7_ask_15 : decode cX7_ask 15 = .ok (.if_icmp .ge 23, 3) := by decide +kernel
theorem dX7_ask_18 : decode cX7_ask 18 = .ok (.aload_n 0, 1) := by decide +kernel
theorem dX7_ask_19 : decode cX7_ask 19 = .ok (.getfield 63, 3) := by decide +kernel
theorem dX7_ask_22 : decode cX7_ask 22 = .ok (.iload_n 2, 1) := by decide +kernel
theorem dX7_ask_23 : decode cX7_ask 23 = .ok (.aload_n 0, 1) := by decide +kernel
theorem dX7_ask_24 : decode cX7_ask 24 = .ok (.getfield 19, 3) := by decide +kernel
theorem dX7_ask_27 : decode cX7_ask 27 = .ok (.iload_n 2, 1) := by decide +kernel
theorem dX7_ask_28 : decode cX7_ask 28 = .ok (.invokevirtual 237, 3) := by decide +kernel
theorem dX7_ask_31 : decode cX7_ask 31 = .ok (.iastore, 1) := by decide +kernel
theorem dX7_ask_32 : decode cX7_ask 32 = .ok (.iinc 2 1, 3) := by decide +kernel
theorem dX7_ask_35 : decode cX7_ask 35 = .ok (.goto (-28), 3) := by decide +kernel
theorem dX7_ask_38 : decode cX7_ask 38 = .ok (.iconst (-1), 1) := by decide +kernel
theorem dX7_ask_39 : decode cX7_ask 39 = .ok (.istore_n 2, 1) := by decide +kernel
theorem dX7_ask_40 : decode cX7_ask 40 = .ok (.iload_n 1, 1) := by decide +kernel
theorem dX7_ask_41 : decode cX7_ask 41 = .ok (.invokestatic 243, 3) := by decide +kernel
theorem dX7_ask_44 : decode cX7_ask 44 = .ok (.istore_n 3, 1) := by decide +kernel
theorem dX7_ask_45 : decode cX7_ask 45 = .ok (.iconst 0, 1) := by decide +kernel
theorem dX7_ask_46 : decode cX7_ask 46 = .ok (.istore 4, 2) := by decide +kernel
theorem dX7_ask_48 : decode cX7_ask 48 = .ok (.iload 4, 2) := by decide +kernel
theorem dX7_ask_50 : decode cX7_ask 50 = .ok (.aload_n 0, 1) := by decide +kernel
theorem dX7_ask_51 : decode cX7_ask 51 = .ok (.getfield 69, 3) := by decide +kernel
theorem dX7_ask_54 : decode cX7_ask 54 = .ok (.getfield 110, 3) := by decide +kernel
theorem dX7_ask_57 : decode cX7_ask 57 = .ok (.if_icmp .ge 30, 3) := by decide +kernel
theorem dX7_ask_60 : decode cX7_ask 60 = .ok (.aload_n 0, 1) := by decide +kernel
theorem dX7_ask_61 : decode cX7_ask 61 = .ok (.iload_n 1, 1) := by decide +kernel
theorem dX7_ask_62 : decode cX7_ask 62 = .ok (.iload 4, 2) := by decide +kernel
theorem dX7_ask_64 : decode cX7_ask 64 = .ok (.invokevirtual 267, 3) := by decide +kernel
theorem dX7_ask_67 : decode cX7_ask 67 = .ok (.istore 5, 2) := by decide +kernel
theorem dX7_ask_69 : decode cX7_ask 69 = .ok (.iload 5, 2) := by decide +kernel
theorem dX7_ask_71 : decode cX7_ask 71 = .ok (.iload_n 3, 1) := by decide +kernel
theorem dX7_ask_72 : decode cX7_ask 72 = .ok (.if_icmp .ge 9, 3) := by decide +kernel
theorem dX7_ask_75 : decode cX7_ask 75 = .ok (.iload 4, 2) := by decide +kernel
theorem dX7_ask_77 : decode cX7_ask 77 = .ok (.istore_n 2, 1) := by decide +kernel
theorem dX7_ask_78 : decode cX7_ask 78 = .ok (.iload 5, 2) := by decide +kernel
theorem dX7_ask_80 : decode cX7_ask 80 = .ok (.istore_n 3, 1) := by decide +kernel
theorem dX7_ask_81 : decode cX7_ask 81 = .ok (.iinc 4 1, 3) := by decide +kernel
theorem dX7_ask_84 : decode cX7_ask 84 = .ok (.goto (-36), 3) := by decide +kernel
theorem dX7_ask_87 : decode cX7_ask 87 = .ok (.iload_n 2, 1) := by decide +kernel
theorem dX7_ask_88 : decode cX7_ask 88 = .ok (.ireturn, 1) := by decide +kernel
theorem dX7_write_0 : decode cX7_write 0 = .ok (.aload_n 0, 1) := by decide +kernel
theorem dX7_write_1 : decode cX7_write 1 = .ok (.getfield 69, 3) := by decide +kernel
theorem dX7_write_4 : decode cX7_write 4 = .ok (.iload_n 1, 1) := by decide +kernel
theorem dX7_write_5 : decode cX7_write 5 = .ok (.invokevirtual 168, 3) := by decide +kernel
theorem dX7_write_8 : decode cX7_write 8 = .ok (.ifCond .ne 6, 3) := by decide +kernel
theorem dX7_write_11 : decode cX7_write 11 = .ok (.ldc 153, 2) := by decide +kernel
theorem dX7_write_13 : decode cX7_write 13 = .ok (.ireturn, 1) := by decide +kernel
theorem dX7_write_14 : decode cX7_write 14 = .ok (.iload_n 2, 1) := by decide +kernel
theorem dX7_write_15 : decode cX7_write 15 = .ok (.ifCond .eq 11, 3) := by decide +kernel
theorem dX7_write_18 : decode cX7_write 18 = .ok (.iload_n 2, 1) := by decide +kernel
theorem dX7_write_19 : decode cX7_write 19 = .ok (.iconst 1, 1) := by decide +kernel
theorem dX7_write_20 : decode cX7_write 20 = .ok (.if_icmp .eq 6, 3) := by decide +kernel
theorem dX7_write_23 : decode cX7_write 23 = .ok (.ldc 90, 2) := by decide +kernel
theorem dX7_write_25 : decode cX7_write 25 = .ok (.ireturn, 1) := by decide +kernel
theorem dX7_write_26 : decode cX7_write 26 = .ok (.aload_n 0, 1) := by decide +kernel
theorem dX7_write_27 : decode cX7_write 27 = .ok (.getfield 33, 3) := by decide +kernel
theorem dX7_write_30 : decode cX7_write 30 = .ok (.getfield 143, 3) := by decide +kernel
theorem dX7_write_33 : decode cX7_write 33 = .ok (.bipush 15, 2) := by decide +kernel
theorem dX7_write_35 : decode cX7_write 35 = .ok (.if_icmp .lt 6, 3) := by decide +kernel
theorem dX7_write_38 : decode cX7_write 38 = .ok (.ldc 94, 2) := by decide +kernel
theorem dX7_write_40 : decode cX7_write 40 = .ok (.ireturn, 1) := by decide +kernel
theorem dX7_write_41 : decode cX7_write 41 = .ok (.aload_n 0, 1) := by decide +kernel
theorem dX7_write_42 : decode cX7_write 42 = .ok (.getfield 33, 3) := by decide +kernel
theorem dX7_write_45 : decode cX7_write 45 = .ok (.iload_n 1, 1) := by decide +kernel
theorem dX7_write_46 : decode cX7_write 46 = .ok (.iload_n 2, 1) := by decide +kernel
theorem dX7_write_47 : decode cX7_write 47 = .ok (.invokevirtual 270, 3) := by decide +kernel
theorem dX7_write_50 : decode cX7_write 50 = .ok (.ireturn, 1) := by decide +kernel
theorem dX7_tear_0 : decode cX7_tear 0 = .ok (.aload_n 0, 1) := by decide +kernel
theorem dX7_tear_1 : decode cX7_tear 1 = .ok (.getfield 33, 3) := by decide +kernel
theorem dX7_tear_4 : decode cX7_tear 4 = .ok (.getfield 140, 3) := by decide +kernel
theorem dX7_tear_7 : decode cX7_tear 7 = .ok (.aload_n 0, 1) := by decide +kernel
theorem dX7_tear_8 : decode cX7_tear 8 = .ok (.getfield 33, 3) := by decide +kernel
theorem dX7_tear_11 : decode cX7_tear 11 = .ok (.getfield 143, 3) := by decide +kernel
theorem dX7_tear_14 : decode cX7_tear 14 = .ok (.iadd, 1) := by decide +kernel
theorem dX7_tear_15 : decode cX7_tear 15 = .ok (.istore_n 1, 1) := by decide +kernel
theorem dX7_tear_16 : decode cX7_tear 16 = .ok (.aload_n 0, 1) := by decide +kernel
theorem dX7_tear_17 : decode cX7_tear 17 = .ok (.getfield 33, 3) := by decide +kernel
theorem dX7_tear_20 : decode cX7_tear 20 = .ok (.invokevirtual 109, 3) := by decide +kernel
theorem dX7_tear_23 : decode cX7_tear 23 = .ok (.iload_n 1, 1) := by decide +kernel
theorem dX7_tear_24 : decode cX7_tear 24 = .ok (.ireturn, 1) := by decide +kernel
theorem dX7_judge_0 : decode cX7_judge 0 = .ok (.aload_n 0, 1) := by decide +kernel
theorem dX7_judge_1 : decode cX7_judge 1 = .ok (.getfield 33, 3) := by decide +kernel
theorem dX7_judge_4 : decode cX7_judge 4 = .ok (.aload_n 0, 1) := by decide +kernel
theorem dX7_judge_5 : decode cX7_judge 5 = .ok (.getfield 19, 3) := by decide +kernel
theorem dX7_judge_8 : decode cX7_judge 8 = .ok (.getfield 125, 3) := by decide +kernel
theorem dX7_judge_11 : decode cX7_judge 11 = .ok (.invokevirtual 273, 3) := by decide +kernel
theorem dX7_judge_14 : decode cX7_judge 14 = .ok (.ireturn, 1) := by decide +kernel
theorem dX7_greatestPart_0 : decode cX7_greatestPart 0 = .ok (.iconst 0, 1) := by decide +kernel
theorem dX7_greatestPart_1 : decode cX7_greatestPart 1 = .ok (.istore_n 3, 1) := by decide +kernel
theorem dX7_greatestPart_2 : decode cX7_greatestPart 2 = .ok (.iconst 0, 1) := by decide +kernel
theorem dX7_greatestPart_3 : decode cX7_greatestPart 3 = .ok (.istore 4, 2) := by decide +kernel
theorem dX7_greatestPart_5 : decode cX7_greatestPart 5 = .ok (.iload 4, 2) := by decide +kernel
theorem dX7_greatestPart_7 : decode cX7_greatestPart 7 = .ok (.aload_n 0, 1) := by decide +kernel
theorem dX7_greatestPart_8 : decode cX7_greatestPart 8 = .ok (.getfield 69, 3) := by decide +kernel
theorem dX7_greatestPart_11 : decode cX7_greatestPart 11 = .ok (.getfield 110, 3) := by decide +kernel
theorem dX7_greatestPart_14 : decode cX7_greatestPart 14 = .ok (.if_icmp .ge 37, 3) := by decide +kernel
theorem dX7_greatestPart_17 : decode cX7_greatestPart 17 = .ok (.iload_n 1, 1) := by decide +kernel
theorem dX7_greatestPart_18 : decode cX7_greatestPart 18 = .ok (.iload 4, 2) := by decide +kernel
theorem dX7_greatestPart_20 : decode cX7_greatestPart 20 = .ok (.ishr, 1) := by decide +kernel
theorem dX7_greatestPart_21 : decode cX7_greatestPart 21 = .ok (.iconst 1, 1) := by decide +kernel
theorem dX7_greatestPart_22 : decode cX7_greatestPart 22 = .ok (.iand, 1) := by decide +kernel
theorem dX7_greatestPart_23 : decode cX7_greatestPart 23 = .ok (.iconst 1, 1) := by decide +kernel
theorem dX7_greatestPart_24 : decode cX7_greatestPart 24 = .ok (.if_icmp .ne 21, 3) := by decide +kernel
theorem dX7_greatestPart_27 : decode cX7_greatestPart 27 = .ok (.aload_n 0, 1) := by decide +kernel
theorem dX7_greatestPart_28 : decode cX7_greatestPart 28 = .ok (.getfield 63, 3) := by decide +kernel
theorem dX7_greatestPart_31 : decode cX7_greatestPart 31 = .ok (.iload 4, 2) := by decide +kernel
theorem dX7_greatestPart_33 : decode cX7_greatestPart 33 = .ok (.iaload, 1) := by decide +kernel
theorem dX7_greatestPart_34 : decode cX7_greatestPart 34 = .ok (.iload_n 2, 1) := by decide +kernel
theorem dX7_greatestPart_35 : decode cX7_greatestPart 35 = .ok (.ishr, 1) := by decide +kernel
theorem dX7_greatestPart_36 : decode cX7_greatestPart 36 = .ok (.iconst 1, 1) := by decide +kernel
theorem dX7_greatestPart_37 : decode cX7_greatestPart 37 = .ok (.iand, 1) := by decide +kernel
theorem dX7_greatestPart_38 : decode cX7_greatestPart 38 = .ok (.iconst 1, 1) := by decide +kernel
theorem dX7_greatestPart_39 : decode cX7_greatestPart 39 = .ok (.if_icmp .ne 6, 3) := by decide +kernel
theorem dX7_greatestPart_42 : decode cX7_greatestPart 42 = .ok (.iinc 3 1, 3) := by decide +kernel
theorem dX7_greatestPart_45 : decode cX7_greatestPart 45 = .ok (.iinc 4 1, 3) := by decide +kernel
theorem dX7_greatestPart_48 : decode cX7_greatestPart 48 = .ok (.goto (-43), 3) := by decide +kernel
theorem dX7_greatestPart_51 : decode cX7_greatestPart 51 = .ok (.iload_n 3, 1) := by decide +kernel
theorem dX7_greatestPart_52 : decode cX7_greatestPart 52 = .ok (.iload_n 1, 1) := by decide +kernel
theorem dX7_greatestPart_53 : decode cX7_greatestPart 53 = .ok (.invokestatic 243, 3) := by decide +kernel
theorem dX7_greatestPart_56 : decode cX7_greatestPart 56 = .ok (.iload_n 3, 1) := by decide +kernel
theorem dX7_greatestPart_57 : decode cX7_greatestPart 57 = .ok (.isub, 1) := by decide +kernel
theorem dX7_greatestPart_58 : decode cX7_greatestPart 58 = .ok (.invokestatic 248, 3) := by decide +kernel
theorem dX7_greatestPart_61 : decode cX7_greatestPart 61 = .ok (.ireturn, 1) := by decide +kernel
theorem dX7_seed_0 : decode cX7_seed 0 = .ok (.iload_n 1, 1) := by decide +kernel
theorem dX7_seed_1 : decode cX7_seed 1 = .ok (.ifCond .ge 6, 3) := by decide +kernel
theorem dX7_seed_4 : decode cX7_seed 4 = .ok (.ldc 90, 2) := by decide +kernel
theorem dX7_seed_6 : decode cX7_seed 6 = .ok (.ireturn, 1) := by decide +kernel
theorem dX7_seed_7 : decode cX7_seed 7 = .ok (.aload_n 0, 1) := by decide +kernel
theorem dX7_seed_8 : decode cX7_seed 8 = .ok (.getfield 87, 3) := by decide +kernel
theorem dX7_seed_11 : decode cX7_seed 11 = .ok (.istore_n 2, 1) := by decide +kernel
theorem dX7_seed_12 : decode cX7_seed 12 = .ok (.aload_n 0, 1) := by decide +kernel
theorem dX7_seed_13 : decode cX7_seed 13 = .ok (.iload_n 1, 1) := by decide +kernel
theorem dX7_seed_14 : decode cX7_seed 14 = .ok (.putfield 87, 3) := by decide +kernel
theorem dX7_seed_17 : decode cX7_seed 17 = .ok (.iload_n 2, 1) := by decide +kernel
theorem dX7_seed_18 : decode cX7_seed 18 = .ok (.ireturn, 1) := by decide +kernel
theorem dX7_keep_0 : decode cX7_keep 0 = .ok (.iload_n 1, 1) := by decide +kernel
theorem dX7_keep_1 : decode cX7_keep 1 = .ok (.ifCond .lt 8, 3) := by decide +kernel
theorem dX7_keep_4 : decode cX7_keep 4 = .ok (.iload_n 1, 1) := by decide +kernel
theorem dX7_keep_5 : decode cX7_keep 5 = .ok (.iconst 2, 1) := by decide +kernel
theorem dX7_keep_6 : decode cX7_keep 6 = .ok (.if_icmp .lt 6, 3) := by decide +kernel
theorem dX7_keep_9 : decode cX7_keep 9 = .ok (.ldc 153, 2) := by decide +kernel
theorem dX7_keep_11 : decode cX7_keep 11 = .ok (.ireturn, 1) := by decide +kernel
theorem dX7_keep_12 : decode cX7_keep 12 = .ok (.aload_n 0, 1) := by decide +kernel
theorem dX7_keep_13 : decode cX7_keep 13 = .ok (.getfield 51, 3) := by decide +kernel
theorem dX7_keep_16 : decode cX7_keep 16 = .ok (.iload_n 1, 1) := by decide +kernel
theorem dX7_keep_17 : decode cX7_keep 17 = .ok (.aaload, 1) := by decide +kernel
theorem dX7_keep_18 : decode cX7_keep 18 = .ok (.aload_n 0, 1) := by decide +kernel
theorem dX7_keep_19 : decode cX7_keep 19 = .ok (.getfield 19, 3) := by decide +kernel
theorem dX7_keep_22 : decode cX7_keep 22 = .ok (.invokevirtual 276, 3) := by decide +kernel
theorem dX7_keep_25 : decode cX7_keep 25 = .ok (.aload_n 0, 1) := by decide +kernel
theorem dX7_keep_26 : decode cX7_keep 26 = .ok (.getfield 59, 3) := by decide +kernel
theorem dX7_keep_29 : decode cX7_keep 29 = .ok (.iload_n 1, 1) := by decide +kernel
theorem dX7_keep_30 : decode cX7_keep 30 = .ok (.aload_n 0, 1) := by decide +kernel
theorem dX7_keep_31 : decode cX7_keep 31 = .ok (.getfield 87, 3) := by decide +kernel
theorem dX7_keep_34 : decode cX7_keep 34 = .ok (.iastore, 1) := by decide +kernel
theorem dX7_keep_35 : decode cX7_keep 35 = .ok (.aload_n 0, 1) := by decide +kernel
theorem dX7_keep_36 : decode cX7_keep 36 = .ok (.getfield 55, 3) := by decide +kernel
theorem dX7_keep_39 : decode cX7_keep 39 = .ok (.iload_n 1, 1) := by decide +kernel
theorem dX7_keep_40 : decode cX7_keep 40 = .ok (.iconst 1, 1) := by decide +kernel
theorem dX7_keep_41 : decode cX7_keep 41 = .ok (.bastore, 1) := by decide +kernel
theorem dX7_keep_42 : decode cX7_keep 42 = .ok (.aload_n 0, 1) := by decide +kernel
theorem dX7_keep_43 : decode cX7_keep 43 = .ok (.getfield 26, 3) := by decide +kernel
theorem dX7_keep_46 : decode cX7_keep 46 = .ok (.invokevirtual 106, 3) := by decide +kernel
theorem dX7_keep_49 : decode cX7_keep 49 = .ok (.iconst 1, 1) := by decide +kernel
theorem dX7_keep_50 : decode cX7_keep 50 = .ok (.ireturn, 1) := by decide +kernel
theorem dX7_goBack_0 : decode cX7_goBack 0 = .ok (.iload_n 1, 1) := by decide +kernel
theorem dX7_goBack_1 : decode cX7_goBack 1 = .ok (.ifCond .lt 8, 3) := by decide +kernel
theorem dX7_goBack_4 : decode cX7_goBack 4 = .ok (.iload_n 1, 1) := by decide +kernel
theorem dX7_goBack_5 : decode cX7_goBack 5 = .ok (.iconst 2, 1) := by decide +kernel
theorem dX7_goBack_6 : decode cX7_goBack 6 = .ok (.if_icmp .lt 6, 3) := by decide +kernel
theorem dX7_goBack_9 : decode cX7_goBack 9 = .ok (.ldc 153, 2) := by decide +kernel
theorem dX7_goBack_11 : decode cX7_goBack 11 = .ok (.ireturn, 1) := by decide +kernel
theorem dX7_goBack_12 : decode cX7_goBack 12 = .ok (.aload_n 0, 1) := by decide +kernel
theorem dX7_goBack_13 : decode cX7_goBack 13 = .ok (.getfield 55, 3) := by decide +kernel
theorem dX7_goBack_16 : decode cX7_goBack 16 = .ok (.iload_n 1, 1) := by decide +kernel
theorem dX7_goBack_17 : decode cX7_goBack 17 = .ok (.baload, 1) := by decide +kernel
theorem dX7_goBack_18 : decode cX7_goBack 18 = .ok (.ifCond .ne 6, 3) := by decide +kernel
theorem dX7_goBack_21 : decode cX7_goBack 21 = .ok (.ldc 194, 2) := by decide +kernel
theorem dX7_goBack_23 : decode cX7_goBack 23 = .ok (.ireturn, 1) := by decide +kernel
theorem dX7_goBack_24 : decode cX7_goBack 24 = .ok (.aload_n 0, 1) := by decide +kernel
theorem dX7_goBack_25 : decode cX7_goBack 25 = .ok (.getfield 19, 3) := by decide +kernel
theorem dX7_goBack_28 : decode cX7_goBack 28 = .ok (.aload_n 0, 1) := by decide +kernel
theorem dX7_goBack_29 : decode cX7_goBack 29 = .ok (.getfield 51, 3) := by decide +kernel
theorem dX7_goBack_32 : decode cX7_goBack 32 = .ok (.iload_n 1, 1) := by decide +kernel
theorem dX7_goBack_33 : decode cX7_goBack 33 = .ok (.aaload, 1) := by decide +kernel
theorem dX7_goBack_34 : decode cX7_goBack 34 = .ok (.invokevirtual 276, 3) := by decide +kernel
theorem dX7_goBack_37 : decode cX7_goBack 37 = .ok (.aload_n 0, 1) := by decide +kernel
theorem dX7_goBack_38 : decode cX7_goBack 38 = .ok (.aload_n 0, 1) := by decide +kernel
theorem dX7_goBack_39 : decode cX7_goBack 39 = .ok (.getfield 59, 3) := by decide +kernel
theorem dX7_goBack_42 : decode cX7_goBack 42 = .ok (.iload_n 1, 1) := by decide +kernel
theorem dX7_goBack_43 : decode cX7_goBack 43 = .ok (.iaload, 1) := by decide +kernel
theorem dX7_goBack_44 : decode cX7_goBack 44 = .ok (.putfield 87, 3) := by decide +kernel
theorem dX7_goBack_47 : decode cX7_goBack 47 = .ok (.aload_n 0, 1) := by decide +kernel
theorem dX7_goBack_48 : decode cX7_goBack 48 = .ok (.getfield 26, 3) := by decide +kernel
theorem dX7_goBack_51 : decode cX7_goBack 51 = .ok (.invokevirtual 106, 3) := by decide +kernel
theorem dX7_goBack_54 : decode cX7_goBack 54 = .ok (.iconst 1, 1) := by decide +kernel
theorem dX7_goBack_55 : decode cX7_goBack 55 = .ok (.ireturn, 1) := by decide +kernel
theorem dX8_init_0 : decode cX8_init 0 = .ok (.aload_n 0, 1) := by decide +kernel
theorem dX8_init_1 : decode cX8_init 1 = .ok (.invokespecial 1, 3) := by decide +kernel
theorem dX8_init_4 : decode cX8_init 4 = .ok (.aload_n 0, 1) := by decide +kernel
theorem dX8_init_5 : decode cX8_init 5 = .ok (.iconst 5, 1) := by decide +kernel
theorem dX8_init_6 : decode cX8_init 6 = .ok (.newarray .int, 2) := by decide +kernel
theorem dX8_init_8 : decode cX8_init 8 = .ok (.putfield 7, 3) := by decide +kernel
theorem dX8_init_11 : decode cX8_init 11 = .ok (.aload_n 0, 1) := by decide +kernel
theorem dX8_init_12 : decode cX8_init 12 = .ok (.bipush 49, 2) := by decide +kernel
theorem dX8_init_14 : decode cX8_init 14 = .ok (.newarray .int, 2) := by decide +kernel
theorem dX8_init_16 : decode cX8_init 16 = .ok (.putfield 13, 3) := by decide +kernel
theorem dX8_init_19 : decode cX8_init 19 = .ok (.aload_n 0, 1) := by decide +kernel
theorem dX8_init_20 : decode cX8_init 20 = .ok (.bipush 55, 2) := by decide +kernel
theorem dX8_init_22 : decode cX8_init 22 = .ok (.newarray .int, 2) := by decide +kernel
theorem dX8_init_24 : decode cX8_init 24 = .ok (.putfield 16, 3) := by decide +kernel
theorem dX8_init_27 : decode cX8_init 27 = .ok (.aload_n 0, 1) := by decide +kernel
theorem dX8_init_28 : decode cX8_init 28 = .ok (.bipush 21, 2) := by decide +kernel
theorem dX8_init_30 : decode cX8_init 30 = .ok (.newarray .int, 2) := by decide +kernel
theorem dX8_init_32 : decode cX8_init 32 = .ok (.putfield 19, 3) := by decide +kernel
theorem dX8_init_35 : decode cX8_init 35 = .ok (.aload_n 0, 1) := by decide +kernel
theorem dX8_init_36 : decode cX8_init 36 = .ok (.bipush 21, 2) := by decide +kernel
theorem dX8_init_38 : decode cX8_init 38 = .ok (.newarray .int, 2) := by decide +kernel
theorem dX8_init_40 : decode cX8_init 40 = .ok (.putfield 22, 3) := by decide +kernel
theorem dX8_init_43 : decode cX8_init 43 = .ok (.aload_n 0, 1) := by decide +kernel
theorem dX8_init_44 : decode cX8_init 44 = .ok (.sipush 240, 3) := by decide +kernel
theorem dX8_init_47 : decode cX8_init 47 = .ok (.newarray .int, 2) := by decide +kernel
theorem dX8_init_49 : decode cX8_init 49 = .ok (.putfield 25, 3) := by decide +kernel
theorem dX8_init_52 : decode cX8_init 52 = .ok (.aload_n 0, 1) := by decide +kernel
theorem dX8_init_53 : decode cX8_init 53 = .ok (.iconst (-1), 1) := by decide +kernel
theorem dX8_init_54 : decode cX8_init 54 = .ok (.putfield 28, 3) := by decide +kernel
theorem dX8_init_57 : decode cX8_init 57 = .ok (.aload_n 0, 1) := by decide +kernel
theorem dX8_init_58 : decode cX8_init 58 = .ok (.iconst 5, 1) := by decide +kernel
theorem dX8_init_59 : decode cX8_init 59 = .ok (.newarray .int, 2) := by decide +kernel
theorem dX8_init_61 : decode cX8_init 61 = .ok (.putfield 32, 3) := by decide +kernel
theorem dX8_init_64 : decode cX8_init 64 = .ok (.aload_n 0, 1) := by decide +kernel
theorem dX8_init_65 : decode cX8_init 65 = .ok (.bipush 7, 2) := by decide +kernel
theorem dX8_init_67 : decode cX8_init 67 = .ok (.newarray .int, 2) := by decide +kernel
theorem dX8_init_69 : decode cX8_init 69 = .ok (.putfield 35, 3) := by decide +kernel
theorem dX8_init_72 : decode cX8_init 72 = .ok (.aload_n 0, 1) := by decide +kernel
theorem dX8_init_73 : decode cX8_init 73 = .ok (.bipush 7, 2) := by decide +kernel
theorem dX8_init_75 : decode cX8_init 75 = .ok (.newarray .int, 2) := by decide +kernel
theorem dX8_init_77 : decode cX8_init 77 = .ok (.putfield 38, 3) := by decide +kernel
theorem dX8_init_80 : decode cX8_init 80 = .ok (.aload_n 0, 1) := by decide +kernel
theorem dX8_init_81 : decode cX8_init 81 = .ok (.bipush 49, 2) := by decide +kernel
theorem dX8_init_83 : decode cX8_init 83 = .ok (.newarray .int, 2) := by decide +kernel
theorem dX8_init_85 : decode cX8_init 85 = .ok (.putfield 41, 3) := by decide +kernel
theorem dX8_init_88 : decode cX8_init 88 = .ok (.aload_n 0, 1) := by decide +kernel
theorem dX8_init_89 : decode cX8_init 89 = .ok (.sipush 1100, 3) := by decide +kernel
theorem dX8_init_92 : decode cX8_init 92 = .ok (.newarray .int, 2) := by decide +kernel
theorem dX8_init_94 : decode cX8_init 94 = .ok (.putfield 44, 3) := by decide +kernel
theorem dX8_init_97 : decode cX8_init 97 = .ok (.aload_n 0, 1) := by decide +kernel
theorem dX8_init_98 : decode cX8_init 98 = .ok (.iconst 3, 1) := by decide +kernel
theorem dX8_init_99 : decode cX8_init 99 = .ok (.newarray .int, 2) := by decide +kernel
theorem dX8_init_101 : decode cX8_init 101 = .ok (.putfield 47, 3) := by decide +kernel
theorem dX8_init_104 : decode cX8_init 104 = .ok (.aload_n 0, 1) := by decide +kernel
theorem dX8_init_105 : decode cX8_init 105 = .ok (.bipush 7, 2) := by decide +kernel
theorem dX8_init_107 : decode cX8_init 107 = .ok (.newarray .int, 2) := by decide +kernel
theorem dX8_init_109 : decode cX8_init 109 = .ok (.putfield 50, 3) := by decide +kernel
theorem dX8_init_112 : decode cX8_init 112 = .ok (.aload_n 0, 1) := by decide +kernel
theorem dX8_init_113 : decode cX8_init 113 = .ok (.bipush 7, 2) := by decide +kernel
theorem dX8_init_115 : decode cX8_init 115 = .ok (.newarray .int, 2) := by decide +kernel
theorem dX8_init_117 : decode cX8_init 117 = .ok (.putfield 53, 3) := by decide +kernel
theorem dX8_init_120 : decode cX8_init 120 = .ok (.aload_n 0, 1) := by decide +kernel
theorem dX8_init_121 : decode cX8_init 121 = .ok (.sipush 10648, 3) := by decide +kernel
theorem dX8_init_124 : decode cX8_init 124 = .ok (.newarray .int, 2) := by decide +kernel
theorem dX8_init_126 : decode cX8_init 126 = .ok (.putfield 56, 3) := by decide +kernel
theorem dX8_init_129 : decode cX8_init 129 = .ok (.aload_n 0, 1) := by decide +kernel
theorem dX8_init_130 : decode cX8_init 130 = .ok (.sipush 10648, 3) := by decide +kernel
theorem dX8_init_133 : decode cX8_init 133 = .ok (.newarray .int, 2) := by decide +kernel
theorem dX8_init_135 : decode cX8_init 135 = .ok (.putfield 59, 3) := by decide +kernel
theorem dX8_init_138 : decode cX8_init 138 = .ok (.aload_n 0, 1) := by decide +kernel
theorem dX8_init_139 : decode cX8_init 139 = .ok (.sipush 128, 3) := by decide +kernel
theorem dX8_init_142 : decode cX8_init 142 = .ok (.newarray .boolean, 2) := by decide +kernel
theorem dX8_init_144 : decode cX8_init 144 = .ok (.putfield 62, 3) := by decide +kernel
theorem dX8_init_147 : decode cX8_init 147 = .ok (.aload_n 0, 1) := by decide +kernel
theorem dX8_init_148 : decode cX8_init 148 = .ok (.sipush 128, 3) := by decide +kernel
theorem dX8_init_151 : decode cX8_init 151 = .ok (.newarray .boolean, 2) := by decide +kernel
theorem dX8_init_153 : decode cX8_init 153 = .ok (.putfield 66, 3) := by decide +kernel
theorem dX8_init_156 : decode cX8_init 156 = .ok (.aload_n 0, 1) := by decide +kernel
theorem dX8_init_157 : decode cX8_init 157 = .ok (.bipush 6, 2) := by decide +kernel
theorem dX8_init_159 : decode cX8_init 159 = .ok (.newarray .int, 2) := by decide +kernel
theorem dX8_init_161 : decode cX8_init 161 = .ok (.putfield 69, 3) := by decide +kernel
theorem dX8_init_164 : decode cX8_init 164 = .ok (.aload_n 0, 1) := by decide +kernel
theorem dX8_init_165 : decode cX8_init 165 = .ok (.bipush 6, 2) := by decide +kernel
theorem dX8_init_167 : decode cX8_init 167 = .ok (.newarray .boolean, 2) := by decide +kernel
theorem dX8_init_169 : decode cX8_init 169 = .ok (.putfield 72, 3) := by decide +kernel
theorem dX8_init_172 : decode cX8_init 172 = .ok (.aload_n 0, 1) := by decide +kernel
theorem dX8_init_173 : decode cX8_init 173 = .ok (.bipush 15, 2) := by decide +kernel
theorem dX8_init_175 : decode cX8_init 175 = .ok (.newarray .int, 2) := by decide +kernel
theorem dX8_init_177 : decode cX8_init 177 = .ok (.putfield 75, 3) := by decide +kernel
theorem dX8_init_180 : decode cX8_init 180 = .ok (.aload_n 0, 1) := by decide +kernel
theorem dX8_init_181 : decode cX8_init 181 = .ok (.bipush 15, 2) := by decide +kernel
theorem dX8_init_183 : decode cX8_init 183 = .ok (.newarray .int, 2) := by decide +kernel
theorem dX8_init_185 : decode cX8_init 185 = .ok (.putfield 78, 3) := by decide +kernel
theorem dX8_init_188 : decode cX8_init 188 = .ok (.aload_n 0, 1) := by decide +kernel
theorem dX8_init_189 : decode cX8_init 189 = .ok (.bipush 112, 2) := by decide +kernel
theorem dX8_init_191 : decode cX8_init 191 = .ok (.newarray .int, 2) := by decide +kernel
theorem dX8_init_193 : decode cX8_init 193 = .ok (.putfield 81, 3) := by decide +kernel
theorem dX8_init_196 : decode cX8_init 196 = .ok (.aload_n 0, 1) := by decide +kernel
theorem dX8_init_197 : decode cX8_init 197 = .ok (.iconst 2, 1) := by decide +kernel
theorem dX8_init_198 : decode cX8_init 198 = .ok (.newarray .boolean, 2) := by decide +kernel
theorem dX8_init_200 : decode cX8_init 200 = .ok (.putfield 84, 3) := by decide +kernel
theorem dX8_init_203 : decode cX8_init 203 = .ok (.iconst 0, 1) := by decide +kernel
theorem dX8_init_204 : decode cX8_init 204 = .ok (.istore_n 1, 1) := by decide +kernel
theorem dX8_init_205 : decode cX8_init 205 = .ok (.iconst 0, 1) := by decide +kernel
theorem dX8_init_206 : decode cX8_init 206 = .ok (.istore_n 2, 1) := by decide +kernel
theorem dX8_init_207 : decode cX8_init 207 = .ok (.iload_n 2, 1) := by decide +kernel
theorem dX8_init_208 : decode cX8_init 208 = .ok (.bipush 49, 2) := by decide +kernel
theorem dX8_init_210 : decode cX8_init 210 = .ok (.if_icmp .ge 43, 3) := by decide +kernel
theorem dX8_init_213 : decode cX8_init 213 = .ok (.iload_n 2, 1) := by decide +kernel
theorem dX8_init_214 : decode cX8_init 214 = .ok (.bipush 7, 2) := by decide +kernel
theorem dX8_init_216 : decode cX8_init 216 = .ok (.idiv, 1) := by decide +kernel
theorem dX8_init_217 : decode cX8_init 217 = .ok (.iload_n 2, 1) := by decide +kernel
theorem dX8_init_218 : decode cX8_init 218 = .ok (.bipush 7, 2) := by decide +kernel
theorem dX8_init_220 : decode cX8_init 220 = .ok (.irem, 1) := by decide +kernel
theorem dX8_init_221 : decode cX8_init 221 = .ok (.if_icmp .ge 26, 3) := by decide +kernel
theorem dX8_init_224 : decode cX8_init 224 = .ok (.aload_n 0, 1) := by decide +kernel
theorem dX8_init_225 : decode cX8_init 225 = .ok (.getfield 19, 3) := by decide +kernel
theorem dX8_init_228 : decode cX8_init 228 = .ok (.iload_n 1, 1) := by decide +kernel
theorem dX8_init_229 : decode cX8_init 229 = .ok (.iload_n 2, 1) := by decide +kernel
theorem dX8_init_230 : decode cX8_init 230 = .ok (.bipush 7, 2) := by decide +kernel
theorem dX8_init_232 : decode cX8_init 232 = .ok (.idiv, 1) := by decide +kernel
theorem dX8_init_233 : decode cX8_init 233 = .ok (.iastore, 1) := by decide +kernel
theorem dX8_init_234 : decode cX8_init 234 = .ok (.aload_n 0, 1) := by decide +kernel
theorem dX8_init_235 : decode cX8_init 235 = .ok (.getfield 22, 3) := by decide +kernel
theorem dX8_init_238 : decode cX8_init 238 = .ok (.iload_n 1, 1) := by decide +kernel
theorem dX8_init_239 : decode cX8_init 239 = .ok (.iload_n 2, 1) := by decide +kernel
theorem dX8_init_240 : decode cX8_init 240 = .ok (.bipush 7, 2) := by decide +kernel
theorem dX8_init_242 : decode cX8_init 242 = .ok (.irem, 1) := by decide +kernel
theorem dX8_init_243 : decode cX8_init 243 = .ok (.iastore, 1) := by decide +kernel
theorem dX8_init_244 : decode cX8_init 244 = .ok (.iinc 1 1, 3) := by decide +kernel
theorem dX8_init_247 : decode cX8_init 247 = .ok (.iinc 2 1, 3) := by decide +kernel
theorem dX8_init_250 : decode cX8_init 250 = .ok (.goto (-43), 3) := by decide +kernel
theorem dX8_init_253 : decode cX8_init 253 = .ok (.iconst 0, 1) := by decide +kernel
theorem dX8_init_254 : decode cX8_init 254 = .ok (.istore_n 2, 1) := by decide +kernel
theorem dX8_init_255 : decode cX8_init 255 = .ok (.iload_n 2, 1) := by decide +kernel
theorem dX8_init_256 : decode cX8_init 256 = .ok (.bipush 7, 2) := by decide +kernel
theorem dX8_init_258 : decode cX8_init 258 = .ok (.if_icmp .ge 19, 3) := by decide +kernel
theorem dX8_init_261 : decode cX8_init 261 = .ok (.aload_n 0, 1) := by decide +kernel
theorem dX8_init_262 : decode cX8_init 262 = .ok (.getfield 16, 3) := by decide +kernel
theorem dX8_init_265 : decode cX8_init 265 = .ok (.bipush 7, 2) := by decide +kernel
theorem dX8_init_267 : decode cX8_init 267 = .ok (.iload_n 2, 1) := by decide +kernel
theorem dX8_init_268 : decode cX8_init 268 = .ok (.iadd, 1) := by decide +kernel
theorem dX8_init_269 : decode cX8_init 269 = .ok (.iconst (-1), 1) := by decide +kernel
theorem dX8_init_270 : decode cX8_init 270 = .ok (.iastore, 1) := by decide +kernel
theorem dX8_init_271 : decode cX8_init 271 = .ok (.iinc 2 1, 3) := by decide +kernel
theorem dX8_init_274 : decode cX8_init 274 = .ok (.goto (-19), 3) := by decide +kernel
theorem dX8_init_277 : decode cX8_init 277 = .ok (.return_, 1) := by decide +kernel
theorem dX8_in_0 : decode cX8_in 0 = .ok (.lload_n 0, 1) := by decide +kernel
theorem dX8_in_1 : decode cX8_in 1 = .ok (.lload_n 2, 1) := by decide +kernel
theorem dX8_in_2 : decode cX8_in 2 = .ok (.lcmp, 1) := by decide +kernel
theorem dX8_in_3 : decode cX8_in 3 = .ok (.ifCond .lt 14, 3) := by decide +kernel
theorem dX8_in_6 : decode cX8_in 6 = .ok (.lload_n 0, 1) := by decide +kernel
theorem dX8_in_7 : decode cX8_in 7 = .ok (.lload 4, 2) := by decide +kernel
theorem dX8_in_9 : decode cX8_in 9 = .ok (.lcmp, 1) := by decide +kernel
theorem dX8_in_10 : decode cX8_in 10 = .ok (.ifCond .gt 7, 3) := by decide +kernel
theorem dX8_in_13 : decode cX8_in 13 = .ok (.iconst 1, 1) := by decide +kernel
theorem dX8_in_14 : decode cX8_in 14 = .ok (.goto 4, 3) := by decide +kernel
theorem dX8_in_17 : decode cX8_in 17 = .ok (.iconst 0, 1) := by decide +kernel
theorem dX8_in_18 : decode cX8_in 18 = .ok (.ireturn, 1) := by decide +kernel
theorem dX8_has_0 : decode cX8_has 0 = .ok (.iload_n 0, 1) := by decide +kernel
theorem dX8_has_1 : decode cX8_has 1 = .ok (.iload_n 1, 1) := by decide +kernel
theorem dX8_has_2 : decode cX8_has 2 = .ok (.ishr, 1) := by decide +kernel
theorem dX8_has_3 : decode cX8_has 3 = .ok (.iconst 1, 1) := by decide +kernel
theorem dX8_has_4 : decode cX8_has 4 = .ok (.iand, 1) := by decide +kernel
theorem dX8_has_5 : decode cX8_has 5 = .ok (.iconst 1, 1) := by decide +kernel
theorem dX8_has_6 : decode cX8_has 6 = .ok (.if_icmp .ne 7, 3) := by decide +kernel
theorem dX8_has_9 : decode cX8_has 9 = .ok (.iconst 1, 1) := by decide +kernel
theorem dX8_has_10 : decode cX8_has 10 = .ok (.goto 4, 3) := by decide +kernel
theorem dX8_has_13 : decode cX8_has 13 = .ok (.iconst 0, 1) := by decide +kernel
theorem dX8_has_14 : decode cX8_has 14 = .ok (.ireturn, 1) := by decide +kernel
theorem dX8_bits_0 : decode cX8_bits 0 = .ok (.iconst 0, 1) := by decide +kernel
theorem dX8_bits_1 : decode cX8_bits 1 = .ok (.istore_n 1, 1) := by decide +kernel
theorem dX8_bits_2 : decode cX8_bits 2 = .ok (.iconst 0, 1) := by decide +kernel
theorem dX8_bits_3 : decode cX8_bits 3 = .ok (.istore_n 2, 1) := by decide +kernel
theorem dX8_bits_4 : decode cX8_bits 4 = .ok (.iload_n 2, 1) := by decide +kernel
theorem dX8_bits_5 : decode cX8_bits 5 = .ok (.bipush 7, 2) := by decide +kernel
theorem dX8_bits_7 : decode cX8_bits 7 = .ok (.if_icmp .ge 17, 3) := by decide +kernel
theorem dX8_bits_10 : decode cX8_bits 10 = .ok (.iload_n 1, 1) := by decide +kernel
theorem dX8_bits_11 : decode cX8_bits 11 = .ok (.iload_n 0, 1) := by decide +kernel
theorem dX8_bits_12 : decode cX8_bits 12 = .ok (.iload_n 2, 1) := by decide +kernel
theorem dX8_bits_13 : decode cX8_bits 13 = .ok (.ishr, 1) := by decide +kernel
theorem dX8_bits_14 : decode cX8_bits 14 = .ok (.iconst 1, 1) := by decide +kernel
theorem dX8_bits_15 : decode cX8_bits 15 = .ok (.iand, 1) := by decide +kernel
theorem dX8_bits_16 : decode cX8_bits 16 = .ok (.iadd, 1) := by decide +kernel
theorem dX8_bits_17 : decode cX8_bits 17 = .ok (.istore_n 1, 1) := by decide +kernel
theorem dX8_bits_18 : decode cX8_bits 18 = .ok (.iinc 2 1, 3) := by decide +kernel
theorem dX8_bits_21 : decode cX8_bits 21 = .ok (.goto (-17), 3) := by decide +kernel
theorem dX8_bits_24 : decode cX8_bits 24 = .ok (.iload_n 1, 1) := by decide +kernel
theorem dX8_bits_25 : decode cX8_bits 25 = .ok (.ireturn, 1) := by decide +kernel
theorem dX8_isGate_0 : decode cX8_isGate 0 = .ok (.iload_n 1, 1) := by decide +kernel
theorem dX8_isGate_1 : decode cX8_isGate 1 = .ok (.i2l, 1) := by decide +kernel
theorem dX8_isGate_2 : decode cX8_isGate 2 = .ok (.lconst 0, 1) := by decide +kernel
theorem dX8_isGate_3 : decode cX8_isGate 3 = .ok (.aload_n 0, 1) := by decide +kernel
theorem dX8_isGate_4 : decode cX8_isGate 4 = .ok (.getfield 87, 3) := by decide +kernel
theorem dX8_isGate_7 : decode cX8_isGate 7 = .ok (.iconst 1, 1) := by decide +kernel
theorem dX8_isGate_8 : decode cX8_isGate 8 = .ok (.isub, 1) := by decide +kernel
theorem dX8_isGate_9 : decode cX8_isGate 9 = .ok (.i2l, 1) := by decide +kernel
theorem dX8_isGate_10 : decode cX8_isGate 10 = .ok (.invokestatic 90, 3) := by decide +kernel
theorem dX8_isGate_13 : decode cX8_isGate 13 = .ok (.ireturn, 1) := by decide +kernel
theorem dX8_isPerson_0 : decode cX8_isPerson 0 = .ok (.iload_n 1, 1) := by decide +kernel
theorem dX8_isPerson_1 : decode cX8_isPerson 1 = .ok (.i2l, 1) := by decide +kernel
theorem dX8_isPerson_2 : decode cX8_isPerson 2 = .ok (.lconst 0, 1) := by decide +kernel
theorem dX8_isPerson_3 : decode cX8_isPerson 3 = .ok (.aload_n 0, 1) := by decide +kernel
theorem dX8_isPerson_4 : decode cX8_isPerson 4 = .ok (.getfield 94, 3) := by decide +kernel
theorem dX8_isPerson_7 : decode cX8_isPerson 7 = .ok (.iconst 1, 1) := by decide +kernel
theorem dX8_isPerson_8 : decode cX8_isPerson 8 = .ok (.isub, 1) := by decide +kernel
theorem dX8_isPerson_9 : decode cX8_isPerson 9 = .ok (.i2l, 1) := by decide +kernel
theorem dX8_isPerson_10 : decode cX8_isPerson 10 = .ok (.invokestatic 90, 3) := by decide +kernel
theorem dX8_isPerson_13 : decode cX8_isPerson 13 = .ok (.ireturn, 1) := by decide +kernel
theorem dX8_isSet_0 : decode cX8_isSet 0 = .ok (.iload_n 1, 1) := by decide +kernel
theorem dX8_isSet_1 : decode cX8_isSet 1 = .ok (.i2l, 1) := by decide +kernel
theorem dX8_isSet_2 : decode cX8_isSet 2 = .ok (.lconst 0, 1) := by decide +kernel
theorem dX8_isSet_3 : decode cX8_isSet 3 = .ok (.iconst 1, 1) := by decide +kernel
theorem dX8_isSet_4 : decode cX8_isSet 4 = .ok (.aload_n 0, 1) := by decide +kernel
theorem dX8_isSet_5 : decode cX8_isSet 5 = .ok (.getfield 94, 3) := by decide +kernel
theorem dX8_isSet_8 : decode cX8_isSet 8 = .ok (.ishl, 1) := by decide +kernel
theorem dX8_isSet_9 : decode cX8_isSet 9 = .ok (.iconst 1, 1) := by decide +kernel
theorem dX8_isSet_10 : decode cX8_isSet 10 = .ok (.isub, 1) := by decide +kernel
theorem dX8_isSet_11 : decode cX8_isSet 11 = .ok (.i2l, 1) := by decide +kernel
theorem dX8_isSet_12 : decode cX8_isSet 12 = .ok (.invokestatic 90, 3) := by decide +kernel
theorem dX8_isSet_15 : decode cX8_isSet 15 = .ok (.ireturn, 1) := by decide +kernel
theorem dX8_feed_0 : decode cX8_feed 0 = .ok (.iload_n 1, 1) := by decide +kernel
theorem dX8_feed_1 : decode cX8_feed 1 = .ok (.i2l, 1) := by decide +kernel
theorem dX8_feed_2 : decode cX8_feed 2 = .ok (.lconst 0, 1) := by decide +kernel
theorem dX8_feed_3 : decode cX8_feed 3 = .ok (.ldc2_w 97, 3) := by decide +kernel
theorem dX8_feed_6 : decode cX8_feed 6 = .ok (.invokestatic 90, 3) := by decide +kernel
theorem dX8_feed_9 : decode cX8_feed 9 = .ok (.ifCond .ne 6, 3) := by decide +kernel
theorem dX8_feed_12 : decode cX8_feed 12 = .ok (.ldc 99, 2) := by decide +kernel
theorem dX8_feed_14 : decode cX8_feed 14 = .ok (.ireturn, 1) := by decide +kernel
theorem dX8_feed_15 : decode cX8_feed 15 = .ok (.aload_n 0, 1) := by decide +kernel
theorem dX8_feed_16 : decode cX8_feed 16 = .ok (.getfield 100, 3) := by decide +kernel
theorem dX8_feed_19 : decode cX8_feed 19 = .ok (.sipush 240, 3) := by decide +kernel
theorem dX8_feed_22 : decode cX8_feed 22 = .ok (.if_icmp .ne 6, 3) := by decide +kernel
theorem dX8_feed_25 : decode cX8_feed 25 = .ok (.ldc 103, 2) := by decide +kernel
theorem dX8_feed_27 : decode cX8_feed 27 = .ok (.ireturn, 1) := by decide +kernel
theorem dX8_feed_28 : decode cX8_feed 28 = .ok (.aload_n 0, 1) := by decide +kernel
theorem dX8_feed_29 : decode cX8_feed 29 = .ok (.getfield 25, 3) := by decide +kernel
theorem dX8_feed_32 : decode cX8_feed 32 = .ok (.aload_n 0, 1) := by decide +kernel
theorem dX8_feed_33 : decode cX8_feed 33 = .ok (.getfield 100, 3) := by decide +kernel
theorem dX8_feed_36 : decode cX8_feed 36 = .ok (.iload_n 1, 1) := by decide +kernel
theorem dX8_feed_37 : decode cX8_feed 37 = .ok (.iastore, 1) := by decide +kernel
theorem dX8_feed_38 : decode cX8_feed 38 = .ok (.aload_n 0, 1) := by decide +kernel
theorem dX8_feed_39 : decode cX8_feed 39 = .ok (.dup, 1) := by decide +kernel
theorem dX8_feed_40 : decode cX8_feed 40 = .ok (.getfield 100, 3) := by decide +kernel
theorem dX8_feed_43 : decode cX8_feed 43 = .ok (.iconst 1, 1) := by decide +kernel
theorem dX8_feed_44 : decode cX8_feed 44 = .ok (.iadd, 1) := by decide +kernel
theorem dX8_feed_45 : decode cX8_feed 45 = .ok (.putfield 100, 3) := by decide +kernel
theorem dX8_feed_48 : decode cX8_feed 48 = .ok (.aload_n 0, 1) := by decide +kernel
theorem dX8_feed_49 : decode cX8_feed 49 = .ok (.getfield 100, 3) := by decide +kernel
theorem dX8_feed_52 : decode cX8_feed 52 = .ok (.ireturn, 1) := by decide +kernel
theorem dX8_here_0 : decode cX8_here 0 = .ok (.aload_n 0, 1) := by decide +kernel
theorem dX8_here_1 : decode cX8_here 1 = .ok (.getfield 104, 3) := by decide +kernel
theorem dX8_here_4 : decode cX8_here 4 = .ok (.aload_n 0, 1) := by decide +kernel
theorem dX8_here_5 : decode cX8_here 5 = .ok (.getfield 100, 3) := by decide +kernel
theorem dX8_here_8 : decode cX8_here 8 = .ok (.if_icmp .ge 30, 3) := by decide +kernel
theorem dX8_here_11 : decode cX8_here 11 = .ok (.aload_n 0, 1) := by decide +kernel
theorem dX8_here_12 : decode cX8_here 12 = .ok (.getfield 25, 3) := by decide +kernel
theorem dX8_here_15 : decode cX8_here 15 = .ok (.aload_n 0, 1) := by decide +kernel
theorem dX8_here_16 : decode cX8_here 16 = .ok (.getfield 104, 3) := by decide +kernel
theorem dX8_here_19 : decode cX8_here 19 = .ok (.iaload, 1) := by decide +kernel
theorem dX8_here_20 : decode cX8_here 20 = .ok (.bipush 32, 2) := by decide +kernel
theorem dX8_here_22 : decode cX8_here 22 = .ok (.if_icmp .ne 16, 3) := by decide +kernel
theorem dX8_here_25 : decode cX8_here 25 = .ok (.aload_n 0, 1) := by decide +kernel
theorem dX8_here_26 : decode cX8_here 26 = .ok (.dup, 1) := by decide +kernel
theorem dX8_here_27 : decode cX8_here 27 = .ok (.getfield 104, 3) := by decide +kernel
theorem dX8_here_30 : decode cX8_here 30 = .ok (.iconst 1, 1) := by decide +kernel
theorem dX8_here_31 : decode cX8_here 31 = .ok (.iadd, 1) := by decide +kernel
theorem dX8_here_32 : decode cX8_here 32 = .ok (.putfield 104, 3) := by decide +kernel
theorem dX8_here_35 : decode cX8_here 35 = .ok (.goto (-35), 3) := by decide +kernel
theorem dX8_here_38 : decode cX8_here 38 = .ok (.aload_n 0, 1) := by decide +kernel
theorem dX8_here_39 : decode cX8_here 39 = .ok (.getfield 104, 3) := by decide +kernel
theorem dX8_here_42 : decode cX8_here 42 = .ok (.aload_n 0, 1) := by decide +kernel
theorem dX8_here_43 : decode cX8_here 43 = .ok (.getfield 100, 3) := by decide +kernel
theorem dX8_here_46 : decode cX8_here 46 = .ok (.if_icmp .ge 15, 3) := by decide +kernel
theorem dX8_here_49 : decode cX8_here 49 = .ok (.aload_n 0, 1) := by decide +kernel
theorem dX8_here_50 : decode cX8_here 50 = .ok (.getfield 25, 3) := by decide +kernel
theorem dX8_here_53 : decode cX8_here 53 = .ok (.aload_n 0, 1) := by decide +kernel
theorem dX8_here_54 : decode cX8_here 54 = .ok (.getfield 104, 3) := by decide +kernel
theorem dX8_here_57 : decode cX8_here 57 = .ok (.iaload, 1) := by decide +kernel
theorem dX8_here_58 : decode cX8_here 58 = .ok (.goto 4, 3) := by decide +kernel
theorem dX8_here_61 : decode cX8_here 61 = .ok (.iconst (-1), 1) := by decide +kernel
theorem dX8_here_62 : decode cX8_here 62 = .ok (.ireturn, 1) := by decide +kernel
theorem dX8_fails_0 : decode cX8_fails 0 = .ok (.aload_n 0, 1) := by decide +kernel
theorem dX8_fails_1 : decode cX8_fails 1 = .ok (.iload_n 2, 1) := by decide +kernel
theorem dX8_fails_2 : decode cX8_fails 2 = .ok (.putfield 28, 3) := by decide +kernel
theorem dX8_fails_5 : decode cX8_fails 5 = .ok (.iload_n 1, 1) := by decide +kernel
theorem dX8_fails_6 : decode cX8_fails 6 = .ok (.ireturn, 1) := by decide +kernel
theorem dX8_takeNumber_0 : decode cX8_takeNumber 0 = .ok (.aload_n 0, 1) := by decide +kernel
theorem dX8_takeNumber_1 : decode cX8_takeNumber 1 = .ok (.invokevirtual 107, 3) := by decide +kernel
theorem dX8_takeNumber_4 : decode cX8_takeNumber 4 = .ok (.istore_n 3, 1) := by decide +kernel
theorem dX8_takeNumber_5 : decode cX8_takeNumber 5 = .ok (.iload_n 3, 1) := by decide +kernel
theorem dX8_takeNumber_6 : decode cX8_takeNumber 6 = .ok (.i2l, 1) := by decide +kernel
theorem dX8_takeNumber_7 : decode cX8_takeNumber 7 = .ok (.ldc2_w 111, 3) := by decide +kernel
theorem dX8_takeNumber_10 : decode cX8_takeNumber 10 = .ok (.ldc2_w 113, 3) := by decide +kernel
theorem dX8_takeNumber_13 : decode cX8_takeNumber 13 = .ok (.invokestatic 90, 3) := by decide +kernel
theorem dX8_takeNumber_16 : decode cX8_takeNumber 16 = .ok (.ifCond .ne 13, 3) := by decide +kernel
theorem dX8_takeNumber_19 : decode cX8_takeNumber 19 = .ok (.aload_n 0, 1) := by decide +kernel
theorem dX8_takeNumber_20 : decode cX8_takeNumber 20 = .ok (.iconst 1, 1) := by decide +kernel
theorem dX8_takeNumber_21 : decode cX8_takeNumber 21 = .ok (.aload_n 0, 1) := by decide +kernel
theorem dX8_takeNumber_22 : decode cX8_takeNumber 22 = .ok (.getfield 104, 3) := by decide +kernel
theorem dX8_takeNumber_25 : decode cX8_takeNumber 25 = .ok (.invokevirtual 115, 3) := by decide +kernel
theorem dX8_takeNumber_28 : decode cX8_takeNumber 28 = .ok (.ireturn, 1) := by decide +kernel
theorem dX8_takeNumber_29 : decode cX8_takeNumber 29 = .ok (.aload_n 0, 1) := by decide +kernel
theorem dX8_takeNumber_30 : decode cX8_takeNumber 30 = .ok (.aload_n 0, 1) := by decide +kernel
theorem dX8_takeNumber_31 : decode cX8_takeNumber 31 = .ok (.getfield 104, 3) := by decide +kernel
theorem dX8_takeNumber_34 : decode cX8_takeNumber 34 = .ok (.putfield 119, 3) := by decide +kernel
theorem dX8_takeNumber_37 : decode cX8_takeNumber 37 = .ok (.aload_n 0, 1) := by decide +kernel
theorem dX8_takeNumber_38 : decode cX8_takeNumber 38 = .ok (.iconst 0, 1) := by decide +kernel
theorem dX8_takeNumber_39 : decode cX8_takeNumber 39 = .ok (.putfield 122, 3) := by decide +kernel
theorem dX8_takeNumber_42 : decode cX8_takeNumber 42 = .ok (.aload_n 0, 1) := by decide +kernel
theorem dX8_takeNumber_43 : decode cX8_takeNumber 43 = .ok (.getfield 104, 3) := by decide +kernel
theorem dX8_takeNumber_46 : decode cX8_takeNumber 46 = .ok (.aload_n 0, 1) := by decide +kernel
theorem dX8_takeNumber_47 : decode cX8_takeNumber 47 = .ok (.getfield 100, 3) := by decide +kernel
theorem dX8_takeNumber_50 : decode cX8_takeNumber 50 = .ok (.if_icmp .ge 79, 3) := by decide +kernel
theorem dX8_takeNumber_53 : decode cX8_takeNumber 53 = .ok (.aload_n 0, 1) := by decide +kernel
theorem dX8_takeNumber_54 : decode cX8_takeNumber 54 = .ok (.getfield 25, 3) := by decide +kernel
theorem dX8_takeNumber_57 : decode cX8_takeNumber 57 = .ok (.aload_n 0, 1) := by decide +kernel
theorem dX8_takeNumber_58 : decode cX8_takeNumber 58 = .ok (.getfield 104, 3) := by decide +kernel
theorem dX8_takeNumber_61 : decode cX8_takeNumber 61 = .ok (.iaload, 1) := by decide +kernel
theorem dX8_takeNumber_62 : decode cX8_takeNumber 62 = .ok (.i2l, 1) := by decide +kernel
theorem dX8_takeNumber_63 : decode cX8_takeNumber 63 = .ok (.ldc2_w 111, 3) := by decide +kernel
theorem dX8_takeNumber_66 : decode cX8_takeNumber 66 = .ok (.ldc2_w 113, 3) := by decide +kernel
theorem dX8_takeNumber_69 : decode cX8_takeNumber 69 = .ok (.invokestatic 90, 3) := by decide +kernel
theorem dX8_takeNumber_72 : decode cX8_takeNumber 72 = .ok (.ifCond .eq 57, 3) := by decide +kernel
theorem dX8_takeNumber_75 : decode cX8_takeNumber 75 = .ok (.aload_n 0, 1) := by decide +kernel
theorem dX8_takeNumber_76 : decode cX8_takeNumber 76 = .ok (.aload_n 0, 1) := by decide +kernel
theorem dX8_takeNumber_77 : decode cX8_takeNumber 77 = .ok (.getfield 122, 3) := by decide +kernel
theorem dX8_takeNumber_80 : decode cX8_takeNumber 80 = .ok (.sipush 10000, 3) := by decide +kernel
theorem dX8_takeNumber_83 : decode cX8_takeNumber 83 = .ok (.if_icmp .le 10, 3) := by decide +kernel
theorem dX8_takeNumber_86 : decode cX8_takeNumber 86 = .ok (.aload_n 0, 1) := by decide +kernel
theorem dX8_takeNumber_87 : decode cX8_takeNumber 87 = .ok (.getfield 122, 3) := by decide +kernel
theorem dX8_takeNumber_90 : decode cX8_takeNumber 90 = .ok (.goto 23, 3) := by decide +kernel
theorem dX8_takeNumber_93 : decode cX8_takeNumber 93 = .ok (.bipush 10, 2) := by decide +kernel
theorem dX8_takeNumber_95 : decode cX8_takeNumber 95 = .ok (.aload_n 0, 1) := by decide +kernel
theorem dX8_takeNumber_96 : decode cX8_takeNumber 96 = .ok (.getfield 122, 3) := by decide +kernel
theorem dX8_takeNumber_99 : decode cX8_takeNumber 99 = .ok (.imul, 1) := by decide +kernel
theorem dX8_takeNumber_100 : decode cX8_takeNumber 100 = .ok (.aload_n 0, 1) := by decide +kernel
theorem dX8_takeNumber_101 : decode cX8_takeNumber 101 = .ok (.getfield 25, 3) := by decide +kernel
theorem dX8_takeNumber_104 : decode cX8_takeNumber 104 = .ok (.aload_n 0, 1) := by decide +kernel
theorem dX8_takeNumber_105 : decode cX8_takeNumber 105 = .ok (.getfield 104, 3) := by decide +kernel
theorem dX8_takeNumber_108 : decode cX8_takeNumber 108 = .ok (.iaload, 1) := by decide +kernel
theorem dX8_takeNumber_109 : decode cX8_takeNumber 109 = .ok (.iadd, 1) := by decide +kernel
theorem dX8_takeNumber_110 : decode cX8_takeNumber 110 = .ok (.bipush 48, 2) := by decide +kernel
theorem dX8_takeNumber_112 : decode cX8_takeNumber 112 = .ok (.isub, 1) := by decide +kernel
theorem dX8_takeNumber_113 : decode cX8_takeNumber 113 = .ok (.putfield 122, 3) := by decide +kernel
theorem dX8_takeNumber_116 : decode cX8_takeNumber 116 = .ok (.aload_n 0, 1) := by decide +kernel
theorem dX8_takeNumber_117 : decode cX8_takeNumber 117 = .ok (.dup, 1) := by decide +kernel
theorem dX8_takeNumber_118 : decode cX8_takeNumber 118 = .ok (.getfield 104, 3) := by decide +kernel
theorem dX8_takeNumber_121 : decode cX8_takeNumber 121 = .ok (.iconst 1, 1) := by decide +kernel
theorem dX8_takeNumber_122 : decode cX8_takeNumber 122 = .ok (.iadd, 1) := by decide +kernel
theorem dX8_takeNumber_123 : decode cX8_takeNumber 123 = .ok (.putfield 104, 3) := by decide +kernel
theorem dX8_takeNumber_126 : decode cX8_takeNumber 126 = .ok (.goto (-84), 3) := by decide +kernel
theorem dX8_takeNumber_129 : decode cX8_takeNumber 129 = .ok (.aload_n 0, 1) := by decide +kernel
theorem dX8_takeNumber_130 : decode cX8_takeNumber 130 = .ok (.getfield 104, 3) := by decide +kernel
theorem dX8_takeNumber_133 : decode cX8_takeNumber 133 = .ok (.aload_n 0, 1) := by decide +kernel
theorem dX8_takeNumber_134 : decode cX8_takeNumber 134 = .ok (.getfield 119, 3) := by decide +kernel
theorem dX8_takeNumber_137 : decode cX8_takeNumber 137 = .ok (.isub, 1) := by decide +kernel
theorem dX8_takeNumber_138 : decode cX8_takeNumber 138 = .ok (.iconst 3, 1) := by decide +kernel
theorem dX8_takeNumber_139 : decode cX8_takeNumber 139 = .ok (.if_icmp .gt 18, 3) := by decide +kernel
theorem dX8_takeNumber_142 : decode cX8_takeNumber 142 = .ok (.aload_n 0, 1) := by decide +kernel
theorem dX8_takeNumber_143 : decode cX8_takeNumber 143 = .ok (.getfield 122, 3) := by decide +kernel
theorem dX8_takeNumber_146 : decode cX8_takeNumber 146 = .ok (.i2l, 1) := by decide +kernel
theorem dX8_takeNumber_147 : decode cX8_takeNumber 147 = .ok (.iload_n 1, 1) := by decide +kernel
theorem dX8_takeNumber_148 : decode cX8_takeNumber 148 = .ok (.i2l, 1) := by decide +kernel
theorem dX8_takeNumber_149 : decode cX8_takeNumber 149 = .ok (.iload_n 2, 1) := by decide +kernel
theorem dX8_takeNumber_150 : decode cX8_takeNumber 150 = .ok (.i2l, 1) := by decide +kernel
theorem dX8_takeNumber_151 : decode cX8_takeNumber 151 = .ok (.invokestatic 90, 3) := by decide +kernel
theorem dX8_takeNumber_154 : decode cX8_takeNumber 154 = .ok (.ifCond .ne 15, 3) := by decide +kernel
theorem dX8_takeNumber_157 : decode cX8_takeNumber 157 = .ok (.aload_n 0, 1) := by decide +kernel
theorem dX8_takeNumber_158 : decode cX8_takeNumber 158 = .ok (.iconst 2, 1) := by decide +kernel
theorem dX8_takeNumber_159 : decode cX8_takeNumber 159 = .ok (.aload_n 0, 1) := by decide +kernel
theorem dX8_takeNumber_160 : decode cX8_takeNumber 160 = .ok (.getfield 119, 3) := by decide +kernel
theorem dX8_takeNumber_163 : decode cX8_takeNumber 163 = .ok (.invokevirtual 115, 3) := by decide +kernel
theorem dX8_takeNumber_166 : decode cX8_takeNumber 166 = .ok (.goto 4, 3) := by decide +kernel
theorem dX8_takeNumber_169 : decode cX8_takeNumber 169 = .ok (.iconst 0, 1) := by decide +kernel
theorem dX8_takeNumber_170 : decode cX8_takeNumber 170 = .ok (.ireturn, 1) := by decide +kernel
theorem dX8_into_0 : decode cX8_into 0 = .ok (.aload_n 0, 1) := by decide +kernel
theorem dX8_into_1 : decode cX8_into 1 = .ok (.iload_n 3, 1) := by decide +kernel
theorem dX8_into_2 : decode cX8_into 2 = .ok (.iload 4, 2) := by decide +kernel
theorem dX8_into_4 : decode cX8_into 4 = .ok (.invokevirtual 125, 3) := by decide +kernel
theorem dX8_into_7 : decode cX8_into 7 = .ok (.istore 5, 2) := by decide +kernel
theorem dX8_into_9 : decode cX8_into 9 = .ok (.aload_n 1, 1) := by decide +kernel
theorem dX8_into_10 : decode cX8_into 10 = .ok (.iload_n 2, 1) := by decide +kernel
theorem dX8_into_11 : decode cX8_into 11 = .ok (.aload_n 0, 1) := by decide +kernel
theorem dX8_into_12 : decode cX8_into 12 = .ok (.getfield 122, 3) := by decide +kernel
theorem dX8_into_15 : decode cX8_into 15 = .ok (.iastore, 1) := by decide +kernel
theorem dX8_into_16 : decode cX8_into 16 = .ok (.iload 5, 2) := by decide +kernel
theorem dX8_into_18 : decode cX8_into 18 = .ok (.ireturn, 1) := by decide +kernel
theorem dX8_takeGate_0 : decode cX8_takeGate 0 = .ok (.aload_n 0, 1) := by decide +kernel
theorem dX8_takeGate_1 : decode cX8_takeGate 1 = .ok (.getfield 128, 3) := by decide +kernel
theorem dX8_takeGate_4 : decode cX8_takeGate 4 = .ok (.istore_n 1, 1) := by decide +kernel
theorem dX8_takeGate_5 : decode cX8_takeGate 5 = .ok (.aload_n 0, 1) := by decide +kernel
theorem dX8_takeGate_6 : decode cX8_takeGate 6 = .ok (.dup, 1) := by decide +kernel
theorem dX8_takeGate_7 : decode cX8_takeGate 7 = .ok (.getfield 128, 3) := by decide +kernel
theorem dX8_takeGate_10 : decode cX8_takeGate 10 = .ok (.iconst 1, 1) := by decide +kernel
theorem dX8_takeGate_11 : decode cX8_takeGate 11 = .ok (.iadd, 1) := by decide +kernel
theorem dX8_takeGate_12 : decode cX8_takeGate 12 = .ok (.putfield 128, 3) := by decide +kernel
theorem dX8_takeGate_15 : decode cX8_takeGate 15 = .ok (.aload_n 0, 1) := by decide +kernel
theorem dX8_takeGate_16 : decode cX8_takeGate 16 = .ok (.aload_n 0, 1) := by decide +kernel
theorem dX8_takeGate_17 : decode cX8_takeGate 17 = .ok (.getfield 32, 3) := by decide +kernel
theorem dX8_takeGate_20 : decode cX8_takeGate 20 = .ok (.iload_n 1, 1) := by decide +kernel
theorem dX8_takeGate_21 : decode cX8_takeGate 21 = .ok (.iconst 1, 1) := by decide +kernel
theorem dX8_takeGate_22 : decode cX8_takeGate 22 = .ok (.bipush 99, 2) := by decide +kernel
theorem dX8_takeGate_24 : decode cX8_takeGate 24 = .ok (.invokevirtual 131, 3) := by decide +kernel
theorem dX8_takeGate_27 : decode cX8_takeGate 27 = .ok (.ireturn, 1) := by decide +kernel
theorem dX8_takePerson_0 : decode cX8_takePerson 0 = .ok (.aload_n 0, 1) := by decide +kernel
theorem dX8_takePerson_1 : decode cX8_takePerson 1 = .ok (.getfield 135, 3) := by decide +kernel
theorem dX8_takePerson_4 : decode cX8_takePerson 4 = .ok (.istore_n 1, 1) := by decide +kernel
theorem dX8_takePerson_5 : decode cX8_takePerson 5 = .ok (.aload_n 0, 1) := by decide +kernel
theorem dX8_takePerson_6 : decode cX8_takePerson 6 = .ok (.dup, 1) := by decide +kernel
theorem dX8_takePerson_7 : decode cX8_takePerson 7 = .ok (.getfield 135, 3) := by decide +kernel
theorem dX8_takePerson_10 : decode cX8_takePerson 10 = .ok (.iconst 1, 1) := by decide +kernel
theorem dX8_takePerson_11 : decode cX8_takePerson 11 = .ok (.iadd, 1) := by decide +kernel
theorem dX8_takePerson_12 : decode cX8_takePerson 12 = .ok (.putfield 135, 3) := by decide +kernel
theorem dX8_takePerson_15 : decode cX8_takePerson 15 = .ok (.aload_n 0, 1) := by decide +kernel
theorem dX8_takePerson_16 : decode cX8_takePerson 16 = .ok (.aload_n 0, 1) := by decide +kernel
theorem dX8_takePerson_17 : decode cX8_takePerson 17 = .ok (.getfield 35, 3) := by decide +kernel
theorem dX8_takePerson_20 : decode cX8_takePerson 20 = .ok (.iload_n 1, 1) := by decide +kernel
theorem dX8_takePerson_21 : decode cX8_takePerson 21 = .ok (.iconst 0, 1) := by decide +kernel
theorem dX8_takePerson_22 : decode cX8_takePerson 22 = .ok (.iconst 1, 1) := by decide +kernel
theorem dX8_takePerson_23 : decode cX8_takePerson 23 = .ok (.invokevirtual 131, 3) := by decide +kernel
theorem dX8_takePerson_26 : decode cX8_takePerson 26 = .ok (.istore_n 2, 1) := by decide +kernel
theorem dX8_takePerson_27 : decode cX8_takePerson 27 = .ok (.iload_n 2, 1) := by decide +kernel
theorem dX8_takePerson_28 : decode cX8_takePerson 28 = .ok (.ifCond .le 7, 3) := by decide +kernel
theorem dX8_takePerson_31 : decode cX8_takePerson 31 = .ok (.iload_n 2, 1) := by decide +kernel
theorem dX8_takePerson_32 : decode cX8_takePerson 32 = .ok (.goto 14, 3) := by decide +kernel
theorem dX8_takePerson_35 : decode cX8_takePerson 35 = .ok (.aload_n 0, 1) := by decide +kernel
theorem dX8_takePerson_36 : decode cX8_takePerson 36 = .ok (.aload_n 0, 1) := by decide +kernel
theorem dX8_takePerson_37 : decode cX8_takePerson 37 = .ok (.getfield 38, 3) := by decide +kernel
theorem dX8_takePerson_40 : decode cX8_takePerson 40 = .ok (.iload_n 1, 1) := by decide +kernel
theorem dX8_takePerson_41 : decode cX8_takePerson 41 = .ok (.iconst 0, 1) := by decide +kernel
theorem dX8_takePerson_42 : decode cX8_takePerson 42 = .ok (.iconst 1, 1) := by decide +kernel
theorem dX8_takePerson_43 : decode cX8_takePerson 43 = .ok (.invokevirtual 131, 3) := by decide +kernel
theorem dX8_takePerson_46 : decode cX8_takePerson 46 = .ok (.ireturn, 1) := by decide +kernel
theorem dX8_takeLikes_0 : decode cX8_takeLikes 0 = .ok (.aload_n 0, 1) := by decide +kernel
theorem dX8_takeLikes_1 : decode cX8_takeLikes 1 = .ok (.iconst 0, 1) := by decide +kernel
theorem dX8_takeLikes_2 : decode cX8_takeLikes 2 = .ok (.aload_n 0, 1) := by decide +kernel
theorem dX8_takeLikes_3 : decode cX8_takeLikes 3 = .ok (.getfield 135, 3) := by decide +kernel
theorem dX8_takeLikes_6 : decode cX8_takeLikes 6 = .ok (.iconst 1, 1) := by decide +kernel
theorem dX8_takeLikes_7 : decode cX8_takeLikes 7 = .ok (.isub, 1) := by decide +kernel
theorem dX8_takeLikes_8 : decode cX8_takeLikes 8 = .ok (.invokevirtual 125, 3) := by decide +kernel
theorem dX8_takeLikes_11 : decode cX8_takeLikes 11 = .ok (.istore_n 1, 1) := by decide +kernel
theorem dX8_takeLikes_12 : decode cX8_takeLikes 12 = .ok (.aload_n 0, 1) := by decide +kernel
theorem dX8_takeLikes_13 : decode cX8_takeLikes 13 = .ok (.getfield 122, 3) := by decide +kernel
theorem dX8_takeLikes_16 : decode cX8_takeLikes 16 = .ok (.istore_n 2, 1) := by decide +kernel
theorem dX8_takeLikes_17 : decode cX8_takeLikes 17 = .ok (.iload_n 1, 1) := by decide +kernel
theorem dX8_takeLikes_18 : decode cX8_takeLikes 18 = .ok (.ifCond .le 7, 3) := by decide +kernel
theorem dX8_takeLikes_21 : decode cX8_takeLikes 21 = .ok (.iload_n 1, 1) := by decide +kernel
theorem dX8_takeLikes_22 : decode cX8_takeLikes 22 = .ok (.goto 14, 3) := by decide +kernel
theorem dX8_takeLikes_25 : decode cX8_takeLikes 25 = .ok (.aload_n 0, 1) := by decide +kernel
theorem dX8_takeLikes_26 : decode cX8_takeLikes 26 = .ok (.iconst 0, 1) := by decide +kernel
theorem dX8_takeLikes_27 : decode cX8_takeLikes 27 = .ok (.aload_n 0, 1) := by decide +kernel
theorem dX8_takeLikes_28 : decode cX8_takeLikes 28 = .ok (.getfield 135, 3) := by decide +kernel
theorem dX8_takeLikes_31 : decode cX8_takeLikes 31 = .ok (.iconst 1, 1) := by decide +kernel
theorem dX8_takeLikes_32 : decode cX8_takeLikes 32 = .ok (.isub, 1) := by decide +kernel
theorem dX8_takeLikes_33 : decode cX8_takeLikes 33 = .ok (.invokevirtual 125, 3) := by decide +kernel
theorem dX8_takeLikes_36 : decode cX8_takeLikes 36 = .ok (.istore_n 1, 1) := by decide +kernel
theorem dX8_takeLikes_37 : decode cX8_takeLikes 37 = .ok (.iload_n 1, 1) := by decide +kernel
theorem dX8_takeLikes_38 : decode cX8_takeLikes 38 = .ok (.ifCond .le 5, 3) := by decide +kernel
theorem dX8_takeLikes_41 : decode cX8_takeLikes 41 = .ok (.iload_n 1, 1) := by decide +kernel
theorem dX8_takeLikes_42 : decode cX8_takeLikes 42 = .ok (.ireturn, 1) := by decide +kernel
theorem dX8_takeLikes_43 : decode cX8_takeLikes 43 = .ok (.aload_n 0, 1) := by decide +kernel
theorem dX8_takeLikes_44 : decode cX8_takeLikes 44 = .ok (.getfield 122, 3) := by decide +kernel
theorem dX8_takeLikes_47 : decode cX8_takeLikes 47 = .ok (.istore_n 3, 1) := by decide +kernel
theorem dX8_takeLikes_48 : decode cX8_takeLikes 48 = .ok (.iload_n 2, 1) := by decide +kernel
theorem dX8_takeLikes_49 : decode cX8_takeLikes 49 = .ok (.iload_n 3, 1) := by decide +kernel
theorem dX8_takeLikes_50 : decode cX8_takeLikes 50 = .ok (.if_icmp .eq 17, 3) := by decide +kernel
theorem dX8_takeLikes_53 : decode cX8_takeLikes 53 = .ok (.aload_n 0, 1) := by decide +kernel
theorem dX8_takeLikes_54 : decode cX8_takeLikes 54 = .ok (.getfield 41, 3) := by decide +kernel
theorem dX8_takeLikes_57 : decode cX8_takeLikes 57 = .ok (.bipush 7, 2) := by decide +kernel
theorem dX8_takeLikes_59 : decode cX8_takeLikes 59 = .ok (.iload_n 2, 1) := by decide +kernel
theorem dX8_takeLikes_60 : decode cX8_takeLikes 60 = .ok (.imul, 1) := by decide +kernel
theorem dX8_takeLikes_61 : decode cX8_takeLikes 61 = .ok (.iload_n 3, 1) := by decide +kernel
theorem dX8_takeLikes_62 : decode cX8_takeLikes 62 = .ok (.iadd, 1) := by decide +kernel
theorem dX8_takeLikes_63 : decode cX8_takeLikes 63 = .ok (.iaload, 1) := by decide +kernel
theorem dX8_takeLikes_64 : decode cX8_takeLikes 64 = .ok (.ifCond .lt 13, 3) := by decide +kernel
theorem dX8_takeLikes_67 : decode cX8_takeLikes 67 = .ok (.aload_n 0, 1) := by decide +kernel
theorem dX8_takeLikes_68 : decode cX8_takeLikes 68 = .ok (.iconst 4, 1) := by decide +kernel
theorem dX8_takeLikes_69 : decode cX8_takeLikes 69 = .ok (.aload_n 0, 1) := by decide +kernel
theorem dX8_takeLikes_70 : decode cX8_takeLikes 70 = .ok (.getfield 119, 3) := by decide +kernel
theorem dX8_takeLikes_73 : decode cX8_takeLikes 73 = .ok (.invokevirtual 115, 3) := by decide +kernel
theorem dX8_takeLikes_76 : decode cX8_takeLikes 76 = .ok (.ireturn, 1) := by decide +kernel
theorem dX8_takeLikes_77 : decode cX8_takeLikes 77 = .ok (.aload_n 0, 1) := by decide +kernel
theorem dX8_takeLikes_78 : decode cX8_takeLikes 78 = .ok (.aload_n 0, 1) := by decide +kernel
theorem dX8_takeLikes_79 : decode cX8_takeLikes 79 = .ok (.getfield 41, 3) := by decide +kernel
theorem dX8_takeLikes_82 : decode cX8_takeLikes 82 = .ok (.bipush 7, 2) := by decide +kernel
theorem dX8_takeLikes_84 : decode cX8_takeLikes 84 = .ok (.iload_n 2, 1) := by decide +kernel
theorem dX8_takeLikes_85 : decode cX8_takeLikes 85 = .ok (.imul, 1) := by decide +kernel
theorem dX8_takeLikes_86 : decode cX8_takeLikes 86 = .ok (.iload_n 3, 1) := by decide +kernel
theorem dX8_takeLikes_87 : decode cX8_takeLikes 87 = .ok (.iadd, 1) := by decide +kernel
theorem dX8_takeLikes_88 : decode cX8_takeLikes 88 = .ok (.iconst 0, 1) := by decide +kernel
theorem dX8_takeLikes_89 : decode cX8_takeLikes 89 = .ok (.bipush 9, 2) := by decide +kernel
theorem dX8_takeLikes_91 : decode cX8_takeLikes 91 = .ok (.invokevirtual 131, 3) := by decide +kernel
theorem dX8_takeLikes_94 : decode cX8_takeLikes 94 = .ok (.ireturn, 1) := by decide +kernel
theorem dX8_takeClause_0 : decode cX8_takeClause 0 = .ok (.aload_n 0, 1) := by decide +kernel
theorem dX8_takeClause_1 : decode cX8_takeClause 1 = .ok (.invokevirtual 107, 3) := by decide +kernel
theorem dX8_takeClause_4 : decode cX8_takeClause 4 = .ok (.istore_n 1, 1) := by decide +kernel
theorem dX8_takeClause_5 : decode cX8_takeClause 5 = .ok (.iload_n 1, 1) := by decide +kernel
theorem dX8_takeClause_6 : decode cX8_takeClause 6 = .ok (.bipush 103, 2) := by decide +kernel
theorem dX8_takeClause_8 : decode cX8_takeClause 8 = .ok (.if_icmp .ne 7, 3) := by decide +kernel
theorem dX8_takeClause_11 : decode cX8_takeClause 11 = .ok (.iconst 0, 1) := by decide +kernel
theorem dX8_takeClause_12 : decode cX8_takeClause 12 = .ok (.goto 24, 3) := by decide +kernel
theorem dX8_takeClause_15 : decode cX8_takeClause 15 = .ok (.iload_n 1, 1) := by decide +kernel
theorem dX8_takeClause_16 : decode cX8_takeClause 16 = .ok (.bipush 112, 2) := by decide +kernel
theorem dX8_takeClause_18 : decode cX8_takeClause 18 = .ok (.if_icmp .ne 7, 3) := by decide +kernel
theorem dX8_takeClause_21 : decode cX8_takeClause 21 = .ok (.iconst 1, 1) := by decide +kernel
theorem dX8_takeClause_22 : decode cX8_takeClause 22 = .ok (.goto 14, 3) := by decide +kernel
theorem dX8_takeClause_25 : decode cX8_takeClause 25 = .ok (.iload_n 1, 1) := by decide +kernel
theorem dX8_takeClause_26 : decode cX8_takeClause 26 = .ok (.bipush 108, 2) := by decide +kernel
theorem dX8_takeClause_28 : decode cX8_takeClause 28 = .ok (.if_icmp .ne 7, 3) := by decide +kernel
theorem dX8_takeClause_31 : decode cX8_takeClause 31 = .ok (.iconst 2, 1) := by decide +kernel
theorem dX8_takeClause_32 : decode cX8_takeClause 32 = .ok (.goto 4, 3) := by decide +kernel
theorem dX8_takeClause_35 : decode cX8_takeClause 35 = .ok (.iconst (-1), 1) := by decide +kernel
theorem dX8_takeClause_36 : decode cX8_takeClause 36 = .ok (.istore_n 2, 1) := by decide +kernel
theorem dX8_takeClause_37 : decode cX8_takeClause 37 = .ok (.iload_n 2, 1) := by decide +kernel
theorem dX8_takeClause_38 : decode cX8_takeClause 38 = .ok (.ifCond .ge 13, 3) := by decide +kernel
theorem dX8_takeClause_41 : decode cX8_takeClause 41 = .ok (.aload_n 0, 1) := by decide +kernel
theorem dX8_takeClause_42 : decode cX8_takeClause 42 = .ok (.iconst 1, 1) := by decide +kernel
theorem dX8_takeClause_43 : decode cX8_takeClause 43 = .ok (.aload_n 0, 1) := by decide +kernel
theorem dX8_takeClause_44 : decode cX8_takeClause 44 = .ok (.getfield 104, 3) := by decide +kernel
theorem dX8_takeClause_47 : decode cX8_takeClause 47 = .ok (.invokevirtual 115, 3) := by decide +kernel
theorem dX8_takeClause_50 : decode cX8_takeClause 50 = .ok (.ireturn, 1) := by decide +kernel
theorem dX8_takeClause_51 : decode cX8_takeClause 51 = .ok (.iload_n 2, 1) := by decide +kernel
theorem dX8_takeClause_52 : decode cX8_takeClause 52 = .ok (.ifCond .ne 11, 3) := by decide +kernel
theorem dX8_takeClause_55 : decode cX8_takeClause 55 = .ok (.aload_n 0, 1) := by decide +kernel
theorem dX8_takeClause_56 : decode cX8_takeClause 56 = .ok (.getfield 128, 3) := by decide +kernel
theorem dX8_takeClause_59 : decode cX8_takeClause 59 = .ok (.iconst 5, 1) := by decide +kernel
theorem dX8_takeClause_60 : decode cX8_takeClause 60 = .ok (.if_icmp .eq 17, 3) := by decide +kernel
theorem dX8_takeClause_63 : decode cX8_takeClause 63 = .ok (.iload_n 2, 1) := by decide +kernel
theorem dX8_takeClause_64 : decode cX8_takeClause 64 = .ok (.iconst 1, 1) := by decide +kernel
theorem dX8_takeClause_65 : decode cX8_takeClause 65 = .ok (.if_icmp .ne 22, 3) := by decide +kernel
theorem dX8_takeClause_68 : decode cX8_takeClause 68 = .ok (.aload_n 0, 1) := by decide +kernel
theorem dX8_takeClause_69 : decode cX8_takeClause 69 = .ok (.getfield 135, 3) := by decide +kernel
theorem dX8_takeClause_72 : decode cX8_takeClause 72 = .ok (.bipush 7, 2) := by decide +kernel
theorem dX8_takeClause_74 : decode cX8_takeClause 74 = .ok (.if_icmp .ne 13, 3) := by decide +kernel
theorem dX8_takeClause_77 : decode cX8_takeClause 77 = .ok (.aload_n 0, 1) := by decide +kernel
theorem dX8_takeClause_78 : decode cX8_takeClause 78 = .ok (.iconst 3, 1) := by decide +kernel
theorem dX8_takeClause_79 : decode cX8_takeClause 79 = .ok (.aload_n 0, 1) := by decide +kernel
theorem dX8_takeClause_80 : decode cX8_takeClause 80 = .ok (.getfield 104, 3) := by decide +kernel
theorem dX8_takeClause_83 : decode cX8_takeClause 83 = .ok (.invokevirtual 115, 3) := by decide +kernel
theorem dX8_takeClause_86 : decode cX8_takeClause 86 = .ok (.ireturn, 1) := by decide +kernel
theorem dX8_takeClause_87 : decode cX8_takeClause 87 = .ok (.aload_n 0, 1) := by decide +kernel
theorem dX8_takeClause_88 : decode cX8_takeClause 88 = .ok (.dup, 1) := by decide +kernel
theorem dX8_takeClause_89 : decode cX8_takeClause 89 = .ok (.getfield 104, 3) := by decide +kernel
theorem dX8_takeClause_92 : decode cX8_takeClause 92 = .ok (.iconst 1, 1) := by decide +kernel
theorem dX8_takeClause_93 : decode cX8_takeClause 93 = .ok (.iadd, 1) := by decide +kernel
theorem dX8_takeClause_94 : decode cX8_takeClause 94 = .ok (.putfield 104, 3) := by decide +kernel
theorem dX8_takeClause_97 : decode cX8_takeClause 97 = .ok (.iload_n 2, 1) := by decide +kernel
theorem dX8_takeClause_98 : decode cX8_takeClause 98 = .ok (.ifCond .ne 10, 3) := by decide +kernel
theorem dX8_takeClause_101 : decode cX8_takeClause 101 = .ok (.aload_n 0, 1) := by decide +kernel
theorem dX8_takeClause_102 : decode cX8_takeClause 102 = .ok (.invokevirtual 138, 3) := by decide +kernel
theorem dX8_takeClause_105 : decode cX8_takeClause 105 = .ok (.goto 19, 3) := by decide +kernel
theorem dX8_takeClause_108 : decode cX8_takeClause 108 = .ok (.iload_n 2, 1) := by decide +kernel
theorem dX8_takeClause_109 : decode cX8_takeClause 109 = .ok (.iconst 1, 1) := by decide +kernel
theorem dX8_takeClause_110 : decode cX8_takeClause 110 = .ok (.if_icmp .ne 10, 3) := by decide +kernel
theorem dX8_takeClause_113 : decode cX8_takeClause 113 = .ok (.aload_n 0, 1) := by decide +kernel
theorem dX8_takeClause_114 : decode cX8_takeClause 114 = .ok (.invokevirtual 141, 3) := by decide +kernel
theorem dX8_takeClause_117 : decode cX8_takeClause 117 = .ok (.goto 7, 3) := by decide +kernel
theorem dX8_takeClause_120 : decode cX8_takeClause 120 = .ok (.aload_n 0, 1) := by decide +kernel
theorem dX8_takeClause_121 : decode cX8_takeClause 121 = .ok (.invokevirtual 144, 3) := by decide +kernel
theorem dX8_takeClause_124 : decode cX8_takeClause 124 = .ok (.istore_n 3, 1) := by decide +kernel
theorem dX8_takeClause_125 : decode cX8_takeClause 125 = .ok (.iload_n 3, 1) := by decide +kernel
theorem dX8_takeClause_126 : decode cX8_takeClause 126 = .ok (.ifCond .ne 22, 3) := by decide +kernel
theorem dX8_takeClause_129 : decode cX8_takeClause 129 = .ok (.aload_n 0, 1) := by decide +kernel
theorem dX8_takeClause_130 : decode cX8_takeClause 130 = .ok (.invokevirtual 107, 3) := by decide +kernel
theorem dX8_takeClause_133 : decode cX8_takeClause 133 = .ok (.bipush 59, 2) := by decide +kernel
theorem dX8_takeClause_135 : decode cX8_takeClause 135 = .ok (.if_icmp .eq 13, 3) := by decide +kernel
theorem dX8_takeClause_138 : decode cX8_takeClause 138 = .ok (.aload_n 0, 1) := by decide +kernel
theorem dX8_takeClause_139 : decode cX8_takeClause 139 = .ok (.iconst 1, 1) := by decide +kernel
theorem dX8_takeClause_140 : decode cX8_takeClause 140 = .ok (.aload_n 0, 1) := by decide +kernel
theorem dX8_takeClause_141 : decode cX8_takeClause 141 = .ok (.getfield 104, 3) := by decide +kernel
theorem dX8_takeClause_144 : decode cX8_takeClause 144 = .ok (.invokevirtual 115, 3) := by decide +kernel
theorem dX8_takeClause_147 : decode cX8_takeClause 147 = .ok (.ireturn, 1) := by decide +kernel
theorem dX8_takeClause_148 : decode cX8_takeClause 148 = .ok (.aload_n 0, 1) := by decide +kernel
theorem dX8_takeClause_149 : decode cX8_takeClause 149 = .ok (.dup, 1) := by decide +kernel
theorem dX8_takeClause_150 : decode cX8_takeClause 150 = .ok (.getfield 104, 3) := by decide +kernel
theorem dX8_takeClause_153 : decode cX8_takeClause 153 = .ok (.iconst 1, 1) := by decide +kernel
theorem dX8_takeClause_154 : decode cX8_takeClause 154 = .ok (.iadd, 1) := by decide +kernel
theorem dX8_takeClause_155 : decode cX8_takeClause 155 = .ok (.putfield 104, 3) := by decide +kernel
theorem dX8_takeClause_158 : decode cX8_takeClause 158 = .ok (.iload_n 3, 1) := by decide +kernel
theorem dX8_takeClause_159 : decode cX8_takeClause 159 = .ok (.ireturn, 1) := by decide +kernel
theorem dX8_takeRead_0 : decode cX8_takeRead 0 = .ok (.aload_n 0, 1) := by decide +kernel
theorem dX8_takeRead_1 : decode cX8_takeRead 1 = .ok (.aload_n 0, 1) := by decide +kernel
theorem dX8_takeRead_2 : decode cX8_takeRead 2 = .ok (.getfield 128, 3) := by decide +kernel
theorem dX8_takeRead_5 : decode cX8_takeRead 5 = .ok (.putfield 87, 3) := by decide +kernel
theorem dX8_takeRead_8 : decode cX8_takeRead 8 = .ok (.aload_n 0, 1) := by decide +kernel
theorem dX8_takeRead_9 : decode cX8_takeRead 9 = .ok (.aload_n 0, 1) := by decide +kernel
theorem dX8_takeRead_10 : decode cX8_takeRead 10 = .ok (.getfield 135, 3) := by decide +kernel
theorem dX8_takeRead_13 : decode cX8_takeRead 13 = .ok (.putfield 94, 3) := by decide +kernel
theorem dX8_takeRead_16 : decode cX8_takeRead 16 = .ok (.iconst 0, 1) := by decide +kernel
theorem dX8_takeRead_17 : decode cX8_takeRead 17 = .ok (.istore_n 1, 1) := by decide +kernel
theorem dX8_takeRead_18 : decode cX8_takeRead 18 = .ok (.iload_n 1, 1) := by decide +kernel
theorem dX8_takeRead_19 : decode cX8_takeRead 19 = .ok (.aload_n 0, 1) := by decide +kernel
theorem dX8_takeRead_20 : decode cX8_takeRead 20 = .ok (.getfield 87, 3) := by decide +kernel
theorem dX8_takeRead_23 : decode cX8_takeRead 23 = .ok (.if_icmp .ge 21, 3) := by decide +kernel
theorem dX8_takeRead_26 : decode cX8_takeRead 26 = .ok (.aload_n 0, 1) := by decide +kernel
theorem dX8_takeRead_27 : decode cX8_takeRead 27 = .ok (.getfield 7, 3) := by decide +kernel
theorem dX8_takeRead_30 : decode cX8_takeRead 30 = .ok (.iload_n 1, 1) := by decide +kernel
theorem dX8_takeRead_31 : decode cX8_takeRead 31 = .ok (.aload_n 0, 1) := by decide +kernel
theorem dX8_takeRead_32 : decode cX8_takeRead 32 = .ok (.getfield 32, 3) := by decide +kernel
theorem dX8_takeRead_35 : decode cX8_takeRead 35 = .ok (.iload_n 1, 1) := by decide +kernel
theorem dX8_takeRead_36 : decode cX8_takeRead 36 = .ok (.iaload, 1) := by decide +kernel
theorem dX8_takeRead_37 : decode cX8_takeRead 37 = .ok (.iastore, 1) := by decide +kernel
theorem dX8_takeRead_38 : decode cX8_takeRead 38 = .ok (.iinc 1 1, 3) := by decide +kernel
theorem dX8_takeRead_41 : decode cX8_takeRead 41 = .ok (.goto (-23), 3) := by decide +kernel
theorem dX8_takeRead_44 : decode cX8_takeRead 44 = .ok (.iconst 0, 1) := by decide +kernel
theorem dX8_takeRead_45 : decode cX8_takeRead 45 = .ok (.istore_n 1, 1) := by decide +kernel
theorem dX8_takeRead_46 : decode cX8_takeRead 46 = .ok (.iload_n 1, 1) := by decide +kernel
theorem dX8_takeRead_47 : decode cX8_takeRead 47 = .ok (.bipush 49, 2) := by decide +kernel
theorem dX8_takeRead_49 : decode cX8_takeRead 49 = .ok (.if_icmp .ge 34, 3) := by decide +kernel
theorem dX8_takeRead_52 : decode cX8_takeRead 52 = .ok (.aload_n 0, 1) := by decide +kernel
theorem dX8_takeRead_53 : decode cX8_takeRead 53 = .ok (.getfield 13, 3) := by decide +kernel
theorem dX8_takeRead_56 : decode cX8_takeRead 56 = .ok (.iload_n 1, 1) := by decide +kernel
theorem dX8_takeRead_57 : decode cX8_takeRead 57 = .ok (.aload_n 0, 1) := by decide +kernel
theorem dX8_takeRead_58 : decode cX8_takeRead 58 = .ok (.getfield 41, 3) := by decide +kernel
theorem dX8_takeRead_61 : decode cX8_takeRead 61 = .ok (.iload_n 1, 1) := by decide +kernel
theorem dX8_takeRead_62 : decode cX8_takeRead 62 = .ok (.iaload, 1) := by decide +kernel
theorem dX8_takeRead_63 : decode cX8_takeRead 63 = .ok (.ifCond .le 12, 3) := by decide +kernel
theorem dX8_takeRead_66 : decode cX8_takeRead 66 = .ok (.aload_n 0, 1) := by decide +kernel
theorem dX8_takeRead_67 : decode cX8_takeRead 67 = .ok (.getfield 41, 3) := by decide +kernel
theorem dX8_takeRead_70 : decode cX8_takeRead 70 = .ok (.iload_n 1, 1) := by decide +kernel
theorem dX8_takeRead_71 : decode cX8_takeRead 71 = .ok (.iaload, 1) := by decide +kernel
theorem dX8_takeRead_72 : decode cX8_takeRead 72 = .ok (.goto 4, 3) := by decide +kernel
theorem dX8_takeRead_75 : decode cX8_takeRead 75 = .ok (.iconst 0, 1) := by decide +kernel
theorem dX8_takeRead_76 : decode cX8_takeRead 76 = .ok (.iastore, 1) := by decide +kernel
theorem dX8_takeRead_77 : decode cX8_takeRead 77 = .ok (.iinc 1 1, 3) := by decide +kernel
theorem dX8_takeRead_80 : decode cX8_takeRead 80 = .ok (.goto (-34), 3) := by decide +kernel
theorem dX8_takeRead_83 : decode cX8_takeRead 83 = .ok (.iconst 0, 1) := by decide +kernel
theorem dX8_takeRead_84 : decode cX8_takeRead 84 = .ok (.istore_n 1, 1) := by decide +kernel
theorem dX8_takeRead_85 : decode cX8_takeRead 85 = .ok (.iload_n 1, 1) := by decide +kernel
theorem dX8_takeRead_86 : decode cX8_takeRead 86 = .ok (.bipush 55, 2) := by decide +kernel
theorem dX8_takeRead_88 : decode cX8_takeRead 88 = .ok (.if_icmp .ge 16, 3) := by decide +kernel
theorem dX8_takeRead_91 : decode cX8_takeRead 91 = .ok (.aload_n 0, 1) := by decide +kernel
theorem dX8_takeRead_92 : decode cX8_takeRead 92 = .ok (.getfield 16, 3) := by decide +kernel
theorem dX8_takeRead_95 : decode cX8_takeRead 95 = .ok (.iload_n 1, 1) := by decide +kernel
theorem dX8_takeRead_96 : decode cX8_takeRead 96 = .ok (.iconst 0, 1) := by decide +kernel
theorem dX8_takeRead_97 : decode cX8_takeRead 97 = .ok (.iastore, 1) := by decide +kernel
theorem dX8_takeRead_98 : decode cX8_takeRead 98 = .ok (.iinc 1 1, 3) := by decide +kernel
theorem dX8_takeRead_101 : decode cX8_takeRead 101 = .ok (.goto (-16), 3) := by decide +kernel
theorem dX8_takeRead_104 : decode cX8_takeRead 104 = .ok (.iconst 0, 1) := by decide +kernel
theorem dX8_takeRead_105 : decode cX8_takeRead 105 = .ok (.istore_n 1, 1) := by decide +kernel
theorem dX8_takeRead_106 : decode cX8_takeRead 106 = .ok (.iload_n 1, 1) := by decide +kernel
theorem dX8_takeRead_107 : decode cX8_takeRead 107 = .ok (.bipush 7, 2) := by decide +kernel
theorem dX8_takeRead_109 : decode cX8_takeRead 109 = .ok (.if_icmp .ge 70, 3) := by decide +kernel
theorem dX8_takeRead_112 : decode cX8_takeRead 112 = .ok (.aload_n 0, 1) := by decide +kernel
theorem dX8_takeRead_113 : decode cX8_takeRead 113 = .ok (.getfield 16, 3) := by decide +kernel
theorem dX8_takeRead_116 : decode cX8_takeRead 116 = .ok (.iload_n 1, 1) := by decide +kernel
theorem dX8_takeRead_117 : decode cX8_takeRead 117 = .ok (.iload_n 1, 1) := by decide +kernel
theorem dX8_takeRead_118 : decode cX8_takeRead 118 = .ok (.aload_n 0, 1) := by decide +kernel
theorem dX8_takeRead_119 : decode cX8_takeRead 119 = .ok (.getfield 94, 3) := by decide +kernel
theorem dX8_takeRead_122 : decode cX8_takeRead 122 = .ok (.if_icmp .ge 12, 3) := by decide +kernel
theorem dX8_takeRead_125 : decode cX8_takeRead 125 = .ok (.aload_n 0, 1) := by decide +kernel
theorem dX8_takeRead_126 : decode cX8_takeRead 126 = .ok (.getfield 35, 3) := by decide +kernel
theorem dX8_takeRead_129 : decode cX8_takeRead 129 = .ok (.iload_n 1, 1) := by decide +kernel
theorem dX8_takeRead_130 : decode cX8_takeRead 130 = .ok (.iaload, 1) := by decide +kernel
theorem dX8_takeRead_131 : decode cX8_takeRead 131 = .ok (.goto 4, 3) := by decide +kernel
theorem dX8_takeRead_134 : decode cX8_takeRead 134 = .ok (.iconst 0, 1) := by decide +kernel
theorem dX8_takeRead_135 : decode cX8_takeRead 135 = .ok (.iastore, 1) := by decide +kernel
theorem dX8_takeRead_136 : decode cX8_takeRead 136 = .ok (.aload_n 0, 1) := by decide +kernel
theorem dX8_takeRead_137 : decode cX8_takeRead 137 = .ok (.getfield 16, 3) := by decide +kernel
theorem dX8_takeRead_140 : decode cX8_takeRead 140 = .ok (.bipush 7, 2) := by decide +kernel
theorem dX8_takeRead_142 : decode cX8_takeRead 142 = .ok (.iload_n 1, 1) := by decide +kernel
theorem dX8_takeRead_143 : decode cX8_takeRead 143 = .ok (.iadd, 1) := by decide +kernel
theorem dX8_takeRead_144 : decode cX8_takeRead 144 = .ok (.iconst (-1), 1) := by decide +kernel
theorem dX8_takeRead_145 : decode cX8_takeRead 145 = .ok (.iastore, 1) := by decide +kernel
theorem dX8_takeRead_146 : decode cX8_takeRead 146 = .ok (.aload_n 0, 1) := by decide +kernel
theorem dX8_takeRead_147 : decode cX8_takeRead 147 = .ok (.getfield 16, 3) := by decide +kernel
theorem dX8_takeRead_150 : decode cX8_takeRead 150 = .ok (.bipush 14, 2) := by decide +kernel
theorem dX8_takeRead_152 : decode cX8_takeRead 152 = .ok (.iload_n 1, 1) := by decide +kernel
theorem dX8_takeRead_153 : decode cX8_takeRead 153 = .ok (.iadd, 1) := by decide +kernel
theorem dX8_takeRead_154 : decode cX8_takeRead 154 = .ok (.iload_n 1, 1) := by decide +kernel
theorem dX8_takeRead_155 : decode cX8_takeRead 155 = .ok (.aload_n 0, 1) := by decide +kernel
theorem dX8_takeRead_156 : decode cX8_takeRead 156 = .ok (.getfield 94, 3) := by decide +kernel
theorem dX8_takeRead_159 : decode cX8_takeRead 159 = .ok (.if_icmp .ge 12, 3) := by decide +kernel
theorem dX8_takeRead_162 : decode cX8_takeRead 162 = .ok (.aload_n 0, 1) := by decide +kernel
theorem dX8_takeRead_163 : decode cX8_takeRead 163 = .ok (.getfield 38, 3) := by decide +kernel
