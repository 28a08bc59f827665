theorem dX5_madeIllBy_31 : decode cX5_madeIllBy 31 = .ok (.iaload, 1) := by decide +kernel
theorem dX5_madeIllBy_32 : decode cX5_madeIllBy 32 = .ok (.bipush 10, 2) := by decide +kernel
theorem dX5_madeIllBy_34 : decode cX5_madeIllBy 34 = .ok (.irem, 1) := by decide +kernel
theorem dX5_madeIllBy_35 : decode cX5_madeIllBy 35 = .ok (.ishl, 1) := by decide +kernel
theorem dX5_madeIllBy_36 : decode cX5_madeIllBy 36 = .ok (.ior, 1) := by decide +kernel
theorem dX5_madeIllBy_37 : decode cX5_madeIllBy 37 = .ok (.istore 4, 2) := by decide +kernel
theorem dX5_madeIllBy_39 : decode cX5_madeIllBy 39 = .ok (.iload_n 2, 1) := by decide +kernel
theorem dX5_madeIllBy_40 : decode cX5_madeIllBy 40 = .ok (.iload 4, 2) := by decide +kernel
theorem dX5_madeIllBy_42 : decode cX5_madeIllBy 42 = .ok (.iand, 1) := by decide +kernel
theorem dX5_madeIllBy_43 : decode cX5_madeIllBy 43 = .ok (.ifCond .eq 8, 3) := by decide +kernel
theorem dX5_madeIllBy_46 : decode cX5_madeIllBy 46 = .ok (.iload_n 2, 1) := by decide +kernel
theorem dX5_madeIllBy_47 : decode cX5_madeIllBy 47 = .ok (.iload 4, 2) := by decide +kernel
theorem dX5_madeIllBy_49 : decode cX5_madeIllBy 49 = .ok (.ior, 1) := by decide +kernel
theorem dX5_madeIllBy_50 : decode cX5_madeIllBy 50 = .ok (.istore_n 2, 1) := by decide +kernel
theorem dX5_madeIllBy_51 : decode cX5_madeIllBy 51 = .ok (.iinc 3 1, 3) := by decide +kernel
theorem dX5_madeIllBy_54 : decode cX5_madeIllBy 54 = .ok (.goto (-48), 3) := by decide +kernel
theorem dX5_madeIllBy_57 : decode cX5_madeIllBy 57 = .ok (.iload_n 2, 1) := by decide +kernel
theorem dX5_madeIllBy_58 : decode cX5_madeIllBy 58 = .ok (.ireturn, 1) := by decide +kernel
theorem dX6_init_0 : decode cX6_init 0 = .ok (.aload_n 0, 1) := by decide +kernel
theorem dX6_init_1 : decode cX6_init 1 = .ok (.invokespecial 3, 3) := by decide +kernel
theorem dX6_init_4 : decode cX6_init 4 = .ok (.aload_n 0, 1) := by decide +kernel
theorem dX6_init_5 : decode cX6_init 5 = .ok (.sipush 240, 3) := by decide +kernel
theorem dX6_init_8 : decode cX6_init 8 = .ok (.newarray .int, 2) := by decide +kernel
theorem dX6_init_10 : decode cX6_init 10 = .ok (.putfield 9, 3) := by decide +kernel
theorem dX6_init_13 : decode cX6_init 13 = .ok (.return_, 1) := by decide +kernel
theorem dX6_append_0 : decode cX6_append 0 = .ok (.aload_n 0, 1) := by decide +kernel
theorem dX6_append_1 : decode cX6_append 1 = .ok (.getfield 15, 3) := by decide +kernel
theorem dX6_append_4 : decode cX6_append 4 = .ok (.sipush 240, 3) := by decide +kernel
theorem dX6_append_7 : decode cX6_append 7 = .ok (.if_icmp .ge 23, 3) := by decide +kernel
theorem dX6_append_10 : decode cX6_append 10 = .ok (.aload_n 0, 1) := by decide +kernel
theorem dX6_append_11 : decode cX6_append 11 = .ok (.getfield 9, 3) := by decide +kernel
theorem dX6_append_14 : decode cX6_append 14 = .ok (.aload_n 0, 1) := by decide +kernel
theorem dX6_append_15 : decode cX6_append 15 = .ok (.getfield 15, 3) := by decide +kernel
theorem dX6_append_18 : decode cX6_append 18 = .ok (.iload_n 1, 1) := by decide +kernel
theorem dX6_append_19 : decode cX6_append 19 = .ok (.iastore, 1) := by decide +kernel
theorem dX6_append_20 : decode cX6_append 20 = .ok (.aload_n 0, 1) := by decide +kernel
theorem dX6_append_21 : decode cX6_append 21 = .ok (.dup, 1) := by decide +kernel
theorem dX6_append_22 : decode cX6_append 22 = .ok (.getfield 15, 3) := by decide +kernel
theorem dX6_append_25 : decode cX6_append 25 = .ok (.iconst 1, 1) := by decide +kernel
theorem dX6_append_26 : decode cX6_append 26 = .ok (.iadd, 1) := by decide +kernel
theorem dX6_append_27 : decode cX6_append 27 = .ok (.putfield 15, 3) := by decide +kernel
theorem dX6_append_30 : decode cX6_append 30 = .ok (.aload_n 0, 1) := by decide +kernel
theorem dX6_append_31 : decode cX6_append 31 = .ok (.getfield 15, 3) := by decide +kernel
theorem dX6_append_34 : decode cX6_append 34 = .ok (.ireturn, 1) := by decide +kernel
theorem dX6_readInto_0 : decode cX6_readInto 0 = .ok (.aload_n 0, 1) := by decide +kernel
theorem dX6_readInto_1 : decode cX6_readInto 1 = .ok (.iconst 0, 1) := by decide +kernel
theorem dX6_readInto_2 : decode cX6_readInto 2 = .ok (.putfield 19, 3) := by decide +kernel
theorem dX6_readInto_5 : decode cX6_readInto 5 = .ok (.aload_n 0, 1) := by decide +kernel
theorem dX6_readInto_6 : decode cX6_readInto 6 = .ok (.iconst 0, 1) := by decide +kernel
theorem dX6_readInto_7 : decode cX6_readInto 7 = .ok (.putfield 22, 3) := by decide +kernel
theorem dX6_readInto_10 : decode cX6_readInto 10 = .ok (.aload_n 0, 1) := by decide +kernel
theorem dX6_readInto_11 : decode cX6_readInto 11 = .ok (.iconst (-1), 1) := by decide +kernel
theorem dX6_readInto_12 : decode cX6_readInto 12 = .ok (.putfield 25, 3) := by decide +kernel
theorem dX6_readInto_15 : decode cX6_readInto 15 = .ok (.aload_n 1, 1) := by decide +kernel
theorem dX6_readInto_16 : decode cX6_readInto 16 = .ok (.invokevirtual 28, 3) := by decide +kernel
theorem dX6_readInto_19 : decode cX6_readInto 19 = .ok (.aload_n 0, 1) := by decide +kernel
theorem dX6_readInto_20 : decode cX6_readInto 20 = .ok (.invokevirtual 33, 3) := by decide +kernel
theorem dX6_readInto_23 : decode cX6_readInto 23 = .ok (.iconst 0, 1) := by decide +kernel
theorem dX6_readInto_24 : decode cX6_readInto 24 = .ok (.istore_n 2, 1) := by decide +kernel
theorem dX6_readInto_25 : decode cX6_readInto 25 = .ok (.iload_n 2, 1) := by decide +kernel
theorem dX6_readInto_26 : decode cX6_readInto 26 = .ok (.sipush 240, 3) := by decide +kernel
theorem dX6_readInto_29 : decode cX6_readInto 29 = .ok (.if_icmp .ge 36, 3) := by decide +kernel
theorem dX6_readInto_32 : decode cX6_readInto 32 = .ok (.aload_n 0, 1) := by decide +kernel
theorem dX6_readInto_33 : decode cX6_readInto 33 = .ok (.getfield 22, 3) := by decide +kernel
theorem dX6_readInto_36 : decode cX6_readInto 36 = .ok (.ifCond .ne 29, 3) := by decide +kernel
theorem dX6_readInto_39 : decode cX6_readInto 39 = .ok (.aload_n 0, 1) := by decide +kernel
theorem dX6_readInto_40 : decode cX6_readInto 40 = .ok (.getfield 19, 3) := by decide +kernel
theorem dX6_readInto_43 : decode cX6_readInto 43 = .ok (.aload_n 0, 1) := by decide +kernel
theorem dX6_readInto_44 : decode cX6_readInto 44 = .ok (.getfield 15, 3) := by decide +kernel
theorem dX6_readInto_47 : decode cX6_readInto 47 = .ok (.if_icmp .ge 18, 3) := by decide +kernel
theorem dX6_readInto_50 : decode cX6_readInto 50 = .ok (.aload_n 0, 1) := by decide +kernel
theorem dX6_readInto_51 : decode cX6_readInto 51 = .ok (.aload_n 1, 1) := by decide +kernel
theorem dX6_readInto_52 : decode cX6_readInto 52 = .ok (.invokevirtual 36, 3) := by decide +kernel
theorem dX6_readInto_55 : decode cX6_readInto 55 = .ok (.aload_n 0, 1) := by decide +kernel
theorem dX6_readInto_56 : decode cX6_readInto 56 = .ok (.invokevirtual 33, 3) := by decide +kernel
theorem dX6_readInto_59 : decode cX6_readInto 59 = .ok (.iinc 2 1, 3) := by decide +kernel
theorem dX6_readInto_62 : decode cX6_readInto 62 = .ok (.goto (-37), 3) := by decide +kernel
theorem dX6_readInto_65 : decode cX6_readInto 65 = .ok (.aload_n 0, 1) := by decide +kernel
theorem dX6_readInto_66 : decode cX6_readInto 66 = .ok (.getfield 22, 3) := by decide +kernel
theorem dX6_readInto_69 : decode cX6_readInto 69 = .ok (.ireturn, 1) := by decide +kernel
theorem dX6_blame_0 : decode cX6_blame 0 = .ok (.aload_n 0, 1) := by decide +kernel
theorem dX6_blame_1 : decode cX6_blame 1 = .ok (.getfield 22, 3) := by decide +kernel
theorem dX6_blame_4 : decode cX6_blame 4 = .ok (.ifCond .ne 13, 3) := by decide +kernel
theorem dX6_blame_7 : decode cX6_blame 7 = .ok (.aload_n 0, 1) := by decide +kernel
theorem dX6_blame_8 : decode cX6_blame 8 = .ok (.iload_n 1, 1) := by decide +kernel
theorem dX6_blame_9 : decode cX6_blame 9 = .ok (.putfield 22, 3) := by decide +kernel
theorem dX6_blame_12 : decode cX6_blame 12 = .ok (.aload_n 0, 1) := by decide +kernel
theorem dX6_blame_13 : decode cX6_blame 13 = .ok (.iload_n 2, 1) := by decide +kernel
theorem dX6_blame_14 : decode cX6_blame 14 = .ok (.putfield 25, 3) := by decide +kernel
theorem dX6_blame_17 : decode cX6_blame 17 = .ok (.return_, 1) := by decide +kernel
theorem dX6_skipBlanks_0 : decode cX6_skipBlanks 0 = .ok (.aload_n 0, 1) := by decide +kernel
theorem dX6_skipBlanks_1 : decode cX6_skipBlanks 1 = .ok (.getfield 19, 3) := by decide +kernel
theorem dX6_skipBlanks_4 : decode cX6_skipBlanks 4 = .ok (.aload_n 0, 1) := by decide +kernel
theorem dX6_skipBlanks_5 : decode cX6_skipBlanks 5 = .ok (.getfield 15, 3) := by decide +kernel
theorem dX6_skipBlanks_8 : decode cX6_skipBlanks 8 = .ok (.if_icmp .ge 30, 3) := by decide +kernel
theorem dX6_skipBlanks_11 : decode cX6_skipBlanks 11 = .ok (.aload_n 0, 1) := by decide +kernel
theorem dX6_skipBlanks_12 : decode cX6_skipBlanks 12 = .ok (.getfield 9, 3) := by decide +kernel
theorem dX6_skipBlanks_15 : decode cX6_skipBlanks 15 = .ok (.aload_n 0, 1) := by decide +kernel
theorem dX6_skipBlanks_16 : decode cX6_skipBlanks 16 = .ok (.getfield 19, 3) := by decide +kernel
theorem dX6_skipBlanks_19 : decode cX6_skipBlanks 19 = .ok (.iaload, 1) := by decide +kernel
theorem dX6_skipBlanks_20 : decode cX6_skipBlanks 20 = .ok (.bipush 32, 2) := by decide +kernel
theorem dX6_skipBlanks_22 : decode cX6_skipBlanks 22 = .ok (.if_icmp .ne 16, 3) := by decide +kernel
theorem dX6_skipBlanks_25 : decode cX6_skipBlanks 25 = .ok (.aload_n 0, 1) := by decide +kernel
theorem dX6_skipBlanks_26 : decode cX6_skipBlanks 26 = .ok (.dup, 1) := by decide +kernel
theorem dX6_skipBlanks_27 : decode cX6_skipBlanks 27 = .ok (.getfield 19, 3) := by decide +kernel
theorem dX6_skipBlanks_30 : decode cX6_skipBlanks 30 = .ok (.iconst 1, 1) := by decide +kernel
theorem dX6_skipBlanks_31 : decode cX6_skipBlanks 31 = .ok (.iadd, 1) := by decide +kernel
theorem dX6_skipBlanks_32 : decode cX6_skipBlanks 32 = .ok (.putfield 19, 3) := by decide +kernel
theorem dX6_skipBlanks_35 : decode cX6_skipBlanks 35 = .ok (.goto (-35), 3) := by decide +kernel
theorem dX6_skipBlanks_38 : decode cX6_skipBlanks 38 = .ok (.return_, 1) := by decide +kernel
theorem dX6_readClause_0 : decode cX6_readClause 0 = .ok (.aload_n 0, 1) := by decide +kernel
theorem dX6_readClause_1 : decode cX6_readClause 1 = .ok (.getfield 19, 3) := by decide +kernel
theorem dX6_readClause_4 : decode cX6_readClause 4 = .ok (.istore_n 2, 1) := by decide +kernel
theorem dX6_readClause_5 : decode cX6_readClause 5 = .ok (.aload_n 0, 1) := by decide +kernel
theorem dX6_readClause_6 : decode cX6_readClause 6 = .ok (.dup, 1) := by decide +kernel
theorem dX6_readClause_7 : decode cX6_readClause 7 = .ok (.getfield 19, 3) := by decide +kernel
theorem dX6_readClause_10 : decode cX6_readClause 10 = .ok (.iconst 1, 1) := by decide +kernel
theorem dX6_readClause_11 : decode cX6_readClause 11 = .ok (.iadd, 1) := by decide +kernel
theorem dX6_readClause_12 : decode cX6_readClause 12 = .ok (.putfield 19, 3) := by decide +kernel
theorem dX6_readClause_15 : decode cX6_readClause 15 = .ok (.aload_n 0, 1) := by decide +kernel
theorem dX6_readClause_16 : decode cX6_readClause 16 = .ok (.getfield 9, 3) := by decide +kernel
theorem dX6_readClause_19 : decode cX6_readClause 19 = .ok (.iload_n 2, 1) := by decide +kernel
theorem dX6_readClause_20 : decode cX6_readClause 20 = .ok (.iaload, 1) := by decide +kernel
theorem dX6_readClause_21 : decode cX6_readClause 21 = .ok (.lookupswitch 61 #[(103, 35), (108, 53), (112, 44)], 35) := by decide +kernel
theorem dX6_readClause_56 : decode cX6_readClause 56 = .ok (.aload_n 0, 1) := by decide +kernel
theorem dX6_readClause_57 : decode cX6_readClause 57 = .ok (.aload_n 1, 1) := by decide +kernel
theorem dX6_readClause_58 : decode cX6_readClause 58 = .ok (.iload_n 2, 1) := by decide +kernel
theorem dX6_readClause_59 : decode cX6_readClause 59 = .ok (.invokevirtual 40, 3) := by decide +kernel
theorem dX6_readClause_62 : decode cX6_readClause 62 = .ok (.goto 26, 3) := by decide +kernel
theorem dX6_readClause_65 : decode cX6_readClause 65 = .ok (.aload_n 0, 1) := by decide +kernel
theorem dX6_readClause_66 : decode cX6_readClause 66 = .ok (.aload_n 1, 1) := by decide +kernel
theorem dX6_readClause_67 : decode cX6_readClause 67 = .ok (.iload_n 2, 1) := by decide +kernel
theorem dX6_readClause_68 : decode cX6_readClause 68 = .ok (.invokevirtual 44, 3) := by decide +kernel
theorem dX6_readClause_71 : decode cX6_readClause 71 = .ok (.goto 17, 3) := by decide +kernel
theorem dX6_readClause_74 : decode cX6_readClause 74 = .ok (.aload_n 0, 1) := by decide +kernel
theorem dX6_readClause_75 : decode cX6_readClause 75 = .ok (.aload_n 1, 1) := by decide +kernel
theorem dX6_readClause_76 : decode cX6_readClause 76 = .ok (.invokevirtual 47, 3) := by decide +kernel
theorem dX6_readClause_79 : decode cX6_readClause 79 = .ok (.goto 9, 3) := by decide +kernel
theorem dX6_readClause_82 : decode cX6_readClause 82 = .ok (.aload_n 0, 1) := by decide +kernel
theorem dX6_readClause_83 : decode cX6_readClause 83 = .ok (.iconst 1, 1) := by decide +kernel
theorem dX6_readClause_84 : decode cX6_readClause 84 = .ok (.iload_n 2, 1) := by decide +kernel
theorem dX6_readClause_85 : decode cX6_readClause 85 = .ok (.invokevirtual 50, 3) := by decide +kernel
theorem dX6_readClause_88 : decode cX6_readClause 88 = .ok (.return_, 1) := by decide +kernel
theorem dX6_readGate_0 : decode cX6_readGate 0 = .ok (.aload_n 1, 1) := by decide +kernel
theorem dX6_readGate_1 : decode cX6_readGate 1 = .ok (.getfield 54, 3) := by decide +kernel
theorem dX6_readGate_4 : decode cX6_readGate 4 = .ok (.iconst 5, 1) := by decide +kernel
theorem dX6_readGate_5 : decode cX6_readGate 5 = .ok (.if_icmp .lt 9, 3) := by decide +kernel
theorem dX6_readGate_8 : decode cX6_readGate 8 = .ok (.aload_n 0, 1) := by decide +kernel
theorem dX6_readGate_9 : decode cX6_readGate 9 = .ok (.iconst 3, 1) := by decide +kernel
theorem dX6_readGate_10 : decode cX6_readGate 10 = .ok (.iload_n 2, 1) := by decide +kernel
theorem dX6_readGate_11 : decode cX6_readGate 11 = .ok (.invokevirtual 50, 3) := by decide +kernel
theorem dX6_readGate_14 : decode cX6_readGate 14 = .ok (.aload_n 0, 1) := by decide +kernel
theorem dX6_readGate_15 : decode cX6_readGate 15 = .ok (.iconst 1, 1) := by decide +kernel
theorem dX6_readGate_16 : decode cX6_readGate 16 = .ok (.bipush 99, 2) := by decide +kernel
theorem dX6_readGate_18 : decode cX6_readGate 18 = .ok (.invokevirtual 57, 3) := by decide +kernel
theorem dX6_readGate_21 : decode cX6_readGate 21 = .ok (.istore_n 3, 1) := by decide +kernel
theorem dX6_readGate_22 : decode cX6_readGate 22 = .ok (.aload_n 0, 1) := by decide +kernel
theorem dX6_readGate_23 : decode cX6_readGate 23 = .ok (.invokevirtual 61, 3) := by decide +kernel
theorem dX6_readGate_26 : decode cX6_readGate 26 = .ok (.ifCond .eq 8, 3) := by decide +kernel
theorem dX6_readGate_29 : decode cX6_readGate 29 = .ok (.aload_n 1, 1) := by decide +kernel
theorem dX6_readGate_30 : decode cX6_readGate 30 = .ok (.iload_n 3, 1) := by decide +kernel
theorem dX6_readGate_31 : decode cX6_readGate 31 = .ok (.invokevirtual 65, 3) := by decide +kernel
theorem dX6_readGate_34 : decode cX6_readGate 34 = .ok (.return_, 1) := by decide +kernel
theorem dX6_readPerson_0 : decode cX6_readPerson 0 = .ok (.aload_n 1, 1) := by decide +kernel
theorem dX6_readPerson_1 : decode cX6_readPerson 1 = .ok (.getfield 69, 3) := by decide +kernel
theorem dX6_readPerson_4 : decode cX6_readPerson 4 = .ok (.bipush 7, 2) := by decide +kernel
theorem dX6_readPerson_6 : decode cX6_readPerson 6 = .ok (.if_icmp .lt 9, 3) := by decide +kernel
theorem dX6_readPerson_9 : decode cX6_readPerson 9 = .ok (.aload_n 0, 1) := by decide +kernel
theorem dX6_readPerson_10 : decode cX6_readPerson 10 = .ok (.iconst 3, 1) := by decide +kernel
theorem dX6_readPerson_11 : decode cX6_readPerson 11 = .ok (.iload_n 2, 1) := by decide +kernel
theorem dX6_readPerson_12 : decode cX6_readPerson 12 = .ok (.invokevirtual 50, 3) := by decide +kernel
theorem dX6_readPerson_15 : decode cX6_readPerson 15 = .ok (.aload_n 0, 1) := by decide +kernel
theorem dX6_readPerson_16 : decode cX6_readPerson 16 = .ok (.iconst 0, 1) := by decide +kernel
theorem dX6_readPerson_17 : decode cX6_readPerson 17 = .ok (.iconst 1, 1) := by decide +kernel
theorem dX6_readPerson_18 : decode cX6_readPerson 18 = .ok (.invokevirtual 57, 3) := by decide +kernel
theorem dX6_readPerson_21 : decode cX6_readPerson 21 = .ok (.istore_n 3, 1) := by decide +kernel
theorem dX6_readPerson_22 : decode cX6_readPerson 22 = .ok (.aload_n 0, 1) := by decide +kernel
theorem dX6_readPerson_23 : decode cX6_readPerson 23 = .ok (.iconst 0, 1) := by decide +kernel
theorem dX6_readPerson_24 : decode cX6_readPerson 24 = .ok (.iconst 1, 1) := by decide +kernel
theorem dX6_readPerson_25 : decode cX6_readPerson 25 = .ok (.invokevirtual 57, 3) := by decide +kernel
theorem dX6_readPerson_28 : decode cX6_readPerson 28 = .ok (.istore 4, 2) := by decide +kernel
theorem dX6_readPerson_30 : decode cX6_readPerson 30 = .ok (.aload_n 0, 1) := by decide +kernel
theorem dX6_readPerson_31 : decode cX6_readPerson 31 = .ok (.invokevirtual 61, 3) := by decide +kernel
theorem dX6_readPerson_34 : decode cX6_readPerson 34 = .ok (.ifCond .eq 10, 3) := by decide +kernel
theorem dX6_readPerson_37 : decode cX6_readPerson 37 = .ok (.aload_n 1, 1) := by decide +kernel
theorem dX6_readPerson_38 : decode cX6_readPerson 38 = .ok (.iload_n 3, 1) := by decide +kernel
theorem dX6_readPerson_39 : decode cX6_readPerson 39 = .ok (.iload 4, 2) := by decide +kernel
theorem dX6_readPerson_41 : decode cX6_readPerson 41 = .ok (.invokevirtual 72, 3) := by decide +kernel
theorem dX6_readPerson_44 : decode cX6_readPerson 44 = .ok (.return_, 1) := by decide +kernel
theorem dX6_readLiking_0 : decode cX6_readLiking 0 = .ok (.aload_n 0, 1) := by decide +kernel
theorem dX6_readLiking_1 : decode cX6_readLiking 1 = .ok (.iconst 0, 1) := by decide +kernel
theorem dX6_readLiking_2 : decode cX6_readLiking 2 = .ok (.aload_n 1, 1) := by decide +kernel
theorem dX6_readLiking_3 : decode cX6_readLiking 3 = .ok (.getfield 69, 3) := by decide +kernel
theorem dX6_readLiking_6 : decode cX6_readLiking 6 = .ok (.iconst 1, 1) := by decide +kernel
theorem dX6_readLiking_7 : decode cX6_readLiking 7 = .ok (.isub, 1) := by decide +kernel
theorem dX6_readLiking_8 : decode cX6_readLiking 8 = .ok (.invokevirtual 57, 3) := by decide +kernel
theorem dX6_readLiking_11 : decode cX6_readLiking 11 = .ok (.istore_n 2, 1) := by decide +kernel
theorem dX6_readLiking_12 : decode cX6_readLiking 12 = .ok (.aload_n 0, 1) := by decide +kernel
theorem dX6_readLiking_13 : decode cX6_readLiking 13 = .ok (.iconst 0, 1) := by decide +kernel
theorem dX6_readLiking_14 : decode cX6_readLiking 14 = .ok (.aload_n 1, 1) := by decide +kernel
theorem dX6_readLiking_15 : decode cX6_readLiking 15 = .ok (.getfield 69, 3) := by decide +kernel
theorem dX6_readLiking_18 : decode cX6_readLiking 18 = .ok (.iconst 1, 1) := by decide +kernel
theorem dX6_readLiking_19 : decode cX6_readLiking 19 = .ok (.isub, 1) := by decide +kernel
theorem dX6_readLiking_20 : decode cX6_readLiking 20 = .ok (.invokevirtual 57, 3) := by decide +kernel
theorem dX6_readLiking_23 : decode cX6_readLiking 23 = .ok (.istore_n 3, 1) := by decide +kernel
theorem dX6_readLiking_24 : decode cX6_readLiking 24 = .ok (.iload_n 2, 1) := by decide +kernel
theorem dX6_readLiking_25 : decode cX6_readLiking 25 = .ok (.iload_n 3, 1) := by decide +kernel
theorem dX6_readLiking_26 : decode cX6_readLiking 26 = .ok (.if_icmp .eq 12, 3) := by decide +kernel
theorem dX6_readLiking_29 : decode cX6_readLiking 29 = .ok (.aload_n 1, 1) := by decide +kernel
theorem dX6_readLiking_30 : decode cX6_readLiking 30 = .ok (.iload_n 2, 1) := by decide +kernel
theorem dX6_readLiking_31 : decode cX6_readLiking 31 = .ok (.iload_n 3, 1) := by decide +kernel
theorem dX6_readLiking_32 : decode cX6_readLiking 32 = .ok (.invokevirtual 75, 3) := by decide +kernel
theorem dX6_readLiking_35 : decode cX6_readLiking 35 = .ok (.ifCond .eq 12, 3) := by decide +kernel
theorem dX6_readLiking_38 : decode cX6_readLiking 38 = .ok (.aload_n 0, 1) := by decide +kernel
theorem dX6_readLiking_39 : decode cX6_readLiking 39 = .ok (.iconst 4, 1) := by decide +kernel
theorem dX6_readLiking_40 : decode cX6_readLiking 40 = .ok (.aload_n 0, 1) := by decide +kernel
theorem dX6_readLiking_41 : decode cX6_readLiking 41 = .ok (.getfield 79, 3) := by decide +kernel
theorem dX6_readLiking_44 : decode cX6_readLiking 44 = .ok (.invokevirtual 50, 3) := by decide +kernel
theorem dX6_readLiking_47 : decode cX6_readLiking 47 = .ok (.aload_n 0, 1) := by decide +kernel
theorem dX6_readLiking_48 : decode cX6_readLiking 48 = .ok (.iconst 0, 1) := by decide +kernel
theorem dX6_readLiking_49 : decode cX6_readLiking 49 = .ok (.bipush 9, 2) := by decide +kernel
theorem dX6_readLiking_51 : decode cX6_readLiking 51 = .ok (.invokevirtual 57, 3) := by decide +kernel
theorem dX6_readLiking_54 : decode cX6_readLiking 54 = .ok (.istore 4, 2) := by decide +kernel
theorem dX6_readLiking_56 : decode cX6_readLiking 56 = .ok (.aload_n 0, 1) := by decide +kernel
theorem dX6_readLiking_57 : decode cX6_readLiking 57 = .ok (.invokevirtual 61, 3) := by decide +kernel
theorem dX6_readLiking_60 : decode cX6_readLiking 60 = .ok (.ifCond .eq 11, 3) := by decide +kernel
theorem dX6_readLiking_63 : decode cX6_readLiking 63 = .ok (.aload_n 1, 1) := by decide +kernel
theorem dX6_readLiking_64 : decode cX6_readLiking 64 = .ok (.iload_n 2, 1) := by decide +kernel
theorem dX6_readLiking_65 : decode cX6_readLiking 65 = .ok (.iload_n 3, 1) := by decide +kernel
theorem dX6_readLiking_66 : decode cX6_readLiking 66 = .ok (.iload 4, 2) := by decide +kernel
theorem dX6_readLiking_68 : decode cX6_readLiking 68 = .ok (.invokevirtual 82, 3) := by decide +kernel
theorem dX6_readLiking_71 : decode cX6_readLiking 71 = .ok (.return_, 1) := by decide +kernel
theorem dX6_readNumber_0 : decode cX6_readNumber 0 = .ok (.aload_n 0, 1) := by decide +kernel
theorem dX6_readNumber_1 : decode cX6_readNumber 1 = .ok (.getfield 22, 3) := by decide +kernel
theorem dX6_readNumber_4 : decode cX6_readNumber 4 = .ok (.ifCond .eq 5, 3) := by decide +kernel
theorem dX6_readNumber_7 : decode cX6_readNumber 7 = .ok (.iconst 0, 1) := by decide +kernel
theorem dX6_readNumber_8 : decode cX6_readNumber 8 = .ok (.ireturn, 1) := by decide +kernel
theorem dX6_readNumber_9 : decode cX6_readNumber 9 = .ok (.aload_n 0, 1) := by decide +kernel
theorem dX6_readNumber_10 : decode cX6_readNumber 10 = .ok (.invokevirtual 33, 3) := by decide +kernel
theorem dX6_readNumber_13 : decode cX6_readNumber 13 = .ok (.aload_n 0, 1) := by decide +kernel
theorem dX6_readNumber_14 : decode cX6_readNumber 14 = .ok (.aload_n 0, 1) := by decide +kernel
theorem dX6_readNumber_15 : decode cX6_readNumber 15 = .ok (.getfield 19, 3) := by decide +kernel
theorem dX6_readNumber_18 : decode cX6_readNumber 18 = .ok (.putfield 79, 3) := by decide +kernel
theorem dX6_readNumber_21 : decode cX6_readNumber 21 = .ok (.iconst 0, 1) := by decide +kernel
theorem dX6_readNumber_22 : decode cX6_readNumber 22 = .ok (.istore_n 3, 1) := by decide +kernel
theorem dX6_readNumber_23 : decode cX6_readNumber 23 = .ok (.aload_n 0, 1) := by decide +kernel
theorem dX6_readNumber_24 : decode cX6_readNumber 24 = .ok (.getfield 19, 3) := by decide +kernel
theorem dX6_readNumber_27 : decode cX6_readNumber 27 = .ok (.aload_n 0, 1) := by decide +kernel
theorem dX6_readNumber_28 : decode cX6_readNumber 28 = .ok (.getfield 15, 3) := by decide +kernel
theorem dX6_readNumber_31 : decode cX6_readNumber 31 = .ok (.if_icmp .ge 75, 3) := by decide +kernel
theorem dX6_readNumber_34 : decode cX6_readNumber 34 = .ok (.aload_n 0, 1) := by decide +kernel
theorem dX6_readNumber_35 : decode cX6_readNumber 35 = .ok (.getfield 9, 3) := by decide +kernel
theorem dX6_readNumber_38 : decode cX6_readNumber 38 = .ok (.aload_n 0, 1) := by decide +kernel
theorem dX6_readNumber_39 : decode cX6_readNumber 39 = .ok (.getfield 19, 3) := by decide +kernel
theorem dX6_readNumber_42 : decode cX6_readNumber 42 = .ok (.iaload, 1) := by decide +kernel
theorem dX6_readNumber_43 : decode cX6_readNumber 43 = .ok (.bipush 48, 2) := by decide +kernel
theorem dX6_readNumber_45 : decode cX6_readNumber 45 = .ok (.if_icmp .lt 61, 3) := by decide +kernel
theorem dX6_readNumber_48 : decode cX6_readNumber 48 = .ok (.aload_n 0, 1) := by decide +kernel
theorem dX6_readNumber_49 : decode cX6_readNumber 49 = .ok (.getfield 9, 3) := by decide +kernel
theorem dX6_readNumber_52 : decode cX6_readNumber 52 = .ok (.aload_n 0, 1) := by decide +kernel
theorem dX6_readNumber_53 : decode cX6_readNumber 53 = .ok (.getfield 19, 3) := by decide +kernel
theorem dX6_readNumber_56 : decode cX6_readNumber 56 = .ok (.iaload, 1) := by decide +kernel
theorem dX6_readNumber_57 : decode cX6_readNumber 57 = .ok (.bipush 57, 2) := by decide +kernel
theorem dX6_readNumber_59 : decode cX6_readNumber 59 = .ok (.if_icmp .gt 47, 3) := by decide +kernel
theorem dX6_readNumber_62 : decode cX6_readNumber 62 = .ok (.aload_n 0, 1) := by decide +kernel
theorem dX6_readNumber_63 : decode cX6_readNumber 63 = .ok (.getfield 19, 3) := by decide +kernel
theorem dX6_readNumber_66 : decode cX6_readNumber 66 = .ok (.aload_n 0, 1) := by decide +kernel
theorem dX6_readNumber_67 : decode cX6_readNumber 67 = .ok (.getfield 79, 3) := by decide +kernel
theorem dX6_readNumber_70 : decode cX6_readNumber 70 = .ok (.isub, 1) := by decide +kernel
theorem dX6_readNumber_71 : decode cX6_readNumber 71 = .ok (.iconst 3, 1) := by decide +kernel
theorem dX6_readNumber_72 : decode cX6_readNumber 72 = .ok (.if_icmp .ge 21, 3) := by decide +kernel
theorem dX6_readNumber_75 : decode cX6_readNumber 75 = .ok (.bipush 10, 2) := by decide +kernel
theorem dX6_readNumber_77 : decode cX6_readNumber 77 = .ok (.iload_n 3, 1) := by decide +kernel
theorem dX6_readNumber_78 : decode cX6_readNumber 78 = .ok (.imul, 1) := by decide +kernel
theorem dX6_readNumber_79 : decode cX6_readNumber 79 = .ok (.aload_n 0, 1) := by decide +kernel
theorem dX6_readNumber_80 : decode cX6_readNumber 80 = .ok (.getfield 9, 3) := by decide +kernel
theorem dX6_readNumber_83 : decode cX6_readNumber 83 = .ok (.aload_n 0, 1) := by decide +kernel
theorem dX6_readNumber_84 : decode cX6_readNumber 84 = .ok (.getfield 19, 3) := by decide +kernel
theorem dX6_readNumber_87 : decode cX6_readNumber 87 = .ok (.iaload, 1) := by decide +kernel
theorem dX6_readNumber_88 : decode cX6_readNumber 88 = .ok (.iadd, 1) := by decide +kernel
theorem dX6_readNumber_89 : decode cX6_readNumber 89 = .ok (.bipush 48, 2) := by decide +kernel
theorem dX6_readNumber_91 : decode cX6_readNumber 91 = .ok (.isub, 1) := by decide +kernel
theorem dX6_readNumber_92 : decode cX6_readNumber 92 = .ok (.istore_n 3, 1) := by decide +kernel
theorem dX6_readNumber_93 : decode cX6_readNumber 93 = .ok (.aload_n 0, 1) := by decide +kernel
theorem dX6_readNumber_94 : decode cX6_readNumber 94 = .ok (.dup, 1) := by decide +kernel
theorem dX6_readNumber_95 : decode cX6_readNumber 95 = .ok (.getfield 19, 3) := by decide +kernel
theorem dX6_readNumber_98 : decode cX6_readNumber 98 = .ok (.iconst 1, 1) := by decide +kernel
theorem dX6_readNumber_99 : decode cX6_readNumber 99 = .ok (.iadd, 1) := by decide +kernel
theorem dX6_readNumber_100 : decode cX6_readNumber 100 = .ok (.putfield 19, 3) := by decide +kernel
theorem dX6_readNumber_103 : decode cX6_readNumber 103 = .ok (.goto (-80), 3) := by decide +kernel
theorem dX6_readNumber_106 : decode cX6_readNumber 106 = .ok (.aload_n 0, 1) := by decide +kernel
theorem dX6_readNumber_107 : decode cX6_readNumber 107 = .ok (.getfield 19, 3) := by decide +kernel
theorem dX6_readNumber_110 : decode cX6_readNumber 110 = .ok (.aload_n 0, 1) := by decide +kernel
theorem dX6_readNumber_111 : decode cX6_readNumber 111 = .ok (.getfield 79, 3) := by decide +kernel
theorem dX6_readNumber_114 : decode cX6_readNumber 114 = .ok (.if_icmp .ne 15, 3) := by decide +kernel
theorem dX6_readNumber_117 : decode cX6_readNumber 117 = .ok (.aload_n 0, 1) := by decide +kernel
theorem dX6_readNumber_118 : decode cX6_readNumber 118 = .ok (.iconst 1, 1) := by decide +kernel
theorem dX6_readNumber_119 : decode cX6_readNumber 119 = .ok (.aload_n 0, 1) := by decide +kernel
theorem dX6_readNumber_120 : decode cX6_readNumber 120 = .ok (.getfield 19, 3) := by decide +kernel
theorem dX6_readNumber_123 : decode cX6_readNumber 123 = .ok (.invokevirtual 50, 3) := by decide +kernel
theorem dX6_readNumber_126 : decode cX6_readNumber 126 = .ok (.goto 35, 3) := by decide +kernel
theorem dX6_readNumber_129 : decode cX6_readNumber 129 = .ok (.aload_n 0, 1) := by decide +kernel
theorem dX6_readNumber_130 : decode cX6_readNumber 130 = .ok (.getfield 19, 3) := by decide +kernel
theorem dX6_readNumber_133 : decode cX6_readNumber 133 = .ok (.aload_n 0, 1) := by decide +kernel
theorem dX6_readNumber_134 : decode cX6_readNumber 134 = .ok (.getfield 79, 3) := by decide +kernel
theorem dX6_readNumber_137 : decode cX6_readNumber 137 = .ok (.isub, 1) := by decide +kernel
theorem dX6_readNumber_138 : decode cX6_readNumber 138 = .ok (.iconst 3, 1) := by decide +kernel
theorem dX6_readNumber_139 : decode cX6_readNumber 139 = .ok (.if_icmp .gt 13, 3) := by decide +kernel
theorem dX6_readNumber_142 : decode cX6_readNumber 142 = .ok (.iload_n 3, 1) := by decide +kernel
theorem dX6_readNumber_143 : decode cX6_readNumber 143 = .ok (.iload_n 1, 1) := by decide +kernel
theorem dX6_readNumber_144 : decode cX6_readNumber 144 = .ok (.if_icmp .lt 8, 3) := by decide +kernel
theorem dX6_readNumber_147 : decode cX6_readNumber 147 = .ok (.iload_n 3, 1) := by decide +kernel
theorem dX6_readNumber_148 : decode cX6_readNumber 148 = .ok (.iload_n 2, 1) := by decide +kernel
theorem dX6_readNumber_149 : decode cX6_readNumber 149 = .ok (.if_icmp .le 12, 3) := by decide +kernel
theorem dX6_readNumber_152 : decode cX6_readNumber 152 = .ok (.aload_n 0, 1) := by decide +kernel
theorem dX6_readNumber_153 : decode cX6_readNumber 153 = .ok (.iconst 2, 1) := by decide +kernel
theorem dX6_readNumber_154 : decode cX6_readNumber 154 = .ok (.aload_n 0, 1) := by decide +kernel
theorem dX6_readNumber_155 : decode cX6_readNumber 155 = .ok (.getfield 79, 3) := by decide +kernel
theorem dX6_readNumber_158 : decode cX6_readNumber 158 = .ok (.invokevirtual 50, 3) := by decide +kernel
theorem dX6_readNumber_161 : decode cX6_readNumber 161 = .ok (.iload_n 3, 1) := by decide +kernel
theorem dX6_readNumber_162 : decode cX6_readNumber 162 = .ok (.ireturn, 1) := by decide +kernel
theorem dX6_readEnd_0 : decode cX6_readEnd 0 = .ok (.aload_n 0, 1) := by decide +kernel
theorem dX6_readEnd_1 : decode cX6_readEnd 1 = .ok (.getfield 22, 3) := by decide +kernel
theorem dX6_readEnd_4 : decode cX6_readEnd 4 = .ok (.ifCond .eq 5, 3) := by decide +kernel
theorem dX6_readEnd_7 : decode cX6_readEnd 7 = .ok (.iconst 0, 1) := by decide +kernel
theorem dX6_readEnd_8 : decode cX6_readEnd 8 = .ok (.ireturn, 1) := by decide +kernel
theorem dX6_readEnd_9 : decode cX6_readEnd 9 = .ok (.aload_n 0, 1) := by decide +kernel
theorem dX6_readEnd_10 : decode cX6_readEnd 10 = .ok (.invokevirtual 33, 3) := by decide +kernel
theorem dX6_readEnd_13 : decode cX6_readEnd 13 = .ok (.aload_n 0, 1) := by decide +kernel
theorem dX6_readEnd_14 : decode cX6_readEnd 14 = .ok (.getfield 19, 3) := by decide +kernel
theorem dX6_readEnd_17 : decode cX6_readEnd 17 = .ok (.aload_n 0, 1) := by decide +kernel
theorem dX6_readEnd_18 : decode cX6_readEnd 18 = .ok (.getfield 15, 3) := by decide +kernel
theorem dX6_readEnd_21 : decode cX6_readEnd 21 = .ok (.if_icmp .ge 17, 3) := by decide +kernel
theorem dX6_readEnd_24 : decode cX6_readEnd 24 = .ok (.aload_n 0, 1) := by decide +kernel
theorem dX6_readEnd_25 : decode cX6_readEnd 25 = .ok (.getfield 9, 3) := by decide +kernel
theorem dX6_readEnd_28 : decode cX6_readEnd 28 = .ok (.aload_n 0, 1) := by decide +kernel
theorem dX6_readEnd_29 : decode cX6_readEnd 29 = .ok (.getfield 19, 3) := by decide +kernel
theorem dX6_readEnd_32 : decode cX6_readEnd 32 = .ok (.iaload, 1) := by decide +kernel
theorem dX6_readEnd_33 : decode cX6_readEnd 33 = .ok (.bipush 59, 2) := by decide +kernel
theorem dX6_readEnd_35 : decode cX6_readEnd 35 = .ok (.if_icmp .eq 14, 3) := by decide +kernel
theorem dX6_readEnd_38 : decode cX6_readEnd 38 = .ok (.aload_n 0, 1) := by decide +kernel
theorem dX6_readEnd_39 : decode cX6_readEnd 39 = .ok (.iconst 1, 1) := by decide +kernel
theorem dX6_readEnd_40 : decode cX6_readEnd 40 = .ok (.aload_n 0, 1) := by decide +kernel
theorem dX6_readEnd_41 : decode cX6_readEnd 41 = .ok (.getfield 19, 3) := by decide +kernel
theorem dX6_readEnd_44 : decode cX6_readEnd 44 = .ok (.invokevirtual 50, 3) := by decide +kernel
theorem dX6_readEnd_47 : decode cX6_readEnd 47 = .ok (.iconst 0, 1) := by decide +kernel
theorem dX6_readEnd_48 : decode cX6_readEnd 48 = .ok (.ireturn, 1) := by decide +kernel
theorem dX6_readEnd_49 : decode cX6_readEnd 49 = .ok (.aload_n 0, 1) := by decide +kernel
theorem dX6_readEnd_50 : decode cX6_readEnd 50 = .ok (.dup, 1) := by decide +kernel
theorem dX6_readEnd_51 : decode cX6_readEnd 51 = .ok (.getfield 19, 3) := by decide +kernel
theorem dX6_readEnd_54 : decode cX6_readEnd 54 = .ok (.iconst 1, 1) := by decide +kernel
theorem dX6_readEnd_55 : decode cX6_readEnd 55 = .ok (.iadd, 1) := by decide +kernel
theorem dX6_readEnd_56 : decode cX6_readEnd 56 = .ok (.putfield 19, 3) := by decide +kernel
theorem dX6_readEnd_59 : decode cX6_readEnd 59 = .ok (.iconst 1, 1) := by decide +kernel
theorem dX6_readEnd_60 : decode cX6_readEnd 60 = .ok (.ireturn, 1) := by decide +kernel
theorem dX7_init_0 : decode cX7_init 0 = .ok (.aload_n 0, 1) := by decide +kernel
theorem dX7_init_1 : decode cX7_init 1 = .ok (.invokespecial 1, 3) := by decide +kernel
theorem dX7_init_4 : decode cX7_init 4 = .ok (.aload_n 0, 1) := by decide +kernel
theorem dX7_init_5 : decode cX7_init 5 = .ok (.new 7, 3) := by decide +kernel
theorem dX7_init_8 : decode cX7_init 8 = .ok (.dup, 1) := by decide +kernel
theorem dX7_init_9 : decode cX7_init 9 = .ok (.invokespecial 9, 3) := by decide +kernel
theorem dX7_init_12 : decode cX7_init 12 = .ok (.putfield 10, 3) := by decide +kernel
theorem dX7_init_15 : decode cX7_init 15 = .ok (.aload_n 0, 1) := by decide +kernel
theorem dX7_init_16 : decode cX7_init 16 = .ok (.new 16, 3) := by decide +kernel
theorem dX7_init_19 : decode cX7_init 19 = .ok (.dup, 1) := by decide +kernel
theorem dX7_init_20 : decode cX7_init 20 = .ok (.invokespecial 18, 3) := by decide +kernel
theorem dX7_init_23 : decode cX7_init 23 = .ok (.putfield 19, 3) := by decide +kernel
theorem dX7_init_26 : decode cX7_init 26 = .ok (.aload_n 0, 1) := by decide +kernel
theorem dX7_init_27 : decode cX7_init 27 = .ok (.new 23, 3) := by decide +kernel
theorem dX7_init_30 : decode cX7_init 30 = .ok (.dup, 1) := by decide +kernel
theorem dX7_init_31 : decode cX7_init 31 = .ok (.invokespecial 25, 3) := by decide +kernel
theorem dX7_init_34 : decode cX7_init 34 = .ok (.putfield 26, 3) := by decide +kernel
theorem dX7_init_37 : decode cX7_init 37 = .ok (.aload_n 0, 1) := by decide +kernel
theorem dX7_init_38 : decode cX7_init 38 = .ok (.new 30, 3) := by decide +kernel
theorem dX7_init_41 : decode cX7_init 41 = .ok (.dup, 1) := by decide +kernel
theorem dX7_init_42 : decode cX7_init 42 = .ok (.invokespecial 32, 3) := by decide +kernel
theorem dX7_init_45 : decode cX7_init 45 = .ok (.putfield 33, 3) := by decide +kernel
theorem dX7_init_48 : decode cX7_init 48 = .ok (.aload_n 0, 1) := by decide +kernel
theorem dX7_init_49 : decode cX7_init 49 = .ok (.new 37, 3) := by decide +kernel
theorem dX7_init_52 : decode cX7_init 52 = .ok (.dup, 1) := by decide +kernel
theorem dX7_init_53 : decode cX7_init 53 = .ok (.invokespecial 39, 3) := by decide +kernel
theorem dX7_init_56 : decode cX7_init 56 = .ok (.putfield 40, 3) := by decide +kernel
theorem dX7_init_59 : decode cX7_init 59 = .ok (.aload_n 0, 1) := by decide +kernel
theorem dX7_init_60 : decode cX7_init 60 = .ok (.new 44, 3) := by decide +kernel
theorem dX7_init_63 : decode cX7_init 63 = .ok (.dup, 1) := by decide +kernel
theorem dX7_init_64 : decode cX7_init 64 = .ok (.invokespecial 46, 3) := by decide +kernel
theorem dX7_init_67 : decode cX7_init 67 = .ok (.putfield 47, 3) := by decide +kernel
theorem dX7_init_70 : decode cX7_init 70 = .ok (.aload_n 0, 1) := by decide +kernel
theorem dX7_init_71 : decode cX7_init 71 = .ok (.iconst 2, 1) := by decide +kernel
theorem dX7_init_72 : decode cX7_init 72 = .ok (.anewarray 16, 3) := by decide +kernel
theorem dX7_init_75 : decode cX7_init 75 = .ok (.putfield 51, 3) := by decide +kernel
theorem dX7_init_78 : decode cX7_init 78 = .ok (.iconst 0, 1) := by decide +kernel
theorem dX7_init_79 : decode cX7_init 79 = .ok (.istore_n 1, 1) := by decide +kernel
theorem dX7_init_80 : decode cX7_init 80 = .ok (.iload_n 1, 1) := by decide +kernel
theorem dX7_init_81 : decode cX7_init 81 = .ok (.iconst 2, 1) := by decide +kernel
theorem dX7_init_82 : decode cX7_init 82 = .ok (.if_icmp .ge 22, 3) := by decide +kernel
theorem dX7_init_85 : decode cX7_init 85 = .ok (.aload_n 0, 1) := by decide +kernel
theorem dX7_init_86 : decode cX7_init 86 = .ok (.getfield 51, 3) := by decide +kernel
theorem dX7_init_89 : decode cX7_init 89 = .ok (.iload_n 1, 1) := by decide +kernel
theorem dX7_init_90 : decode cX7_init 90 = .ok (.new 16, 3) := by decide +kernel
theorem dX7_init_93 : decode cX7_init 93 = .ok (.dup, 1) := by decide +kernel
theorem dX7_init_94 : decode cX7_init 94 = .ok (.invokespecial 18, 3) := by decide +kernel
theorem dX7_init_97 : decode cX7_init 97 = .ok (.aastore, 1) := by decide +kernel
theorem dX7_init_98 : decode cX7_init 98 = .ok (.iinc 1 1, 3) := by decide +kernel
theorem dX7_init_101 : decode cX7_init 101 = .ok (.goto (-21), 3) := by decide +kernel
theorem dX7_init_104 : decode cX7_init 104 = .ok (.aload_n 0, 1) := by decide +kernel
theorem dX7_init_105 : decode cX7_init 105 = .ok (.iconst 2, 1) := by decide +kernel
theorem dX7_init_106 : decode cX7_init 106 = .ok (.newarray .boolean, 2) := by decide +kernel
theorem dX7_init_108 : decode cX7_init 108 = .ok (.putfield 55, 3) := by decide +kernel
theorem dX7_init_111 : decode cX7_init 111 = .ok (.aload_n 0, 1) := by decide +kernel
theorem dX7_init_112 : decode cX7_init 112 = .ok (.iconst 2, 1) := by decide +kernel
theorem dX7_init_113 : decode cX7_init 113 = .ok (.newarray .int, 2) := by decide +kernel
theorem dX7_init_115 : decode cX7_init 115 = .ok (.putfield 59, 3) := by decide +kernel
theorem dX7_init_118 : decode cX7_init 118 = .ok (.aload_n 0, 1) := by decide +kernel
theorem dX7_init_119 : decode cX7_init 119 = .ok (.bipush 7, 2) := by decide +kernel
theorem dX7_init_121 : decode cX7_init 121 = .ok (.newarray .int, 2) := by decide +kernel
theorem dX7_init_123 : decode cX7_init 123 = .ok (.putfield 63, 3) := by decide +kernel
theorem dX7_init_126 : decode cX7_init 126 = .ok (.aload_n 0, 1) := by decide +kernel
theorem dX7_init_127 : decode cX7_init 127 = .ok (.new 66, 3) := by decide +kernel
theorem dX7_init_130 : decode cX7_init 130 = .ok (.dup, 1) := by decide +kernel
theorem dX7_init_131 : decode cX7_init 131 = .ok (.invokespecial 68, 3) := by decide +kernel
theorem dX7_init_134 : decode cX7_init 134 = .ok (.putfield 69, 3) := by decide +kernel
theorem dX7_init_137 : decode cX7_init 137 = .ok (.aload_n 0, 1) := by decide +kernel
theorem dX7_init_138 : decode cX7_init 138 = .ok (.new 66, 3) := by decide +kernel
theorem dX7_init_141 : decode cX7_init 141 = .ok (.dup, 1) := by decide +kernel
theorem dX7_init_142 : decode cX7_init 142 = .ok (.invokespecial 68, 3) := by decide +kernel
theorem dX7_init_145 : decode cX7_init 145 = .ok (.putfield 73, 3) := by decide +kernel
theorem dX7_init_148 : decode cX7_init 148 = .ok (.aload_n 0, 1) := by decide +kernel
theorem dX7_init_149 : decode cX7_init 149 = .ok (.getfield 69, 3) := by decide +kernel
theorem dX7_init_152 : decode cX7_init 152 = .ok (.invokevirtual 76, 3) := by decide +kernel
theorem dX7_init_155 : decode cX7_init 155 = .ok (.aload_n 0, 1) := by decide +kernel
theorem dX7_init_156 : decode cX7_init 156 = .ok (.getfield 19, 3) := by decide +kernel
theorem dX7_init_159 : decode cX7_init 159 = .ok (.aload_n 0, 1) := by decide +kernel
theorem dX7_init_160 : decode cX7_init 160 = .ok (.getfield 69, 3) := by decide +kernel
theorem dX7_init_163 : decode cX7_init 163 = .ok (.invokevirtual 79, 3) := by decide +kernel
theorem dX7_init_166 : decode cX7_init 166 = .ok (.aload_n 0, 1) := by decide +kernel
theorem dX7_init_167 : decode cX7_init 167 = .ok (.iconst (-1), 1) := by decide +kernel
theorem dX7_init_168 : decode cX7_init 168 = .ok (.putfield 83, 3) := by decide +kernel
theorem dX7_init_171 : decode cX7_init 171 = .ok (.aload_n 0, 1) := by decide +kernel
theorem dX7_init_172 : decode cX7_init 172 = .ok (.iconst 0, 1) := by decide +kernel
theorem dX7_init_173 : decode cX7_init 173 = .ok (.putfield 87, 3) := by decide +kernel
theorem dX7_init_176 : decode cX7_init 176 = .ok (.return_, 1) := by decide +kernel
theorem dX7_feed_0 : decode cX7_feed 0 = .ok (.iload_n 1, 1) := by decide +kernel
theorem dX7_feed_1 : decode cX7_feed 1 = .ok (.ifCond .lt 10, 3) := by decide +kernel
theorem dX7_feed_4 : decode cX7_feed 4 = .ok (.iload_n 1, 1) := by decide +kernel
theorem dX7_feed_5 : decode cX7_feed 5 = .ok (.sipush 255, 3) := by decide +kernel
theorem dX7_feed_8 : decode cX7_feed 8 = .ok (.if_icmp .le 6, 3) := by decide +kernel
theorem dX7_feed_11 : decode cX7_feed 11 = .ok (.ldc 90, 2) := by decide +kernel
theorem dX7_feed_13 : decode cX7_feed 13 = .ok (.ireturn, 1) := by decide +kernel
theorem dX7_feed_14 : decode cX7_feed 14 = .ok (.aload_n 0, 1) := by decide +kernel
theorem dX7_feed_15 : decode cX7_feed 15 = .ok (.getfield 10, 3) := by decide +kernel
theorem dX7_feed_18 : decode cX7_feed 18 = .ok (.getfield 91, 3) := by decide +kernel
theorem dX7_feed_21 : decode cX7_feed 21 = .ok (.sipush 240, 3) := by decide +kernel
theorem dX7_feed_24 : decode cX7_feed 24 = .ok (.if_icmp .lt 6, 3) := by decide +kernel
theorem dX7_feed_27 : decode cX7_feed 27 = .ok (.ldc 94, 2) := by decide +kernel
theorem dX7_feed_29 : decode cX7_feed 29 = .ok (.ireturn, 1) := by decide +kernel
theorem dX7_feed_30 : decode cX7_feed 30 = .ok (.aload_n 0, 1) := by decide +kernel
theorem dX7_feed_31 : decode cX7_feed 31 = .ok (.getfield 10, 3) := by decide +kernel
theorem dX7_feed_34 : decode cX7_feed 34 = .ok (.iload_n 1, 1) := by decide +kernel
theorem dX7_feed_35 : decode cX7_feed 35 = .ok (.invokevirtual 95, 3) := by decide +kernel
theorem dX7_feed_38 : decode cX7_feed 38 = .ok (.ireturn, 1) := by decide +kernel
theorem dX7_common_0 : decode cX7_common 0 = .ok (.aload_n 0, 1) := by decide +kernel
theorem dX7_common_1 : decode cX7_common 1 = .ok (.getfield 10, 3) := by decide +kernel
theorem dX7_common_4 : decode cX7_common 4 = .ok (.aload_n 0, 1) := by decide +kernel
theorem dX7_common_5 : decode cX7_common 5 = .ok (.getfield 73, 3) := by decide +kernel
theorem dX7_common_8 : decode cX7_common 8 = .ok (.invokevirtual 99, 3) := by decide +kernel
theorem dX7_common_11 : decode cX7_common 11 = .ok (.istore_n 1, 1) := by decide +kernel
theorem dX7_common_12 : decode cX7_common 12 = .ok (.aload_n 0, 1) := by decide +kernel
theorem dX7_common_13 : decode cX7_common 13 = .ok (.aload_n 0, 1) := by decide +kernel
theorem dX7_common_14 : decode cX7_common 14 = .ok (.getfield 10, 3) := by decide +kernel
theorem dX7_common_17 : decode cX7_common 17 = .ok (.getfield 103, 3) := by decide +kernel
theorem dX7_common_20 : decode cX7_common 20 = .ok (.putfield 83, 3) := by decide +kernel
theorem dX7_common_23 : decode cX7_common 23 = .ok (.aload_n 0, 1) := by decide +kernel
theorem dX7_common_24 : decode cX7_common 24 = .ok (.getfield 10, 3) := by decide +kernel
theorem dX7_common_27 : decode cX7_common 27 = .ok (.iconst 0, 1) := by decide +kernel
theorem dX7_common_28 : decode cX7_common 28 = .ok (.putfield 91, 3) := by decide +kernel
theorem dX7_common_31 : decode cX7_common 31 = .ok (.iload_n 1, 1) := by decide +kernel
theorem dX7_common_32 : decode cX7_common 32 = .ok (.ifCond .eq 8, 3) := by decide +kernel
theorem dX7_common_35 : decode cX7_common 35 = .ok (.bipush (-10), 2) := by decide +kernel
theorem dX7_common_37 : decode cX7_common 37 = .ok (.iload_n 1, 1) := by decide +kernel
theorem dX7_common_38 : decode cX7_common 38 = .ok (.isub, 1) := by decide +kernel
theorem dX7_common_39 : decode cX7_common 39 = .ok (.ireturn, 1) := by decide +kernel
theorem dX7_common_40 : decode cX7_common 40 = .ok (.aload_n 0, 1) := by decide +kernel
theorem dX7_common_41 : decode cX7_common 41 = .ok (.getfield 69, 3) := by decide +kernel
theorem dX7_common_44 : decode cX7_common 44 = .ok (.astore_n 2, 1) := by decide +kernel
theorem dX7_common_45 : decode cX7_common 45 = .ok (.aload_n 0, 1) := by decide +kernel
theorem dX7_common_46 : decode cX7_common 46 = .ok (.aload_n 0, 1) := by decide +kernel
theorem dX7_common_47 : decode cX7_common 47 = .ok (.getfield 73, 3) := by decide +kernel
theorem dX7_common_50 : decode cX7_common 50 = .ok (.putfield 69, 3) := by decide +kernel
theorem dX7_common_53 : decode cX7_common 53 = .ok (.aload_n 0, 1) := by decide +kernel
theorem dX7_common_54 : decode cX7_common 54 = .ok (.aload_n 2, 1) := by decide +kernel
theorem dX7_common_55 : decode cX7_common 55 = .ok (.putfield 73, 3) := by decide +kernel
theorem dX7_common_58 : decode cX7_common 58 = .ok (.aload_n 0, 1) := by decide +kernel
theorem dX7_common_59 : decode cX7_common 59 = .ok (.getfield 19, 3) := by decide +kernel
theorem dX7_common_62 : decode cX7_common 62 = .ok (.aload_n 0, 1) := by decide +kernel
theorem dX7_common_63 : decode cX7_common 63 = .ok (.getfield 69, 3) := by decide +kernel
theorem dX7_common_66 : decode cX7_common 66 = .ok (.invokevirtual 79, 3) := by decide +kernel
theorem dX7_common_69 : decode cX7_common 69 = .ok (.aload_n 0, 1) := by decide +kernel
theorem dX7_common_70 : decode cX7_common 70 = .ok (.getfield 26, 3) := by decide +kernel
theorem dX7_common_73 : decode cX7_common 73 = .ok (.invokevirtual 106, 3) := by decide +kernel
theorem dX7_common_76 : decode cX7_common 76 = .ok (.aload_n 0, 1) := by decide +kernel
theorem dX7_common_77 : decode cX7_common 77 = .ok (.getfield 33, 3) := by decide +kernel
theorem dX7_common_80 : decode cX7_common 80 = .ok (.invokevirtual 109, 3) := by decide +kernel
theorem dX7_common_83 : decode cX7_common 83 = .ok (.iconst 0, 1) := by decide +kernel
theorem dX7_common_84 : decode cX7_common 84 = .ok (.istore_n 3, 1) := by decide +kernel
theorem dX7_common_85 : decode cX7_common 85 = .ok (.iload_n 3, 1) := by decide +kernel
theorem dX7_common_86 : decode cX7_common 86 = .ok (.iconst 2, 1) := by decide +kernel
theorem dX7_common_87 : decode cX7_common 87 = .ok (.if_icmp .ge 16, 3) := by decide +kernel
theorem dX7_common_90 : decode cX7_common 90 = .ok (.aload_n 0, 1) := by decide +kernel
theorem dX7_common_91 : decode cX7_common 91 = .ok (.getfield 55, 3) := by decide +kernel
theorem dX7_common_94 : decode cX7_common 94 = .ok (.iload_n 3, 1) := by decide +kernel
theorem dX7_common_95 : decode cX7_common 95 = .ok (.iconst 0, 1) := by decide +kernel
theorem dX7_common_96 : decode cX7_common 96 = .ok (.bastore, 1) := by decide +kernel
theorem dX7_common_97 : decode cX7_common 97 = .ok (.iinc 3 1, 3) := by decide +kernel
theorem dX7_common_100 : decode cX7_common 100 = .ok (.goto (-15), 3) := by decide +kernel
theorem dX7_common_103 : decode cX7_common 103 = .ok (.aload_n 0, 1) := by decide +kernel
theorem dX7_common_104 : decode cX7_common 104 = .ok (.getfield 69, 3) := by decide +kernel
theorem dX7_common_107 : decode cX7_common 107 = .ok (.getfield 110, 3) := by decide +kernel
theorem dX7_common_110 : decode cX7_common 110 = .ok (.ireturn, 1) := by decide +kernel
theorem dX7_fault_0 : decode cX7_fault 0 = .ok (.aload_n 0, 1) := by decide +kernel
theorem dX7_fault_1 : decode cX7_fault 1 = .ok (.getfield 83, 3) := by decide +kernel
theorem dX7_fault_4 : decode cX7_fault 4 = .ok (.ireturn, 1) := by decide +kernel
theorem dX7_told_0 : decode cX7_told 0 = .ok (.iload_n 1, 1) := by decide +kernel
theorem dX7_told_1 : decode cX7_told 1 = .ok (.tableswitch 191 0 13 #[71, 79, 87, 95, 103, 111, 119, 127, 135, 147, 159, 167, 175, 183], 71) := by decide +kernel
theorem dX7_told_72 : decode cX7_told 72 = .ok (.aload_n 0, 1) := by decide +kernel
theorem dX7_told_73 : decode cX7_told 73 = .ok (.getfield 69, 3) := by decide +kernel
theorem dX7_told_76 : decode cX7_told 76 = .ok (.getfield 113, 3) := by decide +kernel
theorem dX7_told_79 : decode cX7_told 79 = .ok (.ireturn, 1) := by decide +kernel
theorem dX7_told_80 : decode cX7_told 80 = .ok (.aload_n 0, 1) := by decide +kernel
theorem dX7_told_81 : decode cX7_told 81 = .ok (.getfield 69, 3) := by decide +kernel
theorem dX7_told_84 : decode cX7_told 84 = .ok (.getfield 110, 3) := by decide +kernel
theorem dX7_told_87 : decode cX7_told 87 = .ok (.ireturn, 1) := by decide +kernel
theorem dX7_told_88 : decode cX7_told 88 = .ok (.aload_n 0, 1) := by decide +kernel
theorem dX7_told_89 : decode cX7_told 89 = .ok (.getfield 10, 3) := by decide +kernel
theorem dX7_told_92 : decode cX7_told 92 = .ok (.getfield 91, 3) := by decide +kernel
theorem dX7_told_95 : decode cX7_told 95 = .ok (.ireturn, 1) := by decide +kernel
theorem dX7_told_96 : decode cX7_told 96 = .ok (.aload_n 0, 1) := by decide +kernel
theorem dX7_told_97 : decode cX7_told 97 = .ok (.getfield 19, 3) := by decide +kernel
theorem dX7_told_100 : decode cX7_told 100 = .ok (.getfield 116, 3) := by decide +kernel
theorem dX7_told_103 : decode cX7_told 103 = .ok (.ireturn, 1) := by decide +kernel
theorem dX7_told_104 : decode cX7_told 104 = .ok (.aload_n 0, 1) := by decide +kernel
theorem dX7_told_105 : decode cX7_told 105 = .ok (.getfield 19, 3) := by decide +kernel
theorem dX7_told_108 : decode cX7_told 108 = .ok (.getfield 119, 3) := by decide +kernel
theorem dX7_told_111 : decode cX7_told 111 = .ok (.ireturn, 1) := by decide +kernel
theorem dX7_told_112 : decode cX7_told 112 = .ok (.aload_n 0, 1) := by decide +kernel
theorem dX7_told_113 : decode cX7_told 113 = .ok (.getfield 19, 3) := by decide +kernel
theorem dX7_told_116 : decode cX7_told 116 = .ok (.getfield 122, 3) := by decide +kernel
theorem dX7_told_119 : decode cX7_told 119 = .ok (.ireturn, 1) := by decide +kernel
theorem dX7_told_120 : decode cX7_told 120 = .ok (.aload_n 0, 1) := by decide +kernel
theorem dX7_told_121 : decode cX7_told 121 = .ok (.getfield 19, 3) := by decide +kernel
theorem dX7_told_124 : decode cX7_told 124 = .ok (.getfield 125, 3) := by decide +kernel
theorem dX7_told_127 : decode cX7_told 127 = .ok (.ireturn, 1) := by decide +kernel
theorem dX7_told_128 : decode cX7_told 128 = .ok (.aload_n 0, 1) := by decide +kernel
theorem dX7_told_129 : decode cX7_told 129 = .ok (.getfield 19, 3) := by decide +kernel
theorem dX7_told_132 : decode cX7_told 132 = .ok (.getfield 128, 3) := by decide +kernel
theorem dX7_told_135 : decode cX7_told 135 = .ok (.ireturn, 1) := by decide +kernel
theorem dX7_told_136 : decode cX7_told 136 = .ok (.aload_n 0, 1) := by decide +kernel
theorem dX7_told_137 : decode cX7_told 137 = .ok (.getfield 19, 3) := by decide +kernel
theorem dX7_told_140 : decode cX7_told 140 = .ok (.aload_n 0, 1) := by decide +kernel
theorem dX7_told_141 : decode cX7_told 141 = .ok (.getfield 69, 3) := by decide +kernel
theorem dX7_told_144 : decode cX7_told 144 = .ok (.invokevirtual 131, 3) := by decide +kernel
theorem dX7_told_147 : decode cX7_told 147 = .ok (.ireturn, 1) := by decide +kernel
theorem dX7_told_148 : decode cX7_told 148 = .ok (.aload_n 0, 1) := by decide +kernel
theorem dX7_told_149 : decode cX7_told 149 = .ok (.getfield 19, 3) := by decide +kernel
theorem dX7_told_152 : decode cX7_told 152 = .ok (.aload_n 0, 1) := by decide +kernel
theorem dX7_told_153 : decode cX7_told 153 = .ok (.getfield 69, 3) := by decide +kernel
theorem dX7_told_156 : decode cX7_told 156 = .ok (.invokevirtual 134, 3) := by decide +kernel
theorem dX7_told_159 : decode cX7_told 159 = .ok (.ireturn, 1) := by decide +kernel
theorem dX7_told_160 : decode cX7_told 160 = .ok (.aload_n 0, 1) := by decide +kernel
theorem dX7_told_161 : decode cX7_told 161 = .ok (.getfield 19, 3) := by decide +kernel
theorem dX7_told_164 : decode cX7_told 164 = .ok (.getfield 137, 3) := by decide +kernel
theorem dX7_told_167 : decode cX7_told 167 = .ok (.ireturn, 1) := by decide +kernel
theorem dX7_told_168 : decode cX7_told 168 = .ok (.aload_n 0, 1) := by decide +kernel
theorem dX7_told_169 : decode cX7_told 169 = .ok (.getfield 33, 3) := by decide +kernel
theorem dX7_told_172 : decode cX7_told 172 = .ok (.getfield 140, 3) := by decide +kernel
theorem dX7_told_175 : decode cX7_told 175 = .ok (.ireturn, 1) := by decide +kernel
theorem dX7_told_176 : decode cX7_told 176 = .ok (.aload_n 0, 1) := by decide +kernel
theorem dX7_told_177 : decode cX7_told 177 = .ok (.getfield 33, 3) := by decide +kernel
theorem dX7_told_180 : decode cX7_told 180 = .ok (.getfield 143, 3) := by decide +kernel
theorem dX7_told_183 : decode cX7_told 183 = .ok (.ireturn, 1) := by decide +kernel
theorem dX7_told_184 : decode cX7_told 184 = .ok (.aload_n 0, 1) := by decide +kernel
theorem dX7_told_185 : decode cX7_told 185 = .ok (.getfield 26, 3) := by decide +kernel
theorem dX7_told_188 : decode cX7_told 188 = .ok (.getfield 146, 3) := by decide +kernel
theorem dX7_told_191 : decode cX7_told 191 = .ok (.ireturn, 1) := by decide +kernel
theorem dX7_told_192 : decode cX7_told 192 = .ok (.ldc 90, 2) := by decide +kernel
theorem dX7_told_194 : decode cX7_told 194 = .ok (.ireturn, 1) := by decide +kernel
theorem dX7_gate_0 : decode cX7_gate 0 = .ok (.aload_n 0, 1) := by decide +kernel
theorem dX7_gate_1 : decode cX7_gate 1 = .ok (.getfield 69, 3) := by decide +kernel
theorem dX7_gate_4 : decode cX7_gate 4 = .ok (.iload_n 1, 1) := by decide +kernel
theorem dX7_gate_5 : decode cX7_gate 5 = .ok (.invokevirtual 149, 3) := by decide +kernel
theorem dX7_gate_8 : decode cX7_gate 8 = .ok (.ifCond .ne 6, 3) := by decide +kernel
theorem dX7_gate_11 : decode cX7_gate 11 = .ok (.ldc 153, 2) := by decide +kernel
theorem dX7_gate_13 : decode cX7_gate 13 = .ok (.ireturn, 1) := by decide +kernel
theorem dX7_gate_14 : decode cX7_gate 14 = .ok (.iload_n 2, 1) := by decide +kernel
theorem dX7_gate_15 : decode cX7_gate 15 = .ok (.tableswitch 83 0 3 #[29, 39, 49, 70], 29) := by decide +kernel
theorem dX7_gate_44 : decode cX7_gate 44 = .ok (.aload_n 0, 1) := by decide +kernel
theorem dX7_gate_45 : decode cX7_gate 45 = .ok (.getfield 69, 3) := by decide +kernel
theorem dX7_gate_48 : decode cX7_gate 48 = .ok (.getfield 154, 3) := by decide +kernel
theorem dX7_gate_51 : decode cX7_gate 51 = .ok (.iload_n 1, 1) := by decide +kernel
theorem dX7_gate_52 : decode cX7_gate 52 = .ok (.iaload, 1) := by decide +kernel
theorem dX7_gate_53 : decode cX7_gate 53 = .ok (.ireturn, 1) := by decide +kernel
theorem dX7_gate_54 : decode cX7_gate 54 = .ok (.aload_n 0, 1) := by decide +kernel
theorem dX7_gate_55 : decode cX7_gate 55 = .ok (.getfield 19, 3) := by decide +kernel
theorem dX7_gate_58 : decode cX7_gate 58 = .ok (.getfield 157, 3) := by decide +kernel
theorem dX7_gate_61 : decode cX7_gate 61 = .ok (.iload_n 1, 1) := by decide +kernel
theorem dX7_gate_62 : decode cX7_gate 62 = .ok (.iaload, 1) := by decide +kernel
theorem dX7_gate_63 : decode cX7_gate 63 = .ok (.ireturn, 1) := by decide +kernel
theorem dX7_gate_64 : decode cX7_gate 64 = .ok (.aload_n 0, 1) := by decide +kernel
theorem dX7_gate_65 : decode cX7_gate 65 = .ok (.getfield 19, 3) := by decide +kernel
theorem dX7_gate_68 : decode cX7_gate 68 = .ok (.aload_n 0, 1) := by decide +kernel
theorem dX7_gate_69 : decode cX7_gate 69 = .ok (.getfield 69, 3) := by decide +kernel
theorem dX7_gate_72 : decode cX7_gate 72 = .ok (.iload_n 1, 1) := by decide +kernel
theorem dX7_gate_73 : decode cX7_gate 73 = .ok (.invokevirtual 160, 3) := by decide +kernel
theorem dX7_gate_76 : decode cX7_gate 76 = .ok (.ifCond .eq 7, 3) := by decide +kernel
theorem dX7_gate_79 : decode cX7_gate 79 = .ok (.iconst 1, 1) := by decide +kernel
theorem dX7_gate_80 : decode cX7_gate 80 = .ok (.goto 4, 3) := by decide +kernel
theorem dX7_gate_83 : decode cX7_gate 83 = .ok (.iconst 0, 1) := by decide +kernel
theorem dX7_gate_84 : decode cX7_gate 84 = .ok (.ireturn, 1) := by decide +kernel
theorem dX7_gate_85 : decode cX7_gate 85 = .ok (.aload_n 0, 1) := by decide +kernel
theorem dX7_gate_86 : decode cX7_gate 86 = .ok (.getfield 19, 3) := by decide +kernel
theorem dX7_gate_89 : decode cX7_gate 89 = .ok (.aload_n 0, 1) := by decide +kernel
theorem dX7_gate_90 : decode cX7_gate 90 = .ok (.getfield 69, 3) := by decide +kernel
theorem dX7_gate_93 : decode cX7_gate 93 = .ok (.iload_n 1, 1) := by decide +kernel
theorem dX7_gate_94 : decode cX7_gate 94 = .ok (.invokevirtual 164, 3) := by decide +kernel
theorem dX7_gate_97 : decode cX7_gate 97 = .ok (.ireturn, 1) := by decide +kernel
theorem dX7_gate_98 : decode cX7_gate 98 = .ok (.ldc 90, 2) := by decide +kernel
theorem dX7_gate_100 : decode cX7_gate 100 = .ok (.ireturn, 1) := by decide +kernel
theorem dX7_person_0 : decode cX7_person 0 = .ok (.aload_n 0, 1) := by decide +kernel
theorem dX7_person_1 : decode cX7_person 1 = .ok (.getfield 69, 3) := by decide +kernel
theorem dX7_person_4 : decode cX7_person 4 = .ok (.iload_n 1, 1) := by decide +kernel
theorem dX7_person_5 : decode cX7_person 5 = .ok (.invokevirtual 168, 3) := by decide +kernel
theorem dX7_person_8 : decode cX7_person 8 = .ok (.ifCond .ne 6, 3) := by decide +kernel
theorem dX7_person_11 : decode cX7_person 11 = .ok (.ldc 153, 2) := by decide +kernel
theorem dX7_person_13 : decode cX7_person 13 = .ok (.ireturn, 1) := by decide +kernel
theorem dX7_person_14 : decode cX7_person 14 = .ok (.iload_n 2, 1) := by decide +kernel
theorem dX7_person_15 : decode cX7_person 15 = .ok (.tableswitch 79 0 3 #[29, 41, 51, 63], 29) := by decide +kernel
theorem dX7_person_44 : decode cX7_person 44 = .ok (.aload_n 0, 1) := by decide +kernel
theorem dX7_person_45 : decode cX7_person 45 = .ok (.getfield 19, 3) := by decide +kernel
theorem dX7_person_48 : decode cX7_person 48 = .ok (.getfield 125, 3) := by decide +kernel
theorem dX7_person_51 : decode cX7_person 51 = .ok (.iload_n 1, 1) := by decide +kernel
theorem dX7_person_52 : decode cX7_person 52 = .ok (.ishr, 1) := by decide +kernel
theorem dX7_person_53 : decode cX7_person 53 = .ok (.iconst 1, 1) := by decide +kernel
theorem dX7_person_54 : decode cX7_person 54 = .ok (.iand, 1) := by decide +kernel
theorem dX7_person_55 : decode cX7_person 55 = .ok (.ireturn, 1) := by decide +kernel
theorem dX7_person_56 : decode cX7_person 56 = .ok (.aload_n 0, 1) := by decide +kernel
theorem dX7_person_57 : decode cX7_person 57 = .ok (.getfield 19, 3) := by decide +kernel
theorem dX7_person_60 : decode cX7_person 60 = .ok (.getfield 171, 3) := by decide +kernel
theorem dX7_person_63 : decode cX7_person 63 = .ok (.iload_n 1, 1) := by decide +kernel
theorem dX7_person_64 : decode cX7_person 64 = .ok (.iaload, 1) := by decide +kernel
theorem dX7_person_65 : decode cX7_person 65 = .ok (.ireturn, 1) := by decide +kernel
theorem dX7_person_66 : decode cX7_person 66 = .ok (.aload_n 0, 1) := by decide +kernel
theorem dX7_person_67 : decode cX7_person 67 = .ok (.getfield 19, 3) := by decide +kernel
theorem dX7_person_70 : decode cX7_person 70 = .ok (.getfield 128, 3) := by decide +kernel
theorem dX7_person_73 : decode cX7_person 73 = .ok (.iload_n 1, 1) := by decide +kernel
theorem dX7_person_74 : decode cX7_person 74 = .ok (.ishr, 1) := by decide +kernel
theorem dX7_person_75 : decode cX7_person 75 = .ok (.iconst 1, 1) := by decide +kernel
theorem dX7_person_76 : decode cX7_person 76 = .ok (.iand, 1) := by decide +kernel
theorem dX7_person_77 : decode cX7_person 77 = .ok (.ireturn, 1) := by decide +kernel
theorem dX7_person_78 : decode cX7_person 78 = .ok (.aload_n 0, 1) := by decide +kernel
theorem dX7_person_79 : decode cX7_person 79 = .ok (.getfield 69, 3) := by decide +kernel
theorem dX7_person_82 : decode cX7_person 82 = .ok (.iload_n 1, 1) := by decide +kernel
theorem dX7_person_83 : decode cX7_person 83 = .ok (.aload_n 0, 1) := by decide +kernel
theorem dX7_person_84 : decode cX7_person 84 = .ok (.getfield 19, 3) := by decide +kernel
theorem dX7_person_87 : decode cX7_person 87 = .ok (.getfield 125, 3) := by decide +kernel
theorem dX7_person_90 : decode cX7_person 90 = .ok (.invokevirtual 174, 3) := by decide +kernel
theorem dX7_person_93 : decode cX7_person 93 = .ok (.ireturn, 1) := by decide +kernel
theorem dX7_person_94 : decode cX7_person 94 = .ok (.ldc 90, 2) := by decide +kernel
theorem dX7_person_96 : decode cX7_person 96 = .ok (.ireturn, 1) := by decide +kernel
theorem dX7_likes_0 : decode cX7_likes 0 = .ok (.aload_n 0, 1) := by decide +kernel
theorem dX7_likes_1 : decode cX7_likes 1 = .ok (.getfield 69, 3) := by decide +kernel
theorem dX7_likes_4 : decode cX7_likes 4 = .ok (.iload_n 1, 1) := by decide +kernel
theorem dX7_likes_5 : decode cX7_likes 5 = .ok (.invokevirtual 168, 3) := by decide +kernel
theorem dX7_likes_8 : decode cX7_likes 8 = .ok (.ifCond .eq 19, 3) := by decide +kernel
theorem dX7_likes_11 : decode cX7_likes 11 = .ok (.aload_n 0, 1) := by decide +kernel
theorem dX7_likes_12 : decode cX7_likes 12 = .ok (.getfield 69, 3) := by decide +kernel
theorem dX7_likes_15 : decode cX7_likes 15 = .ok (.iload_n 2, 1) := by decide +kernel
theorem dX7_likes_16 : decode cX7_likes 16 = .ok (.invokevirtual 168, 3) := by decide +kernel
theorem dX7_likes_19 : decode cX7_likes 19 = .ok (.ifCond .eq 8, 3) := by decide +kernel
theorem dX7_likes_22 : decode cX7_likes 22 = .ok (.iload_n 1, 1) := by decide +kernel
theorem dX7_likes_23 : decode cX7_likes 23 = .ok (.iload_n 2, 1) := by decide +kernel
theorem dX7_likes_24 : decode cX7_likes 24 = .ok (.if_icmp .ne 6, 3) := by decide +kernel
theorem dX7_likes_27 : decode cX7_likes 27 = .ok (.ldc 153, 2) := by decide +kernel
theorem dX7_likes_29 : decode cX7_likes 29 = .ok (.ireturn, 1) := by decide +kernel
theorem dX7_likes_30 : decode cX7_likes 30 = .ok (.aload_n 0, 1) := by decide +kernel
theorem dX7_likes_31 : decode cX7_likes 31 = .ok (.getfield 69, 3) := by decide +kernel
theorem dX7_likes_34 : decode cX7_likes 34 = .ok (.iload_n 1, 1) := by decide +kernel
theorem dX7_likes_35 : decode cX7_likes 35 = .ok (.iload_n 2, 1) := by decide +kernel
theorem dX7_likes_36 : decode cX7_likes 36 = .ok (.invokevirtual 178, 3) := by decide +kernel
theorem dX7_likes_39 : decode cX7_likes 39 = .ok (.ireturn, 1) := by decide +kernel
theorem dX7_logged_0 : decode cX7_logged 0 = .ok (.iload_n 1, 1) := by decide +kernel
theorem dX7_logged_1 : decode cX7_logged 1 = .ok (.ifCond .lt 14, 3) := by decide +kernel
theorem dX7_logged_4 : decode cX7_logged 4 = .ok (.iload_n 1, 1) := by decide +kernel
theorem dX7_logged_5 : decode cX7_logged 5 = .ok (.aload_n 0, 1) := by decide +kernel
theorem dX7_logged_6 : decode cX7_logged 6 = .ok (.getfield 19, 3) := by decide +kernel
theorem dX7_logged_9 : decode cX7_logged 9 = .ok (.getfield 137, 3) := by decide +kernel
theorem dX7_logged_12 : decode cX7_logged 12 = .ok (.if_icmp .lt 5, 3) := by decide +kernel
theorem dX7_logged_15 : decode cX7_logged 15 = .ok (.iconst (-1), 1) := by decide +kernel
theorem dX7_logged_16 : decode cX7_logged 16 = .ok (.ireturn, 1) := by decide +kernel
theorem dX7_logged_17 : decode cX7_logged 17 = .ok (.aload_n 0, 1) := by decide +kernel
theorem dX7_logged_18 : decode cX7_logged 18 = .ok (.getfield 19, 3) := by decide +kernel
theorem dX7_logged_21 : decode cX7_logged 21 = .ok (.getfield 181, 3) := by decide +kernel
theorem dX7_logged_24 : decode cX7_logged 24 = .ok (.aload_n 0, 1) := by decide +kernel
theorem dX7_logged_25 : decode cX7_logged 25 = .ok (.getfield 19, 3) := by decide +kernel
theorem dX7_logged_28 : decode cX7_logged 28 = .ok (.getfield 137, 3) := by decide +kernel
theorem dX7_logged_31 : decode cX7_logged 31 = .ok (.iconst 1, 1) := by decide +kernel
theorem dX7_logged_32 : decode cX7_logged 32 = .ok (.isub, 1) := by decide +kernel
theorem dX7_logged_33 : decode cX7_logged 33 = .ok (.iload_n 1, 1) := by decide +kernel
theorem dX7_logged_34 : decode cX7_logged 34 = .ok (.isub, 1) := by decide +kernel
theorem dX7_logged_35 : decode cX7_logged 35 = .ok (.iaload, 1) := by decide +kernel
theorem dX7_logged_36 : decode cX7_logged 36 = .ok (.ireturn, 1) := by decide +kernel
theorem dX7_hour_0 : decode cX7_hour 0 = .ok (.aload_n 0, 1) := by decide +kernel
theorem dX7_hour_1 : decode cX7_hour 1 = .ok (.iload_n 1, 1) := by decide +kernel
theorem dX7_hour_2 : decode cX7_hour 2 = .ok (.invokevirtual 184, 3) := by decide +kernel
theorem dX7_hour_5 : decode cX7_hour 5 = .ok (.istore_n 2, 1) := by decide +kernel
theorem dX7_hour_6 : decode cX7_hour 6 = .ok (.iload_n 2, 1) := by decide +kernel
theorem dX7_hour_7 : decode cX7_hour 7 = .ok (.ifCond .eq 5, 3) := by decide +kernel
theorem dX7_hour_10 : decode cX7_hour 10 = .ok (.iload_n 2, 1) := by decide +kernel
theorem dX7_hour_11 : decode cX7_hour 11 = .ok (.ireturn, 1) := by decide +kernel
theorem dX7_hour_12 : decode cX7_hour 12 = .ok (.aload_n 0, 1) := by decide +kernel
theorem dX7_hour_13 : decode cX7_hour 13 = .ok (.getfield 26, 3) := by decide +kernel
theorem dX7_hour_16 : decode cX7_hour 16 = .ok (.aload_n 0, 1) := by decide +kernel
theorem dX7_hour_17 : decode cX7_hour 17 = .ok (.getfield 19, 3) := by decide +kernel
theorem dX7_hour_20 : decode cX7_hour 20 = .ok (.invokevirtual 187, 3) := by decide +kernel
theorem dX7_hour_23 : decode cX7_hour 23 = .ok (.iconst 0, 1) := by decide +kernel
theorem dX7_hour_24 : decode cX7_hour 24 = .ok (.istore_n 3, 1) := by decide +kernel
theorem dX7_hour_25 : decode cX7_hour 25 = .ok (.iload_n 3, 1) := by decide +kernel
theorem dX7_hour_26 : decode cX7_hour 26 = .ok (.iload_n 1, 1) := by decide +kernel
theorem dX7_hour_27 : decode cX7_hour 27 = .ok (.if_icmp .ge 20, 3) := by decide +kernel
theorem dX7_hour_30 : decode cX7_hour 30 = .ok (.aload_n 0, 1) := by decide +kernel
theorem dX7_hour_31 : decode cX7_hour 31 = .ok (.getfield 19, 3) := by decide +kernel
theorem dX7_hour_34 : decode cX7_hour 34 = .ok (.aload_n 0, 1) := by decide +kernel
theorem dX7_hour_35 : decode cX7_hour 35 = .ok (.getfield 69, 3) := by decide +kernel
theorem dX7_hour_38 : decode cX7_hour 38 = .ok (.invokevirtual 191, 3) := by decide +kernel
theorem dX7_hour_41 : decode cX7_hour 41 = .ok (.iinc 3 1, 3) := by decide +kernel
theorem dX7_hour_44 : decode cX7_hour 44 = .ok (.goto (-19), 3) := by decide +kernel
theorem dX7_hour_47 : decode cX7_hour 47 = .ok (.aload_n 0, 1) := by decide +kernel
theorem dX7_hour_48 : decode cX7_hour 48 = .ok (.getfield 19, 3) := by decide +kernel
theorem dX7_hour_51 : decode cX7_hour 51 = .ok (.getfield 116, 3) := by decide +kernel
theorem dX7_hour_54 : decode cX7_hour 54 = .ok (.ireturn, 1) := by decide +kernel
theorem dX7_come_0 : decode cX7_come 0 = .ok (.aload_n 0, 1) := by decide +kernel
theorem dX7_come_1 : decode cX7_come 1 = .ok (.getfield 69, 3) := by decide +kernel
theorem dX7_come_4 : decode cX7_come 4 = .ok (.iload_n 1, 1) := by decide +kernel
theorem dX7_come_5 : decode cX7_come 5 = .ok (.invokevirtual 168, 3) := by decide +kernel
theorem dX7_come_8 : decode cX7_come 8 = .ok (.ifCond .eq 14, 3) := by decide +kernel
theorem dX7_come_11 : decode cX7_come 11 = .ok (.aload_n 0, 1) := by decide +kernel
theorem dX7_come_12 : decode cX7_come 12 = .ok (.getfield 69, 3) := by decide +kernel
theorem dX7_come_15 : decode cX7_come 15 = .ok (.iload_n 2, 1) := by decide +kernel
theorem dX7_come_16 : decode cX7_come 16 = .ok (.invokevirtual 149, 3) := by decide +kernel
theorem dX7_come_19 : decode cX7_come 19 = .ok (.ifCond .ne 6, 3) := by decide +kernel
theorem dX7_come_22 : decode cX7_come 22 = .ok (.ldc 153, 2) := by decide +kernel
theorem dX7_come_24 : decode cX7_come 24 = .ok (.ireturn, 1) := by decide +kernel
theorem dX7_come_25 : decode cX7_come 25 = .ok (.aload_n 0, 1) := by decide +kernel
theorem dX7_come_26 : decode cX7_come 26 = .ok (.getfield 19, 3) := by decide +kernel
theorem dX7_come_29 : decode cX7_come 29 = .ok (.aload_n 0, 1) := by decide +kernel
theorem dX7_come_30 : decode cX7_come 30 = .ok (.getfield 69, 3) := by decide +kernel
theorem dX7_come_33 : decode cX7_come 33 = .ok (.iload_n 2, 1) := by decide +kernel
theorem dX7_come_34 : decode cX7_come 34 = .ok (.invokevirtual 160, 3) := by decide +kernel
theorem dX7_come_37 : decode cX7_come 37 = .ok (.ifCond .ne 16, 3) := by decide +kernel
theorem dX7_come_40 : decode cX7_come 40 = .ok (.aload_n 0, 1) := by decide +kernel
theorem dX7_come_41 : decode cX7_come 41 = .ok (.getfield 19, 3) := by decide +kernel
theorem dX7_come_44 : decode cX7_come 44 = .ok (.getfield 171, 3) := by decide +kernel
theorem dX7_come_47 : decode cX7_come 47 = .ok (.iload_n 1, 1) := by decide +kernel
theorem dX7_come_48 : decode cX7_come 48 = .ok (.iaload, 1) := by decide +kernel
theorem dX7_come_49 : decode cX7_come 49 = .ok (.iload_n 2, 1) := by decide +kernel
theorem dX7_come_50 : decode cX7_come 50 = .ok (.if_icmp .ne 6, 3) := by decide +kernel
theorem dX7_come_53 : decode cX7_come 53 = .ok (.ldc 194, 2) := by decide +kernel
theorem dX7_come_55 : decode cX7_come 55 = .ok (.ireturn, 1) := by decide +kernel
theorem dX7_come_56 : decode cX7_come 56 = .ok (.aload_n 0, 1) := by decide +kernel
theorem dX7_come_57 : decode cX7_come 57 = .ok (.getfield 26, 3) := by decide +kernel
theorem dX7_come_60 : decode cX7_come 60 = .ok (.aload_n 0, 1) := by decide +kernel
theorem dX7_come_61 : decode cX7_come 61 = .ok (.getfield 19, 3) := by decide +kernel
theorem dX7_come_64 : decode cX7_come 64 = .ok (.invokevirtual 187, 3) := by decide +kernel
theorem dX7_come_67 : decode cX7_come 67 = .ok (.aload_n 0, 1) := by decide +kernel
theorem dX7_come_68 : decode cX7_come 68 = .ok (.getfield 19, 3) := by decide +kernel
theorem dX7_come_71 : decode cX7_come 71 = .ok (.getfield 171, 3) := by decide +kernel
theorem dX7_come_74 : decode cX7_come 74 = .ok (.iload_n 1, 1) := by decide +kernel
theorem dX7_come_75 : decode cX7_come 75 = .ok (.iload_n 2, 1) := by decide +kernel
theorem dX7_come_76 : decode cX7_come 76 = .ok (.iastore, 1) := by decide +kernel
theorem dX7_come_77 : decode cX7_come 77 = .ok (.aload_n 0, 1) := by decide +kernel
theorem dX7_come_78 : decode cX7_come 78 = .ok (.getfield 19, 3) := by decide +kernel
theorem dX7_come_81 : decode cX7_come 81 = .ok (.aload_n 0, 1) := by decide +kernel
theorem dX7_come_82 : decode cX7_come 82 = .ok (.getfield 69, 3) := by decide +kernel
theorem dX7_come_85 : decode cX7_come 85 = .ok (.iload_n 2, 1) := by decide +kernel
theorem dX7_come_86 : decode cX7_come 86 = .ok (.invokevirtual 164, 3) := by decide +kernel
theorem dX7_come_89 : decode cX7_come 89 = .ok (.ireturn, 1) := by decide +kernel
theorem dX7_goOff_0 : decode cX7_goOff 0 = .ok (.aload_n 0, 1) := by decide +kernel
theorem dX7_goOff_1 : decode cX7_goOff 1 = .ok (.getfield 69, 3) := by decide +kernel
theorem dX7_goOff_4 : decode cX7_goOff 4 = .ok (.iload_n 1, 1) := by decide +kernel
theorem dX7_goOff_5 : decode cX7_goOff 5 = .ok (.invokevirtual 168, 3) := by decide +kernel
theorem dX7_goOff_8 : decode cX7_goOff 8 = .ok (.ifCond .ne 6, 3) := by decide +kernel
theorem dX7_goOff_11 : decode cX7_goOff 11 = .ok (.ldc 153, 2) := by decide +kernel
theorem dX7_goOff_13 : decode cX7_goOff 13 = .ok (.ireturn, 1) := by decide +kernel
theorem dX7_goOff_14 : decode cX7_goOff 14 = .ok (.aload_n 0, 1) := by decide +kernel
theorem dX7_goOff_15 : decode cX7_goOff 15 = .ok (.getfield 19, 3) := by decide +kernel
theorem dX7_goOff_18 : decode cX7_goOff 18 = .ok (.getfield 171, 3) := by decide +kernel
theorem dX7_goOff_21 : decode cX7_goOff 21 = .ok (.iload_n 1, 1) := by decide +kernel
theorem dX7_goOff_22 : decode cX7_goOff 22 = .ok (.iaload, 1) := by decide +kernel
theorem dX7_goOff_23 : decode cX7_goOff 23 = .ok (.istore_n 2, 1) := by decide +kernel
theorem dX7_goOff_24 : decode cX7_goOff 24 = .ok (.iload_n 2, 1) := by decide +kernel
theorem dX7_goOff_25 : decode cX7_goOff 25 = .ok (.iconst (-1), 1) := by decide +kernel
theorem dX7_goOff_26 : decode cX7_goOff 26 = .ok (.if_icmp .ne 6, 3) := by decide +kernel
theorem dX7_goOff_29 : decode cX7_goOff 29 = .ok (.ldc 194, 2) := by decide +kernel
theorem dX7_goOff_31 : decode cX7_goOff 31 = .ok (.ireturn, 1) := by decide +kernel
theorem dX7_goOff_32 : decode cX7_goOff 32 = .ok (.aload_n 0, 1) := by decide +kernel
theorem dX7_goOff_33 : decode cX7_goOff 33 = .ok (.getfield 26, 3) := by decide +kernel
theorem dX7_goOff_36 : decode cX7_goOff 36 = .ok (.aload_n 0, 1) := by decide +kernel
theorem dX7_goOff_37 : decode cX7_goOff 37 = .ok (.getfield 19, 3) := by decide +kernel
theorem dX7_goOff_40 : decode cX7_goOff 40 = .ok (.invokevirtual 187, 3) := by decide +kernel
theorem dX7_goOff_43 : decode cX7_goOff 43 = .ok (.aload_n 0, 1) := by decide +kernel
theorem dX7_goOff_44 : decode cX7_goOff 44 = .ok (.getfield 19, 3) := by decide +kernel
theorem dX7_goOff_47 : decode cX7_goOff 47 = .ok (.getfield 171, 3) := by decide +kernel
theorem dX7_goOff_50 : decode cX7_goOff 50 = .ok (.iload_n 1, 1) := by decide +kernel
theorem dX7_goOff_51 : decode cX7_goOff 51 = .ok (.iconst (-1), 1) := by decide +kernel
theorem dX7_goOff_52 : decode cX7_goOff 52 = .ok (.iastore, 1) := by decide +kernel
theorem dX7_goOff_53 : decode cX7_goOff 53 = .ok (.iload_n 2, 1) := by decide +kernel
theorem dX7_goOff_54 : decode cX7_goOff 54 = .ok (.ireturn, 1) := by decide +kernel
theorem dX7_hole_0 : decode cX7_hole 0 = .ok (.aload_n 0, 1) := by decide +kernel
theorem dX7_hole_1 : decode cX7_hole 1 = .ok (.getfield 69, 3) := by decide +kernel
theorem dX7_hole_4 : decode cX7_hole 4 = .ok (.iload_n 1, 1) := by decide +kernel
theorem dX7_hole_5 : decode cX7_hole 5 = .ok (.invokevirtual 168, 3) := by decide +kernel
theorem dX7_hole_8 : decode cX7_hole 8 = .ok (.ifCond .ne 6, 3) := by decide +kernel
theorem dX7_hole_11 : decode cX7_hole 11 = .ok (.ldc 153, 2) := by decide +kernel
theorem dX7_hole_13 : decode cX7_hole 13 = .ok (.ireturn, 1) := by decide +kernel
theorem dX7_hole_14 : decode cX7_hole 14 = .ok (.aload_n 0, 1) := by decide +kernel
theorem dX7_hole_15 : decode cX7_hole 15 = .ok (.getfield 19, 3) := by decide +kernel
theorem dX7_hole_18 : decode cX7_hole 18 = .ok (.getfield 171, 3) := by decide +kernel
theorem dX7_hole_21 : decode cX7_hole 21 = .ok (.iload_n 1, 1) := by decide +kernel
theorem dX7_hole_22 : decode cX7_hole 22 = .ok (.iaload, 1) := by decide +kernel
theorem dX7_hole_23 : decode cX7_hole 23 = .ok (.iconst (-1), 1) := by decide +kernel
theorem dX7_hole_24 : decode cX7_hole 24 = .ok (.if_icmp .eq 6, 3) := by decide +kernel
theorem dX7_hole_27 : decode cX7_hole 27 = .ok (.ldc 194, 2) := by decide +kernel
theorem dX7_hole_29 : decode cX7_hole 29 = .ok (.ireturn, 1) := by decide +kernel
theorem dX7_hole_30 : decode cX7_hole 30 = .ok (.aload_n 0, 1) := by decide +kernel
theorem dX7_hole_31 : decode cX7_hole 31 = .ok (.getfield 26, 3) := by decide +kernel
theorem dX7_hole_34 : decode cX7_hole 34 = .ok (.aload_n 0, 1) := by decide +kernel
theorem dX7_hole_35 : decode cX7_hole 35 = .ok (.getfield 19, 3) := by decide +kernel
theorem dX7_hole_38 : decode cX7_hole 38 = .ok (.invokevirtual 187, 3) := by decide +kernel
theorem dX7_hole_41 : decode cX7_hole 41 = .ok (.aload_n 0, 1) := by decide +kernel
theorem dX7_hole_42 : decode cX7_hole 42 = .ok (.getfield 19, 3) := by decide +kernel
theorem dX7_hole_45 : decode cX7_hole 45 = .ok (.dup, 1) := by decide +kernel
theorem dX7_hole_46 : decode cX7_hole 46 = .ok (.getfield 125, 3) := by decide +kernel
theorem dX7_hole_49 : decode cX7_hole 49 = .ok (.iconst 1, 1) := by decide +kernel
theorem dX7_hole_50 : decode cX7_hole 50 = .ok (.iload_n 1, 1) := by decide +kernel
theorem dX7_hole_51 : decode cX7_hole 51 = .ok (.ishl, 1) := by decide +kernel
theorem dX7_hole_52 : decode cX7_hole 52 = .ok (.ixor, 1) := by decide +kernel
theorem dX7_hole_53 : decode cX7_hole 53 = .ok (.putfield 125, 3) := by decide +kernel
theorem dX7_hole_56 : decode cX7_hole 56 = .ok (.aload_n 0, 1) := by decide +kernel
theorem dX7_hole_57 : decode cX7_hole 57 = .ok (.getfield 19, 3) := by decide +kernel
theorem dX7_hole_60 : decode cX7_hole 60 = .ok (.dup, 1) := by decide +kernel
theorem dX7_hole_61 : decode cX7_hole 61 = .ok (.getfield 122, 3) := by decide +kernel
theorem dX7_hole_64 : decode cX7_hole 64 = .ok (.iconst 1, 1) := by decide +kernel
theorem dX7_hole_65 : decode cX7_hole 65 = .ok (.iadd, 1) := by decide +kernel
theorem dX7_hole_66 : decode cX7_hole 66 = .ok (.putfield 122, 3) := by decide +kernel
theorem dX7_hole_69 : decode cX7_hole 69 = .ok (.aload_n 0, 1) := by decide +kernel
theorem dX7_hole_70 : decode cX7_hole 70 = .ok (.getfield 19, 3) := by decide +kernel
theorem dX7_hole_73 : decode cX7_hole 73 = .ok (.getfield 125, 3) := by decide +kernel
theorem dX7_hole_76 : decode cX7_hole 76 = .ok (.iload_n 1, 1) := by decide +kernel
theorem dX7_hole_77 : decode cX7_hole 77 = .ok (.ishr, 1) := by decide +kernel
theorem dX7_hole_78 : decode cX7_hole 78 = .ok (.iconst 1, 1) := by decide +kernel
theorem dX7_hole_79 : decode cX7_hole 79 = .ok (.iand, 1) := by decide +kernel
theorem dX7_hole_80 : decode cX7_hole 80 = .ok (.ireturn, 1) := by decide +kernel
theorem dX7_oil_0 : decode cX7_oil 0 = .ok (.aload_n 0, 1) := by decide +kernel
theorem dX7_oil_1 : decode cX7_oil 1 = .ok (.getfield 69, 3) := by decide +kernel
theorem dX7_oil_4 : decode cX7_oil 4 = .ok (.iload_n 1, 1) := by decide +kernel
theorem dX7_oil_5 : decode cX7_oil 5 = .ok (.invokevirtual 149, 3) := by decide +kernel
theorem dX7_oil_8 : decode cX7_oil 8 = .ok (.ifCond .ne 6, 3) := by decide +kernel
theorem dX7_oil_11 : decode cX7_oil 11 = .ok (.ldc 153, 2) := by decide +kernel
theorem dX7_oil_13 : decode cX7_oil 13 = .ok (.ireturn, 1) := by decide +kernel
theorem dX7_oil_14 : decode cX7_oil 14 = .ok (.aload_n 0, 1) := by decide +kernel
theorem dX7_oil_15 : decode cX7_oil 15 = .ok (.getfield 19, 3) := by decide +kernel
theorem dX7_oil_18 : decode cX7_oil 18 = .ok (.aload_n 0, 1) := by decide +kernel
theorem dX7_oil_19 : decode cX7_oil 19 = .ok (.getfield 69, 3) := by decide +kernel
theorem dX7_oil_22 : decode cX7_oil 22 = .ok (.iload_n 1, 1) := by decide +kernel
theorem dX7_oil_23 : decode cX7_oil 23 = .ok (.invokevirtual 160, 3) := by decide +kernel
theorem dX7_oil_26 : decode cX7_oil 26 = .ok (.ifCond .eq 7, 3) := by decide +kernel
theorem dX7_oil_29 : decode cX7_oil 29 = .ok (.iconst 1, 1) := by decide +kernel
theorem dX7_oil_30 : decode cX7_oil 30 = .ok (.goto 4, 3) := by decide +kernel
theorem dX7_oil_33 : decode cX7_oil 33 = .ok (.iconst 0, 1) := by decide +kernel
theorem dX7_oil_34 : decode cX7_oil 34 = .ok (.istore_n 2, 1) := by decide +kernel
theorem dX7_oil_35 : decode cX7_oil 35 = .ok (.aload_n 0, 1) := by decide +kernel
theorem dX7_oil_36 : decode cX7_oil 36 = .ok (.getfield 26, 3) := by decide +kernel
theorem dX7_oil_39 : decode cX7_oil 39 = .ok (.aload_n 0, 1) := by decide +kernel
theorem dX7_oil_40 : decode cX7_oil 40 = .ok (.getfield 19, 3) := by decide +kernel
theorem dX7_oil_43 : decode cX7_oil 43 = .ok (.invokevirtual 187, 3) := by decide +kernel
theorem dX7_oil_46 : decode cX7_oil 46 = .ok (.aload_n 0, 1) := by decide +kernel
theorem dX7_oil_47 : decode cX7_oil 47 = .ok (.getfield 19, 3) := by decide +kernel
theorem dX7_oil_50 : decode cX7_oil 50 = .ok (.getfield 157, 3) := by decide +kernel
theorem dX7_oil_53 : decode cX7_oil 53 = .ok (.iload_n 1, 1) := by decide +kernel
theorem dX7_oil_54 : decode cX7_oil 54 = .ok (.iconst 0, 1) := by decide +kernel
theorem dX7_oil_55 : decode cX7_oil 55 = .ok (.iastore, 1) := by decide +kernel
theorem dX7_oil_56 : decode cX7_oil 56 = .ok (.iload_n 2, 1) := by decide +kernel
theorem dX7_oil_57 : decode cX7_oil 57 = .ok (.ireturn, 1) := by decide +kernel
theorem dX7_well_0 : decode cX7_well 0 = .ok (.aload_n 0, 1) := by decide +kernel
theorem dX7_well_1 : decode cX7_well 1 = .ok (.getfield 69, 3) := by decide +kernel
theorem dX7_well_4 : decode cX7_well 4 = .ok (.iload_n 1, 1) := by decide +kernel
theorem dX7_well_5 : decode cX7_well 5 = .ok (.invokevirtual 168, 3) := by decide +kernel
theorem dX7_well_8 : decode cX7_well 8 = .ok (.ifCond .ne 6, 3) := by decide +kernel
theorem dX7_well_11 : decode cX7_well 11 = .ok (.ldc 153, 2) := by decide +kernel
theorem dX7_well_13 : decode cX7_well 13 = .ok (.ireturn, 1) := by decide +kernel
theorem dX7_well_14 : decode cX7_well 14 = .ok (.aload_n 0, 1) := by decide +kernel
theorem dX7_well_15 : decode cX7_well 15 = .ok (.getfield 19, 3) := by decide +kernel
theorem dX7_well_18 : decode cX7_well 18 = .ok (.getfield 128, 3) := by decide +kernel
theorem dX7_well_21 : decode cX7_well 21 = .ok (.iload_n 1, 1) := by decide +kernel
theorem dX7_well_22 : decode cX7_well 22 = .ok (.ishr, 1) := by decide +kernel
theorem dX7_well_23 : decode cX7_well 23 = .ok (.iconst 1, 1) := by decide +kernel
theorem dX7_well_24 : decode cX7_well 24 = .ok (.iand, 1) := by decide +kernel
theorem dX7_well_25 : decode cX7_well 25 = .ok (.istore_n 2, 1) := by decide +kernel
theorem dX7_well_26 : decode cX7_well 26 = .ok (.aload_n 0, 1) := by decide +kernel
theorem dX7_well_27 : decode cX7_well 27 = .ok (.getfield 26, 3) := by decide +kernel
theorem dX7_well_30 : decode cX7_well 30 = .ok (.aload_n 0, 1) := by decide +kernel
theorem dX7_well_31 : decode cX7_well 31 = .ok (.getfield 19, 3) := by decide +kernel
theorem dX7_well_34 : decode cX7_well 34 = .ok (.invokevirtual 187, 3) := by decide +kernel
theorem dX7_well_37 : decode cX7_well 37 = .ok (.aload_n 0, 1) := by decide +kernel
theorem dX7_well_38 : decode cX7_well 38 = .ok (.getfield 19, 3) := by decide +kernel
theorem dX7_well_41 : decode cX7_well 41 = .ok (.dup, 1) := by decide +kernel
theorem dX7_well_42 : decode cX7_well 42 = .ok (.getfield 128, 3) := by decide +kernel
theorem dX7_well_45 : decode cX7_well 45 = .ok (.iconst 1, 1) := by decide +kernel
theorem dX7_well_46 : decode cX7_well 46 = .ok (.iload_n 1, 1) := by decide +kernel
theorem dX7_well_47 : decode cX7_well 47 = .ok (.ishl, 1) := by decide +kernel
theorem dX7_well_48 : decode cX7_well 48 = .ok (.iconst (-1), 1) := by decide +kernel
theorem dX7_well_49 : decode cX7_well 49 = .ok (.ixor, 1) := by decide +kernel
theorem dX7_well_50 : decode cX7_well 50 = .ok (.iand, 1) := by decide +kernel
theorem dX7_well_51 : decode cX7_well 51 = .ok (.putfield 128, 3) := by decide +kernel
theorem dX7_well_54 : decode cX7_well 54 = .ok (.iload_n 2, 1) := by decide +kernel
theorem dX7_well_55 : decode cX7_well 55 = .ok (.ireturn, 1) := by decide +kernel
theorem dX7_drift_0 : decode cX7_drift 0 = .ok (.aload_n 0, 1) := by decide +kernel
theorem dX7_drift_1 : decode cX7_drift 1 = .ok (.iload_n 1, 1) := by decide +kernel
theorem dX7_drift_2 : decode cX7_drift 2 = .ok (.invokevirtual 184, 3) := by decide +kernel
theorem dX7_drift_5 : decode cX7_drift 5 = .ok (.istore_n 2, 1) := by decide +kernel
theorem dX7_drift_6 : decode cX7_drift 6 = .ok (.iload_n 2, 1) := by decide +kernel
theorem dX7_drift_7 : decode cX7_drift 7 = .ok (.ifCond .eq 5, 3) := by decide +kernel
theorem dX7_drift_10 : decode cX7_drift 10 = .ok (.iload_n 2, 1) := by decide +kernel
theorem dX7_drift_11 : decode cX7_drift 11 = .ok (.ireturn, 1) := by decide +kernel
theorem dX7_drift_12 : decode cX7_drift 12 = .ok (.aload_n 0, 1) := by decide +kernel
theorem dX7_drift_13 : decode cX7_drift 13 = .ok (.getfield 26, 3) := by decide +kernel
theorem dX7_drift_16 : decode cX7_drift 16 = .ok (.aload_n 0, 1) := by decide +kernel
theorem dX7_drift_17 : decode cX7_drift 17 = .ok (.getfield 19, 3) := by decide +kernel
theorem dX7_drift_20 : decode cX7_drift 20 = .ok (.invokevirtual 187, 3) := by decide +kernel
theorem dX7_drift_23 : decode cX7_drift 23 = .ok (.iconst 0, 1) := by decide +kernel
theorem dX7_drift_24 : decode cX7_drift 24 = .ok (.istore_n 3, 1) := by decide +kernel
theorem dX7_drift_25 : decode cX7_drift 25 = .ok (.iload_n 3, 1) := by decide +kernel
theorem dX7_drift_26 : decode cX7_drift 26 = .ok (.iload_n 1, 1) := by decide +kernel
theorem dX7_drift_27 : decode cX7_drift 27 = .ok (.if_icmp .ge 24, 3) := by decide +kernel
theorem dX7_drift_30 : decode cX7_drift 30 = .ok (.aload_n 0, 1) := by decide +kernel
theorem dX7_drift_31 : decode cX7_drift 31 = .ok (.invokevirtual 195, 3) := by decide +kernel
theorem dX7_drift_34 : decode cX7_drift 34 = .ok (.aload_n 0, 1) := by decide +kernel
theorem dX7_drift_35 : decode cX7_drift 35 = .ok (.getfield 19, 3) := by decide +kernel
theorem dX7_drift_38 : decode cX7_drift 38 = .ok (.aload_n 0, 1) := by decide +kernel
theorem dX7_drift_39 : decode cX7_drift 39 = .ok (.getfield 69, 3) := by decide +kernel
theorem dX7_drift_42 : decode cX7_drift 42 = .ok (.invokevirtual 191, 3) := by decide +kernel
theorem dX7_drift_45 : decode cX7_drift 45 = .ok (.iinc 3 1, 3) := by decide +kernel
theorem dX7_drift_48 : decode cX7_drift 48 = .ok (.goto (-23), 3) := by decide +kernel
theorem dX7_drift_51 : decode cX7_drift 51 = .ok (.aload_n 0, 1) := by decide +kernel
theorem dX7_drift_52 : decode cX7_drift 52 = .ok (.getfield 19, 3) := by decide +kernel
theorem dX7_drift_55 : decode cX7_drift 55 = .ok (.getfield 119, 3) := by decide +kernel
theorem dX7_drift_58 : decode cX7_drift 58 = .ok (.ireturn, 1) := by decide +kernel
theorem dX7_undo_0 : decode cX7_undo 0 = .ok (.aload_n 0, 1) := by decide +kernel
theorem dX7_undo_1 : decode cX7_undo 1 = .ok (.getfield 26, 3) := by decide +kernel
theorem dX7_undo_4 : decode cX7_undo 4 = .ok (.getfield 146, 3) := by decide +kernel
theorem dX7_undo_7 : decode cX7_undo 7 = .ok (.ifCond .ne 6, 3) := by decide +kernel
theorem dX7_undo_10 : decode cX7_undo 10 = .ok (.ldc 194, 2) := by decide +kernel
theorem dX7_undo_12 : decode cX7_undo 12 = .ok (.ireturn, 1) := by decide +kernel
theorem dX7_undo_13 : decode cX7_undo 13 = .ok (.aload_n 0, 1) := by decide +kernel
theorem dX7_undo_14 : decode cX7_undo 14 = .ok (.getfield 26, 3) := by decide +kernel
theorem dX7_undo_17 : decode cX7_undo 17 = .ok (.aload_n 0, 1) := by decide +kernel
theorem dX7_undo_18 : decode cX7_undo 18 = .ok (.getfield 19, 3) := by decide +kernel
theorem dX7_undo_21 : decode cX7_undo 21 = .ok (.invokevirtual 198, 3) := by decide +kernel
theorem dX7_undo_24 : decode cX7_undo 24 = .ok (.aload_n 0, 1) := by decide +kernel
theorem dX7_undo_25 : decode cX7_undo 25 = .ok (.getfield 26, 3) := by decide +kernel
theorem dX7_undo_28 : decode cX7_undo 28 = .ok (.getfield 146, 3) := by decide +kernel
theorem dX7_undo_31 : decode cX7_undo 31 = .ok (.ireturn, 1) := by decide +kernel
theorem dX7_refusalOfHours_0 : decode cX7_refusalOfHours 0 = .ok (.iload_n 1, 1) := by decide +kernel
theorem dX7_refusalOfHours_1 : decode cX7_refusalOfHours 1 = .ok (.iconst 1, 1) := by decide +kernel
theorem dX7_refusalOfHours_2 : decode cX7_refusalOfHours 2 = .ok (.if_icmp .lt 9, 3) := by decide +kernel
theorem dX7_refusalOfHours_5 : decode cX7_refusalOfHours 5 = .ok (.iload_n 1, 1) := by decide +kernel
theorem dX7_refusalOfHours_6 : decode cX7_refusalOfHours 6 = .ok (.bipush 60, 2) := by decide +kernel
theorem dX7_refusalOfHours_8 : decode cX7_refusalOfHours 8 = .ok (.if_icmp .le 6, 3) := by decide +kernel
theorem dX7_refusalOfHours_11 : decode cX7_refusalOfHours 11 = .ok (.ldc 90, 2) := by decide +kernel
theorem dX7_refusalOfHours_13 : decode cX7_refusalOfHours 13 = .ok (.ireturn, 1) := by decide +kernel
theorem dX7_refusalOfHours_14 : decode cX7_refusalOfHours 14 = .ok (.aload_n 0, 1) := by decide +kernel
theorem dX7_refusalOfHours_15 : decode cX7_refusalOfHours 15 = .ok (.getfield 69, 3) := by decide +kernel
theorem dX7_refusalOfHours_18 : decode cX7_refusalOfHours 18 = .ok (.getfield 113, 3) := by decide +kernel
theorem dX7_refusalOfHours_21 : decode cX7_refusalOfHours 21 = .ok (.ifCond .ne 6, 3) := by decide +kernel
theorem dX7_refusalOfHours_24 : decode cX7_refusalOfHours 24 = .ok (.ldc 194, 2) := by decide +kernel
theorem dX7_refusalOfHours_26 : decode cX7_refusalOfHours 26 = .ok (.ireturn, 1) := by decide +kernel
theorem dX7_refusalOfHours_27 : decode cX7_refusalOfHours 27 = .ok (.aload_n 0, 1) := by decide +kernel
theorem dX7_refusalOfHours_28 : decode cX7_refusalOfHours 28 = .ok (.getfield 19, 3) := by decide +kernel
theorem dX7_refusalOfHours_31 : decode cX7_refusalOfHours 31 = .ok (.getfield 116, 3) := by decide +kernel
theorem dX7_refusalOfHours_34 : decode cX7_refusalOfHours 34 = .ok (.sipush 9000, 3) := by decide +kernel
theorem dX7_refusalOfHours_37 : decode cX7_refusalOfHours 37 = .ok (.if_icmp .le 8, 3) := by decide +kernel
theorem dX7_refusalOfHours_40 : decode cX7_refusalOfHours 40 = .ok (.ldc 94, 2) := by decide +kernel
theorem dX7_refusalOfHours_42 : decode cX7_refusalOfHours 42 = .ok (.goto 4, 3) := by decide +kernel
theorem dX7_refusalOfHours_45 : decode cX7_refusalOfHours 45 = .ok (.iconst 0, 1) := by decide +kernel
theorem dX7_refusalOfHours_46 : decode cX7_refusalOfHours 46 = .ok (.ireturn, 1) := by decide +kernel
theorem dX7_comeByDraw_0 : decode cX7_comeByDraw 0 = .ok (.aload_n 0, 1) := by decide +kernel
theorem dX7_comeByDraw_1 : decode cX7_comeByDraw 1 = .ok (.getfield 69, 3) := by decide +kernel
theorem dX7_comeByDraw_4 : decode cX7_comeByDraw 4 = .ok (.getfield 110, 3) := by decide +kernel
theorem dX7_comeByDraw_7 : decode cX7_comeByDraw 7 = .ok (.ifCond .eq 13, 3) := by decide +kernel
theorem dX7_comeByDraw_10 : decode cX7_comeByDraw 10 = .ok (.aload_n 0, 1) := by decide +kernel
theorem dX7_comeByDraw_11 : decode cX7_comeByDraw 11 = .ok (.getfield 69, 3) := by decide +kernel
theorem dX7_comeByDraw_14 : decode cX7_comeByDraw 14 = .ok (.getfield 113, 3) := by decide +kernel
theorem dX7_comeByDraw_17 : decode cX7_comeByDraw 17 = .ok (.ifCond .ne 4, 3) := by decide +kernel
theorem dX7_comeByDraw_20 : decode cX7_comeByDraw 20 = .ok (.return_, 1) := by decide +kernel
theorem dX7_comeByDraw_21 : decode cX7_comeByDraw 21 = .ok (.aload_n 0, 1) := by decide +kernel
theorem dX7_comeByDraw_22 : decode cX7_comeByDraw 22 = .ok (.aload_n 0, 1) := by decide +kernel
theorem dX7_comeByDraw_23 : decode cX7_comeByDraw 23 = .ok (.getfield 69, 3) := by decide +kernel
theorem dX7_comeByDraw_26 : decode cX7_comeByDraw 26 = .ok (.getfield 110, 3) := by decide +kernel
theorem dX7_comeByDraw_29 : decode cX7_comeByDraw 29 = .ok (.invokevirtual 201, 3) := by decide +kernel
theorem dX7_comeByDraw_32 : decode cX7_comeByDraw 32 = .ok (.istore_n 1, 1) := by decide +kernel
theorem dX7_comeByDraw_33 : decode cX7_comeByDraw 33 = .ok (.aload_n 0, 1) := by decide +kernel
theorem dX7_comeByDraw_34 : decode cX7_comeByDraw 34 = .ok (.aload_n 0, 1) := by decide +kernel
theorem dX7_comeByDraw_35 : decode cX7_comeByDraw 35 = .ok (.getfield 69, 3) := by decide +kernel
theorem dX7_comeByDraw_38 : decode cX7_comeByDraw 38 = .ok (.getfield 113, 3) := by decide +kernel
theorem dX7_comeByDraw_41 : decode cX7_comeByDraw 41 = .ok (.invokevirtual 201, 3) := by decide +kernel
theorem dX7_comeByDraw_44 : decode cX7_comeByDraw 44 = .ok (.istore_n 2, 1) := by decide +kernel
theorem dX7_comeByDraw_45 : decode cX7_comeByDraw 45 = .ok (.aload_n 0, 1) := by decide +kernel
theorem dX7_comeByDraw_46 : decode cX7_comeByDraw 46 = .ok (.getfield 19, 3) := by decide +kernel
theorem dX7_comeByDraw_49 : decode cX7_comeByDraw 49 = .ok (.aload_n 0, 1) := by decide +kernel
theorem dX7_comeByDraw_50 : decode cX7_comeByDraw 50 = .ok (.getfield 69, 3) := by decide +kernel
theorem dX7_comeByDraw_53 : decode cX7_comeByDraw 53 = .ok (.iload_n 2, 1) := by decide +kernel
theorem dX7_comeByDraw_54 : decode cX7_comeByDraw 54 = .ok (.invokevirtual 160, 3) := by decide +kernel
theorem dX7_comeByDraw_57 : decode cX7_comeByDraw 57 = .ok (.ifCond .ne 13, 3) := by decide +kernel
theorem dX7_comeByDraw_60 : decode cX7_comeByDraw 60 = .ok (.aload_n 0, 1) := by decide +kernel
theorem dX7_comeByDraw_61 : decode cX7_comeByDraw 61 = .ok (.getfield 19, 3) := by decide +kernel
theorem dX7_comeByDraw_64 : decode cX7_comeByDraw 64 = .ok (.getfield 171, 3) := by decide +kernel
theorem dX7_comeByDraw_67 : decode cX7_comeByDraw 67 = .ok (.iload_n 1, 1) := by decide +kernel
theorem dX7_comeByDraw_68 : decode cX7_comeByDraw 68 = .ok (.iload_n 2, 1) := by decide +kernel
theorem dX7_comeByDraw_69 : decode cX7_comeByDraw 69 = .ok (.iastore, 1) := by decide +kernel
theorem dX7_comeByDraw_70 : decode cX7_comeByDraw 70 = .ok (.return_, 1) := by decide +kernel
theorem dX7_draw_0 : decode cX7_draw 0 = .ok (.aload_n 0, 1) := by decide +kernel
theorem dX7_draw_1 : decode cX7_draw 1 = .ok (.aload_n 0, 1) := by decide +kernel
theorem dX7_draw_2 : decode cX7_draw 2 = .ok (.getfield 87, 3) := by decide +kernel
theorem dX7_draw_5 : decode cX7_draw 5 = .ok (.ldc 204, 2) := by decide +kernel
theorem dX7_draw_7 : decode cX7_draw 7 = .ok (.imul, 1) := by decide +kernel
theorem dX7_draw_8 : decode cX7_draw 8 = .ok (.sipush 12345, 3) := by decide +kernel
theorem dX7_draw_11 : decode cX7_draw 11 = .ok (.iadd, 1) := by decide +kernel
theorem dX7_draw_12 : decode cX7_draw 12 = .ok (.ldc 205, 2) := by decide +kernel
theorem dX7_draw_14 : decode cX7_draw 14 = .ok (.iand, 1) := by decide +kernel
theorem dX7_draw_15 : decode cX7_draw 15 = .ok (.putfield 87, 3) := by decide +kernel
theorem dX7_draw_18 : decode cX7_draw 18 = .ok (.iload_n 1, 1) := by decide +kernel
theorem dX7_draw_19 : decode cX7_draw 19 = .ok (.ifCond .le 15, 3) := by decide +kernel
theorem dX7_draw_22 : decode cX7_draw 22 = .ok (.aload_n 0, 1) := by decide +kernel
theorem dX7_draw_23 : decode cX7_draw 23 = .ok (.getfield 87, 3) := by decide +kernel
theorem dX7_draw_26 : decode cX7_draw 26 = .ok (.ldc 206, 2) := by decide +kernel
theorem dX7_draw_28 : decode cX7_draw 28 = .ok (.idiv, 1) := by decide +kernel
theorem dX7_draw_29 : decode cX7_draw 29 = .ok (.iload_n 1, 1) := by decide +kernel
theorem dX7_draw_30 : decode cX7_draw 30 = .ok (.irem, 1) := by decide +kernel
theorem dX7_draw_31 : decode cX7_draw 31 = .ok (.goto 4, 3) := by decide +kernel
theorem dX7_draw_34 : decode cX7_draw 34 = .ok (.iconst 0, 1) := by decide +kernel
theorem dX7_draw_35 : decode cX7_draw 35 = .ok (.ireturn, 1) := by decide +kernel
theorem dX7_atOnce_0 : decode cX7_atOnce 0 = .ok (.iload_n 1, 1) := by decide +kernel
theorem dX7_atOnce_1 : decode cX7_atOnce 1 = .ok (.iconst (-1), 1) := by decide +kernel
theorem dX7_atOnce_2 : decode cX7_atOnce 2 = .ok (.if_icmp .eq 23, 3) := by decide +kernel
theorem dX7_atOnce_5 : decode cX7_atOnce 5 = .ok (.iload_n 1, 1) := by decide +kernel
theorem dX7_atOnce_6 : decode cX7_atOnce 6 = .ok (.bipush (-2), 2) := by decide +kernel
theorem dX7_atOnce_8 : decode cX7_atOnce 8 = .ok (.if_icmp .eq 17, 3) := by decide +kernel
theorem dX7_atOnce_11 : decode cX7_atOnce 11 = .ok (.aload_n 0, 1) := by decide +kernel
theorem dX7_atOnce_12 : decode cX7_atOnce 12 = .ok (.getfield 69, 3) := by decide +kernel
theorem dX7_atOnce_15 : decode cX7_atOnce 15 = .ok (.iload_n 1, 1) := by decide +kernel
theorem dX7_atOnce_16 : decode cX7_atOnce 16 = .ok (.invokevirtual 168, 3) := by decide +kernel
theorem dX7_atOnce_19 : decode cX7_atOnce 19 = .ok (.ifCond .ne 6, 3) := by decide +kernel
theorem dX7_atOnce_22 : decode cX7_atOnce 22 = .ok (.ldc 153, 2) := by decide +kernel
theorem dX7_atOnce_24 : decode cX7_atOnce 24 = .ok (.ireturn, 1) := by decide +kernel
theorem dX7_atOnce_25 : decode cX7_atOnce 25 = .ok (.aload_n 0, 1) := by decide +kernel
theorem dX7_atOnce_26 : decode cX7_atOnce 26 = .ok (.getfield 40, 3) := by decide +kernel
theorem dX7_atOnce_29 : decode cX7_atOnce 29 = .ok (.aload_n 0, 1) := by decide +kernel
theorem dX7_atOnce_30 : decode cX7_atOnce 30 = .ok (.getfield 69, 3) := by decide +kernel
theorem dX7_atOnce_33 : decode cX7_atOnce 33 = .ok (.aload_n 0, 1) := by decide +kernel
theorem dX7_atOnce_34 : decode cX7_atOnce 34 = .ok (.getfield 19, 3) := by decide +kernel
theorem dX7_atOnce_37 : decode cX7_atOnce 37 = .ok (.getfield 125, 3) := by decide +kernel
theorem dX7_atOnce_40 : decode cX7_atOnce 40 = .ok (.aload_n 0, 1) := by decide +kernel
theorem dX7_atOnce_41 : decode cX7_atOnce 41 = .ok (.invokevirtual 207, 3) := by decide +kernel
theorem dX7_atOnce_44 : decode cX7_atOnce 44 = .ok (.invokevirtual 211, 3) := by decide +kernel
theorem dX7_atOnce_47 : decode cX7_atOnce 47 = .ok (.iload_n 1, 1) := by decide +kernel
theorem dX7_atOnce_48 : decode cX7_atOnce 48 = .ok (.iconst (-1), 1) := by decide +kernel
theorem dX7_atOnce_49 : decode cX7_atOnce 49 = .ok (.if_icmp .ne 11, 3) := by decide +kernel
theorem dX7_atOnce_52 : decode cX7_atOnce 52 = .ok (.aload_n 0, 1) := by decide +kernel
theorem dX7_atOnce_53 : decode cX7_atOnce 53 = .ok (.getfield 40, 3) := by decide +kernel
theorem dX7_atOnce_56 : decode cX7_atOnce 56 = .ok (.getfield 215, 3) := by decide +kernel
theorem dX7_atOnce_59 : decode cX7_atOnce 59 = .ok (.ireturn, 1) := by decide +kernel
theorem dX7_atOnce_60 : decode cX7_atOnce 60 = .ok (.iload_n 1, 1) := by decide +kernel
theorem dX7_atOnce_61 : decode cX7_atOnce 61 = .ok (.bipush (-2), 2) := by decide +kernel
theorem dX7_atOnce_63 : decode cX7_atOnce 63 = .ok (.if_icmp .ne 11, 3) := by decide +kernel
theorem dX7_atOnce_66 : decode cX7_atOnce 66 = .ok (.aload_n 0, 1) := by decide +kernel
theorem dX7_atOnce_67 : decode cX7_atOnce 67 = .ok (.getfield 40, 3) := by decide +kernel
theorem dX7_atOnce_70 : decode cX7_atOnce 70 = .ok (.getfield 218, 3) := by decide +kernel
theorem dX7_atOnce_73 : decode cX7_atOnce 73 = .ok (.ireturn, 1) := by decide +kernel
theorem dX7_atOnce_74 : decode cX7_atOnce 74 = .ok (.aload_n 0, 1) := by decide +kernel
theorem dX7_atOnce_75 : decode cX7_atOnce 75 = .ok (.getfield 40, 3) := by decide +kernel
theorem dX7_atOnce_78 : decode cX7_atOnce 78 = .ok (.getfield 220, 3) := by decide +kernel
theorem dX7_atOnce_81 : decode cX7_atOnce 81 = .ok (.iload_n 1, 1) := by decide +kernel
theorem dX7_atOnce_82 : decode cX7_atOnce 82 = .ok (.iaload, 1) := by decide +kernel
theorem dX7_atOnce_83 : decode cX7_atOnce 83 = .ok (.ireturn, 1) := by decide +kernel
theorem dX7_sides_0 : decode cX7_sides 0 = .ok (.aload_n 0, 1) := by decide +kernel
theorem dX7_sides_1 : decode cX7_sides 1 = .ok (.getfield 69, 3) := by decide +kernel
theorem dX7_sides_4 : decode cX7_sides 4 = .ok (.iload_n 1, 1) := by decide +kernel
theorem dX7_sides_5 : decode cX7_sides 5 = .ok (.invokevirtual 223, 3) := by decide +kernel
theorem dX7_sides_8 : decode cX7_sides 8 = .ok (.ifCond .eq 14, 3) := by decide +kernel
theorem dX7_sides_11 : decode cX7_sides 11 = .ok (.aload_n 0, 1) := by decide +kernel
theorem dX7_sides_12 : decode cX7_sides 12 = .ok (.getfield 69, 3) := by decide +kernel
theorem dX7_sides_15 : decode cX7_sides 15 = .ok (.iload_n 2, 1) := by decide +kernel
theorem dX7_sides_16 : decode cX7_sides 16 = .ok (.invokevirtual 223, 3) := by decide +kernel
theorem dX7_sides_19 : decode cX7_sides 19 = .ok (.ifCond .ne 6, 3) := by decide +kernel
theorem dX7_sides_22 : decode cX7_sides 22 = .ok (.ldc 153, 2) := by decide +kernel
theorem dX7_sides_24 : decode cX7_sides 24 = .ok (.ireturn, 1) := by decide +kernel
theorem dX7_sides_25 : decode cX7_sides 25 = .ok (.aload_n 0, 1) := by decide +kernel
theorem dX7_sides_26 : decode cX7_sides 26 = .ok (.getfield 47, 3) := by decide +kernel
theorem dX7_sides_29 : decode cX7_sides 29 = .ok (.aload_n 0, 1) := by decide +kernel
theorem dX7_sides_30 : decode cX7_sides 30 = .ok (.getfield 69, 3) := by decide +kernel
theorem dX7_sides_33 : decode cX7_sides 33 = .ok (.aload_n 0, 1) := by decide +kernel
theorem dX7_sides_34 : decode cX7_sides 34 = .ok (.getfield 19, 3) := by decide +kernel
theorem dX7_sides_37 : decode cX7_sides 37 = .ok (.getfield 125, 3) := by decide +kernel
theorem dX7_sides_40 : decode cX7_sides 40 = .ok (.aload_n 0, 1) := by decide +kernel
theorem dX7_sides_41 : decode cX7_sides 41 = .ok (.invokevirtual 207, 3) := by decide +kernel
theorem dX7_sides_44 : decode cX7_sides 44 = .ok (.iload_n 1, 1) := by decide +kernel
theorem dX7_sides_45 : decode cX7_sides 45 = .ok (.iload_n 2, 1) := by decide +kernel
theorem dX7_sides_46 : decode cX7_sides 46 = .ok (.invokevirtual 226, 3) := by decide +kernel
theorem dX7_sides_49 : decode cX7_sides 49 = .ok (.ireturn, 1) := by decide +kernel
theorem dX7_steady_0 : decode cX7_steady 0 = .ok (.aload_n 0, 1) := by decide +kernel
theorem dX7_steady_1 : decode cX7_steady 1 = .ok (.getfield 40, 3) := by decide +kernel
theorem dX7_steady_4 : decode cX7_steady 4 = .ok (.aload_n 0, 1) := by decide +kernel
theorem dX7_steady_5 : decode cX7_steady 5 = .ok (.getfield 69, 3) := by decide +kernel
theorem dX7_steady_8 : decode cX7_steady 8 = .ok (.aload_n 0, 1) := by decide +kernel
theorem dX7_steady_9 : decode cX7_steady 9 = .ok (.getfield 19, 3) := by decide +kernel
theorem dX7_steady_12 : decode cX7_steady 12 = .ok (.getfield 125, 3) := by decide +kernel
theorem dX7_steady_15 : decode cX7_steady 15 = .ok (.aload_n 0, 1) := by decide +kernel
theorem dX7_steady_16 : decode cX7_steady 16 = .ok (.invokevirtual 207, 3) := by decide +kernel
theorem dX7_steady_19 : decode cX7_steady 19 = .ok (.invokevirtual 211, 3) := by decide +kernel
theorem dX7_steady_22 : decode cX7_steady 22 = .ok (.iconst 0, 1) := by decide +kernel
theorem dX7_steady_23 : decode cX7_steady 23 = .ok (.istore_n 1, 1) := by decide +kernel
theorem dX7_steady_24 : decode cX7_steady 24 = .ok (.iload_n 1, 1) := by decide +kernel
theorem dX7_steady_25 : decode cX7_steady 25 = .ok (.aload_n 0, 1) := by decide +kernel
theorem dX7_steady_26 : decode cX7_steady 26 = .ok (.getfield 69, 3) := by decide +kernel
theorem dX7_steady_29 : decode cX7_steady 29 = .ok (.getfield 110, 3) := by decide +kernel
theorem dX7_steady_32 : decode cX7_steady 32 = .ok (.if_icmp .ge 75, 3) := by decide +kernel
theorem dX7_steady_35 : decode cX7_steady 35 = .ok (.aload_n 0, 1) := by decide +kernel
theorem dX7_steady_36 : decode cX7_steady 36 = .ok (.getfield 69, 3) := by decide +kernel
theorem dX7_steady_39 : decode cX7_steady 39 = .ok (.iload_n 1, 1) := by decide +kernel
theorem dX7_steady_40 : decode cX7_steady 40 = .ok (.aload_n 0, 1) := by decide +kernel
theorem dX7_steady_41 : decode cX7_steady 41 = .ok (.getfield 19, 3) := by decide +kernel
theorem dX7_steady_44 : decode cX7_steady 44 = .ok (.getfield 125, 3) := by decide +kernel
theorem dX7_steady_47 : decode cX7_steady 47 = .ok (.invokevirtual 174, 3) := by decide +kernel
theorem dX7_steady_50 : decode cX7_steady 50 = .ok (.istore_n 2, 1) := by decide +kernel
theorem dX7_steady_51 : decode cX7_steady 51 = .ok (.iload_n 1, 1) := by decide +kernel
theorem dX7_steady_52 : decode cX7_steady 52 = .ok (.iconst 1, 1) := by decide +kernel
theorem dX7_steady_53 : decode cX7_steady 53 = .ok (.iadd, 1) := by decide +kernel
theorem dX7_steady_54 : decode cX7_steady 54 = .ok (.istore_n 3, 1) := by decide +kernel
theorem dX7_steady_55 : decode cX7_steady 55 = .ok (.iload_n 3, 1) := by decide +kernel
theorem dX7_steady_56 : decode cX7_steady 56 = .ok (.aload_n 0, 1) := by decide +kernel
theorem dX7_steady_57 : decode cX7_steady 57 = .ok (.getfield 69, 3) := by decide +kernel
theorem dX7_steady_60 : decode cX7_steady 60 = .ok (.getfield 110, 3) := by decide +kernel
theorem dX7_steady_63 : decode cX7_steady 63 = .ok (.if_icmp .ge 38, 3) := by decide +kernel
theorem dX7_steady_66 : decode cX7_steady 66 = .ok (.iload_n 2, 1) := by decide +kernel
theorem dX7_steady_67 : decode cX7_steady 67 = .ok (.iload_n 3, 1) := by decide +kernel
theorem dX7_steady_68 : decode cX7_steady 68 = .ok (.ishr, 1) := by decide +kernel
theorem dX7_steady_69 : decode cX7_steady 69 = .ok (.iconst 1, 1) := by decide +kernel
theorem dX7_steady_70 : decode cX7_steady 70 = .ok (.iand, 1) := by decide +kernel
theorem dX7_steady_71 : decode cX7_steady 71 = .ok (.iconst 1, 1) := by decide +kernel
theorem dX7_steady_72 : decode cX7_steady 72 = .ok (.if_icmp .ne 23, 3) := by decide +kernel
theorem dX7_steady_75 : decode cX7_steady 75 = .ok (.aload_n 0, 1) := by decide +kernel
theorem dX7_steady_76 : decode cX7_steady 76 = .ok (.iload_n 1, 1) := by decide +kernel
theorem dX7_steady_77 : decode cX7_steady 77 = .ok (.iload_n 3, 1) := by decide +kernel
theorem dX7_steady_78 : decode cX7_steady 78 = .ok (.invokevirtual 230, 3) := by decide +kernel
theorem dX7_steady_81 : decode cX7_steady 81 = .ok (.ifCond .eq 14, 3) := by decide +kernel
theorem dX7_steady_84 : decode cX7_steady 84 = .ok (.aload_n 0, 1) := by decide +kernel
theorem dX7_steady_85 : decode cX7_steady 85 = .ok (.iload_n 3, 1) := by decide +kernel
theorem dX7_steady_86 : decode cX7_steady 86 = .ok (.iload_n 1, 1) := by decide +kernel
theorem dX7_steady_87 : decode cX7_steady 87 = .ok (.invokevirtual 230, 3) := by decide +kernel
theorem dX7_steady_90 : decode cX7_steady 90 = .ok (.ifCond .eq 5, 3) := by decide +kernel
theorem dX7_steady_93 : decode cX7_steady 93 = .ok (.iconst 0, 1) := by decide +kernel
theorem dX7_steady_94 : decode cX7_steady 94 = .ok (.ireturn, 1) := by decide +kernel
theorem dX7_steady_95 : decode cX7_steady 95 = .ok (.iinc 3 1, 3) := by decide +kernel
theorem dX7_steady_98 : decode cX7_steady 98 = .ok (.goto (-43), 3) := by decide +kernel
theorem dX7_steady_101 : decode cX7_steady 101 = .ok (.iinc 1 1, 3) := by decide +kernel
theorem dX7_steady_104 : decode cX7_steady 104 = .ok (.goto (-80), 3) := by decide +kernel
theorem dX7_steady_107 : decode cX7_steady 107 = .ok (.iconst 1, 1) := by decide +kernel
theorem dX7_steady_108 : decode cX7_steady 108 = .ok (.ireturn, 1) := by decide +kernel
theorem dX7_loves_0 : decode cX7_loves 0 = .ok (.iconst 0, 1) := by decide +kernel
theorem dX7_loves_1 : decode cX7_loves 1 = .ok (.istore_n 2, 1) := by decide +kernel
theorem dX7_loves_2 : decode cX7_loves 2 = .ok (.iconst 0, 1) := by decide +kernel
theorem dX7_loves_3 : decode cX7_loves 3 = .ok (.istore_n 3, 1) := by decide +kernel
theorem dX7_loves_4 : decode cX7_loves 4 = .ok (.iload_n 3, 1) := by decide +kernel
theorem dX7_loves_5 : decode cX7_loves 5 = .ok (.aload_n 0, 1) := by decide +kernel
theorem dX7_loves_6 : decode cX7_loves 6 = .ok (.getfield 69, 3) := by decide +kernel
theorem dX7_loves_9 : decode cX7_loves 9 = .ok (.getfield 110, 3) := by decide +kernel
theorem dX7_loves_12 : decode cX7_loves 12 = .ok (.if_icmp .ge 74, 3) := by decide +kernel
theorem dX7_loves_15 : decode cX7_loves 15 = .ok (.iload_n 3, 1) := by decide +kernel
theorem dX7_loves_16 : decode cX7_loves 16 = .ok (.iconst 1, 1) := by decide +kernel
theorem dX7_loves_17 : decode cX7_loves 17 = .ok (.iadd, 1) := by decide +kernel
theorem dX7_loves_18 : decode cX7_loves 18 = .ok (.istore 4, 2) := by decide +kernel
theorem dX7_loves_20 : decode cX7_loves 20 = .ok (.iload 4, 2) := by decide +kernel
theorem dX7_loves_22 : decode cX7_loves 22 = .ok (.aload_n 0, 1) := by decide +kernel
theorem dX7_loves_23 : decode cX7_loves 23 = .ok (.getfield 69, 3) := by decide +kernel
theorem dX7_loves_26 : decode cX7_loves 26 = .ok (.getfield 110, 3) := by decide +kernel
theorem dX7_loves_29 : decode cX7_loves 29 = .ok (.if_icmp .ge 51, 3) := by decide +kernel
theorem dX7_loves_32 : decode cX7_loves 32 = .ok (.aload_n 0, 1) := by decide +kernel
theorem dX7_loves_33 : decode cX7_loves 33 = .ok (.getfield 69, 3) := by decide +kernel
theorem dX7_loves_36 : decode cX7_loves 36 = .ok (.iload_n 3, 1) := by decide +kernel
theorem dX7_loves_37 : decode cX7_loves 37 = .ok (.iload 4, 2) := by decide +kernel
theorem dX7_loves_39 : decode cX7_loves 39 = .ok (.invokevirtual 234, 3) := by decide +kernel
