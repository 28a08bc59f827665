theorem dX0_init_0 : decode cX0_init 0 = .ok (.aload_n 0, 1) := by decide +kernel
theorem dX0_init_1 : decode cX0_init 1 = .ok (.invokespecial 3, 3) := by decide +kernel
theorem dX0_init_4 : decode cX0_init 4 = .ok (.aload_n 0, 1) := by decide +kernel
theorem dX0_init_5 : decode cX0_init 5 = .ok (.iconst 5, 1) := by decide +kernel
theorem dX0_init_6 : decode cX0_init 6 = .ok (.newarray .int, 2) := by decide +kernel
theorem dX0_init_8 : decode cX0_init 8 = .ok (.putfield 9, 3) := by decide +kernel
theorem dX0_init_11 : decode cX0_init 11 = .ok (.aload_n 0, 1) := by decide +kernel
theorem dX0_init_12 : decode cX0_init 12 = .ok (.bipush 49, 2) := by decide +kernel
theorem dX0_init_14 : decode cX0_init 14 = .ok (.newarray .int, 2) := by decide +kernel
theorem dX0_init_16 : decode cX0_init 16 = .ok (.putfield 15, 3) := by decide +kernel
theorem dX0_init_19 : decode cX0_init 19 = .ok (.aload_n 0, 1) := by decide +kernel
theorem dX0_init_20 : decode cX0_init 20 = .ok (.bipush 7, 2) := by decide +kernel
theorem dX0_init_22 : decode cX0_init 22 = .ok (.newarray .int, 2) := by decide +kernel
theorem dX0_init_24 : decode cX0_init 24 = .ok (.putfield 18, 3) := by decide +kernel
theorem dX0_init_27 : decode cX0_init 27 = .ok (.return_, 1) := by decide +kernel
theorem dX0_empty_0 : decode cX0_empty 0 = .ok (.aload_n 0, 1) := by decide +kernel
theorem dX0_empty_1 : decode cX0_empty 1 = .ok (.iconst 0, 1) := by decide +kernel
theorem dX0_empty_2 : decode cX0_empty 2 = .ok (.putfield 21, 3) := by decide +kernel
theorem dX0_empty_5 : decode cX0_empty 5 = .ok (.aload_n 0, 1) := by decide +kernel
theorem dX0_empty_6 : decode cX0_empty 6 = .ok (.iconst 0, 1) := by decide +kernel
theorem dX0_empty_7 : decode cX0_empty 7 = .ok (.putfield 25, 3) := by decide +kernel
theorem dX0_empty_10 : decode cX0_empty 10 = .ok (.aload_n 0, 1) := by decide +kernel
theorem dX0_empty_11 : decode cX0_empty 11 = .ok (.iconst 0, 1) := by decide +kernel
theorem dX0_empty_12 : decode cX0_empty 12 = .ok (.putfield 28, 3) := by decide +kernel
theorem dX0_empty_15 : decode cX0_empty 15 = .ok (.aload_n 0, 1) := by decide +kernel
theorem dX0_empty_16 : decode cX0_empty 16 = .ok (.iconst 0, 1) := by decide +kernel
theorem dX0_empty_17 : decode cX0_empty 17 = .ok (.putfield 31, 3) := by decide +kernel
theorem dX0_empty_20 : decode cX0_empty 20 = .ok (.aload_n 0, 1) := by decide +kernel
theorem dX0_empty_21 : decode cX0_empty 21 = .ok (.getfield 15, 3) := by decide +kernel
theorem dX0_empty_24 : decode cX0_empty 24 = .ok (.iconst (-1), 1) := by decide +kernel
theorem dX0_empty_25 : decode cX0_empty 25 = .ok (.invokestatic 34, 3) := by decide +kernel
theorem dX0_empty_28 : decode cX0_empty 28 = .ok (.aload_n 0, 1) := by decide +kernel
theorem dX0_empty_29 : decode cX0_empty 29 = .ok (.getfield 18, 3) := by decide +kernel
theorem dX0_empty_32 : decode cX0_empty 32 = .ok (.iconst 0, 1) := by decide +kernel
theorem dX0_empty_33 : decode cX0_empty 33 = .ok (.invokestatic 34, 3) := by decide +kernel
theorem dX0_empty_36 : decode cX0_empty 36 = .ok (.return_, 1) := by decide +kernel
theorem dX0_hasGate_0 : decode cX0_hasGate 0 = .ok (.iload_n 1, 1) := by decide +kernel
theorem dX0_hasGate_1 : decode cX0_hasGate 1 = .ok (.ifCond .lt 15, 3) := by decide +kernel
theorem dX0_hasGate_4 : decode cX0_hasGate 4 = .ok (.iload_n 1, 1) := by decide +kernel
theorem dX0_hasGate_5 : decode cX0_hasGate 5 = .ok (.aload_n 0, 1) := by decide +kernel
theorem dX0_hasGate_6 : decode cX0_hasGate 6 = .ok (.getfield 21, 3) := by decide +kernel
theorem dX0_hasGate_9 : decode cX0_hasGate 9 = .ok (.if_icmp .ge 7, 3) := by decide +kernel
theorem dX0_hasGate_12 : decode cX0_hasGate 12 = .ok (.iconst 1, 1) := by decide +kernel
theorem dX0_hasGate_13 : decode cX0_hasGate 13 = .ok (.goto 4, 3) := by decide +kernel
theorem dX0_hasGate_16 : decode cX0_hasGate 16 = .ok (.iconst 0, 1) := by decide +kernel
theorem dX0_hasGate_17 : decode cX0_hasGate 17 = .ok (.ireturn, 1) := by decide +kernel
theorem dX0_hasPerson_0 : decode cX0_hasPerson 0 = .ok (.iload_n 1, 1) := by decide +kernel
theorem dX0_hasPerson_1 : decode cX0_hasPerson 1 = .ok (.ifCond .lt 15, 3) := by decide +kernel
theorem dX0_hasPerson_4 : decode cX0_hasPerson 4 = .ok (.iload_n 1, 1) := by decide +kernel
theorem dX0_hasPerson_5 : decode cX0_hasPerson 5 = .ok (.aload_n 0, 1) := by decide +kernel
theorem dX0_hasPerson_6 : decode cX0_hasPerson 6 = .ok (.getfield 25, 3) := by decide +kernel
theorem dX0_hasPerson_9 : decode cX0_hasPerson 9 = .ok (.if_icmp .ge 7, 3) := by decide +kernel
theorem dX0_hasPerson_12 : decode cX0_hasPerson 12 = .ok (.iconst 1, 1) := by decide +kernel
theorem dX0_hasPerson_13 : decode cX0_hasPerson 13 = .ok (.goto 4, 3) := by decide +kernel
theorem dX0_hasPerson_16 : decode cX0_hasPerson 16 = .ok (.iconst 0, 1) := by decide +kernel
theorem dX0_hasPerson_17 : decode cX0_hasPerson 17 = .ok (.ireturn, 1) := by decide +kernel
theorem dX0_hasAll_0 : decode cX0_hasAll 0 = .ok (.iload_n 1, 1) := by decide +kernel
theorem dX0_hasAll_1 : decode cX0_hasAll 1 = .ok (.aload_n 0, 1) := by decide +kernel
theorem dX0_hasAll_2 : decode cX0_hasAll 2 = .ok (.getfield 25, 3) := by decide +kernel
theorem dX0_hasAll_5 : decode cX0_hasAll 5 = .ok (.iushr, 1) := by decide +kernel
theorem dX0_hasAll_6 : decode cX0_hasAll 6 = .ok (.ifCond .ne 7, 3) := by decide +kernel
theorem dX0_hasAll_9 : decode cX0_hasAll 9 = .ok (.iconst 1, 1) := by decide +kernel
theorem dX0_hasAll_10 : decode cX0_hasAll 10 = .ok (.goto 4, 3) := by decide +kernel
theorem dX0_hasAll_13 : decode cX0_hasAll 13 = .ok (.iconst 0, 1) := by decide +kernel
theorem dX0_hasAll_14 : decode cX0_hasAll 14 = .ok (.ireturn, 1) := by decide +kernel
theorem dX0_addGate_0 : decode cX0_addGate 0 = .ok (.aload_n 0, 1) := by decide +kernel
theorem dX0_addGate_1 : decode cX0_addGate 1 = .ok (.getfield 21, 3) := by decide +kernel
theorem dX0_addGate_4 : decode cX0_addGate 4 = .ok (.iconst 5, 1) := by decide +kernel
theorem dX0_addGate_5 : decode cX0_addGate 5 = .ok (.if_icmp .ge 23, 3) := by decide +kernel
theorem dX0_addGate_8 : decode cX0_addGate 8 = .ok (.aload_n 0, 1) := by decide +kernel
theorem dX0_addGate_9 : decode cX0_addGate 9 = .ok (.getfield 9, 3) := by decide +kernel
theorem dX0_addGate_12 : decode cX0_addGate 12 = .ok (.aload_n 0, 1) := by decide +kernel
theorem dX0_addGate_13 : decode cX0_addGate 13 = .ok (.getfield 21, 3) := by decide +kernel
theorem dX0_addGate_16 : decode cX0_addGate 16 = .ok (.iload_n 1, 1) := by decide +kernel
theorem dX0_addGate_17 : decode cX0_addGate 17 = .ok (.iastore, 1) := by decide +kernel
theorem dX0_addGate_18 : decode cX0_addGate 18 = .ok (.aload_n 0, 1) := by decide +kernel
theorem dX0_addGate_19 : decode cX0_addGate 19 = .ok (.dup, 1) := by decide +kernel
theorem dX0_addGate_20 : decode cX0_addGate 20 = .ok (.getfield 21, 3) := by decide +kernel
theorem dX0_addGate_23 : decode cX0_addGate 23 = .ok (.iconst 1, 1) := by decide +kernel
theorem dX0_addGate_24 : decode cX0_addGate 24 = .ok (.iadd, 1) := by decide +kernel
theorem dX0_addGate_25 : decode cX0_addGate 25 = .ok (.putfield 21, 3) := by decide +kernel
theorem dX0_addGate_28 : decode cX0_addGate 28 = .ok (.return_, 1) := by decide +kernel
theorem dX0_addPerson_0 : decode cX0_addPerson 0 = .ok (.aload_n 0, 1) := by decide +kernel
theorem dX0_addPerson_1 : decode cX0_addPerson 1 = .ok (.getfield 25, 3) := by decide +kernel
theorem dX0_addPerson_4 : decode cX0_addPerson 4 = .ok (.bipush 7, 2) := by decide +kernel
theorem dX0_addPerson_6 : decode cX0_addPerson 6 = .ok (.if_icmp .ge 43, 3) := by decide +kernel
theorem dX0_addPerson_9 : decode cX0_addPerson 9 = .ok (.aload_n 0, 1) := by decide +kernel
theorem dX0_addPerson_10 : decode cX0_addPerson 10 = .ok (.dup, 1) := by decide +kernel
theorem dX0_addPerson_11 : decode cX0_addPerson 11 = .ok (.getfield 28, 3) := by decide +kernel
theorem dX0_addPerson_14 : decode cX0_addPerson 14 = .ok (.iload_n 1, 1) := by decide +kernel
theorem dX0_addPerson_15 : decode cX0_addPerson 15 = .ok (.aload_n 0, 1) := by decide +kernel
theorem dX0_addPerson_16 : decode cX0_addPerson 16 = .ok (.getfield 25, 3) := by decide +kernel
theorem dX0_addPerson_19 : decode cX0_addPerson 19 = .ok (.ishl, 1) := by decide +kernel
theorem dX0_addPerson_20 : decode cX0_addPerson 20 = .ok (.ior, 1) := by decide +kernel
theorem dX0_addPerson_21 : decode cX0_addPerson 21 = .ok (.putfield 28, 3) := by decide +kernel
theorem dX0_addPerson_24 : decode cX0_addPerson 24 = .ok (.aload_n 0, 1) := by decide +kernel
theorem dX0_addPerson_25 : decode cX0_addPerson 25 = .ok (.dup, 1) := by decide +kernel
theorem dX0_addPerson_26 : decode cX0_addPerson 26 = .ok (.getfield 31, 3) := by decide +kernel
theorem dX0_addPerson_29 : decode cX0_addPerson 29 = .ok (.iload_n 2, 1) := by decide +kernel
theorem dX0_addPerson_30 : decode cX0_addPerson 30 = .ok (.aload_n 0, 1) := by decide +kernel
theorem dX0_addPerson_31 : decode cX0_addPerson 31 = .ok (.getfield 25, 3) := by decide +kernel
theorem dX0_addPerson_34 : decode cX0_addPerson 34 = .ok (.ishl, 1) := by decide +kernel
theorem dX0_addPerson_35 : decode cX0_addPerson 35 = .ok (.ior, 1) := by decide +kernel
theorem dX0_addPerson_36 : decode cX0_addPerson 36 = .ok (.putfield 31, 3) := by decide +kernel
theorem dX0_addPerson_39 : decode cX0_addPerson 39 = .ok (.aload_n 0, 1) := by decide +kernel
theorem dX0_addPerson_40 : decode cX0_addPerson 40 = .ok (.dup, 1) := by decide +kernel
theorem dX0_addPerson_41 : decode cX0_addPerson 41 = .ok (.getfield 25, 3) := by decide +kernel
theorem dX0_addPerson_44 : decode cX0_addPerson 44 = .ok (.iconst 1, 1) := by decide +kernel
theorem dX0_addPerson_45 : decode cX0_addPerson 45 = .ok (.iadd, 1) := by decide +kernel
theorem dX0_addPerson_46 : decode cX0_addPerson 46 = .ok (.putfield 25, 3) := by decide +kernel
theorem dX0_addPerson_49 : decode cX0_addPerson 49 = .ok (.return_, 1) := by decide +kernel
theorem dX0_isTold_0 : decode cX0_isTold 0 = .ok (.aload_n 0, 1) := by decide +kernel
theorem dX0_isTold_1 : decode cX0_isTold 1 = .ok (.iload_n 1, 1) := by decide +kernel
theorem dX0_isTold_2 : decode cX0_isTold 2 = .ok (.invokevirtual 40, 3) := by decide +kernel
theorem dX0_isTold_5 : decode cX0_isTold 5 = .ok (.ifCond .eq 30, 3) := by decide +kernel
theorem dX0_isTold_8 : decode cX0_isTold 8 = .ok (.aload_n 0, 1) := by decide +kernel
theorem dX0_isTold_9 : decode cX0_isTold 9 = .ok (.iload_n 2, 1) := by decide +kernel
theorem dX0_isTold_10 : decode cX0_isTold 10 = .ok (.invokevirtual 40, 3) := by decide +kernel
theorem dX0_isTold_13 : decode cX0_isTold 13 = .ok (.ifCond .eq 22, 3) := by decide +kernel
theorem dX0_isTold_16 : decode cX0_isTold 16 = .ok (.aload_n 0, 1) := by decide +kernel
theorem dX0_isTold_17 : decode cX0_isTold 17 = .ok (.getfield 15, 3) := by decide +kernel
theorem dX0_isTold_20 : decode cX0_isTold 20 = .ok (.iload_n 1, 1) := by decide +kernel
theorem dX0_isTold_21 : decode cX0_isTold 21 = .ok (.bipush 7, 2) := by decide +kernel
theorem dX0_isTold_23 : decode cX0_isTold 23 = .ok (.imul, 1) := by decide +kernel
theorem dX0_isTold_24 : decode cX0_isTold 24 = .ok (.iload_n 2, 1) := by decide +kernel
theorem dX0_isTold_25 : decode cX0_isTold 25 = .ok (.iadd, 1) := by decide +kernel
theorem dX0_isTold_26 : decode cX0_isTold 26 = .ok (.iaload, 1) := by decide +kernel
theorem dX0_isTold_27 : decode cX0_isTold 27 = .ok (.iconst (-1), 1) := by decide +kernel
theorem dX0_isTold_28 : decode cX0_isTold 28 = .ok (.if_icmp .eq 7, 3) := by decide +kernel
theorem dX0_isTold_31 : decode cX0_isTold 31 = .ok (.iconst 1, 1) := by decide +kernel
theorem dX0_isTold_32 : decode cX0_isTold 32 = .ok (.goto 4, 3) := by decide +kernel
theorem dX0_isTold_35 : decode cX0_isTold 35 = .ok (.iconst 0, 1) := by decide +kernel
theorem dX0_isTold_36 : decode cX0_isTold 36 = .ok (.ireturn, 1) := by decide +kernel
theorem dX0_addLiking_0 : decode cX0_addLiking 0 = .ok (.aload_n 0, 1) := by decide +kernel
theorem dX0_addLiking_1 : decode cX0_addLiking 1 = .ok (.iload_n 1, 1) := by decide +kernel
theorem dX0_addLiking_2 : decode cX0_addLiking 2 = .ok (.invokevirtual 40, 3) := by decide +kernel
theorem dX0_addLiking_5 : decode cX0_addLiking 5 = .ok (.ifCond .eq 62, 3) := by decide +kernel
theorem dX0_addLiking_8 : decode cX0_addLiking 8 = .ok (.aload_n 0, 1) := by decide +kernel
theorem dX0_addLiking_9 : decode cX0_addLiking 9 = .ok (.iload_n 2, 1) := by decide +kernel
theorem dX0_addLiking_10 : decode cX0_addLiking 10 = .ok (.invokevirtual 40, 3) := by decide +kernel
theorem dX0_addLiking_13 : decode cX0_addLiking 13 = .ok (.ifCond .eq 54, 3) := by decide +kernel
theorem dX0_addLiking_16 : decode cX0_addLiking 16 = .ok (.aload_n 0, 1) := by decide +kernel
theorem dX0_addLiking_17 : decode cX0_addLiking 17 = .ok (.getfield 15, 3) := by decide +kernel
theorem dX0_addLiking_20 : decode cX0_addLiking 20 = .ok (.iload_n 1, 1) := by decide +kernel
theorem dX0_addLiking_21 : decode cX0_addLiking 21 = .ok (.bipush 7, 2) := by decide +kernel
theorem dX0_addLiking_23 : decode cX0_addLiking 23 = .ok (.imul, 1) := by decide +kernel
theorem dX0_addLiking_24 : decode cX0_addLiking 24 = .ok (.iload_n 2, 1) := by decide +kernel
theorem dX0_addLiking_25 : decode cX0_addLiking 25 = .ok (.iadd, 1) := by decide +kernel
theorem dX0_addLiking_26 : decode cX0_addLiking 26 = .ok (.iload_n 3, 1) := by decide +kernel
theorem dX0_addLiking_27 : decode cX0_addLiking 27 = .ok (.iastore, 1) := by decide +kernel
theorem dX0_addLiking_28 : decode cX0_addLiking 28 = .ok (.iload_n 3, 1) := by decide +kernel
theorem dX0_addLiking_29 : decode cX0_addLiking 29 = .ok (.iconst 1, 1) := by decide +kernel
theorem dX0_addLiking_30 : decode cX0_addLiking 30 = .ok (.if_icmp .lt 37, 3) := by decide +kernel
theorem dX0_addLiking_33 : decode cX0_addLiking 33 = .ok (.aload_n 0, 1) := by decide +kernel
theorem dX0_addLiking_34 : decode cX0_addLiking 34 = .ok (.iload_n 2, 1) := by decide +kernel
theorem dX0_addLiking_35 : decode cX0_addLiking 35 = .ok (.iload_n 1, 1) := by decide +kernel
theorem dX0_addLiking_36 : decode cX0_addLiking 36 = .ok (.invokevirtual 44, 3) := by decide +kernel
theorem dX0_addLiking_39 : decode cX0_addLiking 39 = .ok (.iconst 1, 1) := by decide +kernel
theorem dX0_addLiking_40 : decode cX0_addLiking 40 = .ok (.if_icmp .lt 27, 3) := by decide +kernel
theorem dX0_addLiking_43 : decode cX0_addLiking 43 = .ok (.aload_n 0, 1) := by decide +kernel
theorem dX0_addLiking_44 : decode cX0_addLiking 44 = .ok (.getfield 18, 3) := by decide +kernel
theorem dX0_addLiking_47 : decode cX0_addLiking 47 = .ok (.iload_n 1, 1) := by decide +kernel
theorem dX0_addLiking_48 : decode cX0_addLiking 48 = .ok (.dup2, 1) := by decide +kernel
theorem dX0_addLiking_49 : decode cX0_addLiking 49 = .ok (.iaload, 1) := by decide +kernel
theorem dX0_addLiking_50 : decode cX0_addLiking 50 = .ok (.iconst 1, 1) := by decide +kernel
theorem dX0_addLiking_51 : decode cX0_addLiking 51 = .ok (.iload_n 2, 1) := by decide +kernel
theorem dX0_addLiking_52 : decode cX0_addLiking 52 = .ok (.ishl, 1) := by decide +kernel
theorem dX0_addLiking_53 : decode cX0_addLiking 53 = .ok (.ior, 1) := by decide +kernel
theorem dX0_addLiking_54 : decode cX0_addLiking 54 = .ok (.iastore, 1) := by decide +kernel
theorem dX0_addLiking_55 : decode cX0_addLiking 55 = .ok (.aload_n 0, 1) := by decide +kernel
theorem dX0_addLiking_56 : decode cX0_addLiking 56 = .ok (.getfield 18, 3) := by decide +kernel
theorem dX0_addLiking_59 : decode cX0_addLiking 59 = .ok (.iload_n 2, 1) := by decide +kernel
theorem dX0_addLiking_60 : decode cX0_addLiking 60 = .ok (.dup2, 1) := by decide +kernel
theorem dX0_addLiking_61 : decode cX0_addLiking 61 = .ok (.iaload, 1) := by decide +kernel
theorem dX0_addLiking_62 : decode cX0_addLiking 62 = .ok (.iconst 1, 1) := by decide +kernel
theorem dX0_addLiking_63 : decode cX0_addLiking 63 = .ok (.iload_n 1, 1) := by decide +kernel
theorem dX0_addLiking_64 : decode cX0_addLiking 64 = .ok (.ishl, 1) := by decide +kernel
theorem dX0_addLiking_65 : decode cX0_addLiking 65 = .ok (.ior, 1) := by decide +kernel
theorem dX0_addLiking_66 : decode cX0_addLiking 66 = .ok (.iastore, 1) := by decide +kernel
theorem dX0_addLiking_67 : decode cX0_addLiking 67 = .ok (.return_, 1) := by decide +kernel
theorem dX0_liking_0 : decode cX0_liking 0 = .ok (.aload_n 0, 1) := by decide +kernel
theorem dX0_liking_1 : decode cX0_liking 1 = .ok (.iload_n 1, 1) := by decide +kernel
theorem dX0_liking_2 : decode cX0_liking 2 = .ok (.iload_n 2, 1) := by decide +kernel
theorem dX0_liking_3 : decode cX0_liking 3 = .ok (.invokevirtual 48, 3) := by decide +kernel
theorem dX0_liking_6 : decode cX0_liking 6 = .ok (.ifCond .eq 17, 3) := by decide +kernel
theorem dX0_liking_9 : decode cX0_liking 9 = .ok (.aload_n 0, 1) := by decide +kernel
theorem dX0_liking_10 : decode cX0_liking 10 = .ok (.getfield 15, 3) := by decide +kernel
theorem dX0_liking_13 : decode cX0_liking 13 = .ok (.iload_n 1, 1) := by decide +kernel
theorem dX0_liking_14 : decode cX0_liking 14 = .ok (.bipush 7, 2) := by decide +kernel
theorem dX0_liking_16 : decode cX0_liking 16 = .ok (.imul, 1) := by decide +kernel
theorem dX0_liking_17 : decode cX0_liking 17 = .ok (.iload_n 2, 1) := by decide +kernel
theorem dX0_liking_18 : decode cX0_liking 18 = .ok (.iadd, 1) := by decide +kernel
theorem dX0_liking_19 : decode cX0_liking 19 = .ok (.iaload, 1) := by decide +kernel
theorem dX0_liking_20 : decode cX0_liking 20 = .ok (.goto 4, 3) := by decide +kernel
theorem dX0_liking_23 : decode cX0_liking 23 = .ok (.iconst 0, 1) := by decide +kernel
theorem dX0_liking_24 : decode cX0_liking 24 = .ok (.ireturn, 1) := by decide +kernel
theorem dX0_wouldMeet_0 : decode cX0_wouldMeet 0 = .ok (.iload_n 2, 1) := by decide +kernel
theorem dX0_wouldMeet_1 : decode cX0_wouldMeet 1 = .ok (.iload_n 1, 1) := by decide +kernel
theorem dX0_wouldMeet_2 : decode cX0_wouldMeet 2 = .ok (.ishr, 1) := by decide +kernel
theorem dX0_wouldMeet_3 : decode cX0_wouldMeet 3 = .ok (.iconst 1, 1) := by decide +kernel
theorem dX0_wouldMeet_4 : decode cX0_wouldMeet 4 = .ok (.iand, 1) := by decide +kernel
theorem dX0_wouldMeet_5 : decode cX0_wouldMeet 5 = .ok (.iconst 1, 1) := by decide +kernel
theorem dX0_wouldMeet_6 : decode cX0_wouldMeet 6 = .ok (.if_icmp .ne 7, 3) := by decide +kernel
theorem dX0_wouldMeet_9 : decode cX0_wouldMeet 9 = .ok (.iconst 1, 1) := by decide +kernel
theorem dX0_wouldMeet_10 : decode cX0_wouldMeet 10 = .ok (.goto 4, 3) := by decide +kernel
theorem dX0_wouldMeet_13 : decode cX0_wouldMeet 13 = .ok (.iconst 0, 1) := by decide +kernel
theorem dX0_wouldMeet_14 : decode cX0_wouldMeet 14 = .ok (.istore_n 3, 1) := by decide +kernel
theorem dX0_wouldMeet_15 : decode cX0_wouldMeet 15 = .ok (.aload_n 0, 1) := by decide +kernel
theorem dX0_wouldMeet_16 : decode cX0_wouldMeet 16 = .ok (.getfield 18, 3) := by decide +kernel
theorem dX0_wouldMeet_19 : decode cX0_wouldMeet 19 = .ok (.iload_n 1, 1) := by decide +kernel
theorem dX0_wouldMeet_20 : decode cX0_wouldMeet 20 = .ok (.iaload, 1) := by decide +kernel
theorem dX0_wouldMeet_21 : decode cX0_wouldMeet 21 = .ok (.iload_n 3, 1) := by decide +kernel
theorem dX0_wouldMeet_22 : decode cX0_wouldMeet 22 = .ok (.ifCond .eq 9, 3) := by decide +kernel
theorem dX0_wouldMeet_25 : decode cX0_wouldMeet 25 = .ok (.iload_n 2, 1) := by decide +kernel
theorem dX0_wouldMeet_26 : decode cX0_wouldMeet 26 = .ok (.iconst (-1), 1) := by decide +kernel
theorem dX0_wouldMeet_27 : decode cX0_wouldMeet 27 = .ok (.ixor, 1) := by decide +kernel
theorem dX0_wouldMeet_28 : decode cX0_wouldMeet 28 = .ok (.goto 4, 3) := by decide +kernel
theorem dX0_wouldMeet_31 : decode cX0_wouldMeet 31 = .ok (.iload_n 2, 1) := by decide +kernel
theorem dX0_wouldMeet_32 : decode cX0_wouldMeet 32 = .ok (.iand, 1) := by decide +kernel
theorem dX0_wouldMeet_33 : decode cX0_wouldMeet 33 = .ok (.ireturn, 1) := by decide +kernel
theorem dX0_together_0 : decode cX0_together 0 = .ok (.aload_n 0, 1) := by decide +kernel
theorem dX0_together_1 : decode cX0_together 1 = .ok (.iload_n 1, 1) := by decide +kernel
theorem dX0_together_2 : decode cX0_together 2 = .ok (.iload_n 2, 1) := by decide +kernel
theorem dX0_together_3 : decode cX0_together 3 = .ok (.invokevirtual 44, 3) := by decide +kernel
theorem dX0_together_6 : decode cX0_together 6 = .ok (.aload_n 0, 1) := by decide +kernel
theorem dX0_together_7 : decode cX0_together 7 = .ok (.iload_n 2, 1) := by decide +kernel
theorem dX0_together_8 : decode cX0_together 8 = .ok (.iload_n 1, 1) := by decide +kernel
theorem dX0_together_9 : decode cX0_together 9 = .ok (.invokevirtual 44, 3) := by decide +kernel
theorem dX0_together_12 : decode cX0_together 12 = .ok (.iadd, 1) := by decide +kernel
theorem dX0_together_13 : decode cX0_together 13 = .ok (.ireturn, 1) := by decide +kernel
theorem dX0_likesBest_0 : decode cX0_likesBest 0 = .ok (.aload_n 0, 1) := by decide +kernel
theorem dX0_likesBest_1 : decode cX0_likesBest 1 = .ok (.iload_n 1, 1) := by decide +kernel
theorem dX0_likesBest_2 : decode cX0_likesBest 2 = .ok (.iload_n 2, 1) := by decide +kernel
theorem dX0_likesBest_3 : decode cX0_likesBest 3 = .ok (.invokevirtual 44, 3) := by decide +kernel
theorem dX0_likesBest_6 : decode cX0_likesBest 6 = .ok (.istore_n 3, 1) := by decide +kernel
theorem dX0_likesBest_7 : decode cX0_likesBest 7 = .ok (.iload_n 3, 1) := by decide +kernel
theorem dX0_likesBest_8 : decode cX0_likesBest 8 = .ok (.iconst 1, 1) := by decide +kernel
theorem dX0_likesBest_9 : decode cX0_likesBest 9 = .ok (.if_icmp .ge 5, 3) := by decide +kernel
theorem dX0_likesBest_12 : decode cX0_likesBest 12 = .ok (.iconst 0, 1) := by decide +kernel
theorem dX0_likesBest_13 : decode cX0_likesBest 13 = .ok (.ireturn, 1) := by decide +kernel
theorem dX0_likesBest_14 : decode cX0_likesBest 14 = .ok (.iconst 0, 1) := by decide +kernel
theorem dX0_likesBest_15 : decode cX0_likesBest 15 = .ok (.istore 4, 2) := by decide +kernel
theorem dX0_likesBest_17 : decode cX0_likesBest 17 = .ok (.iload 4, 2) := by decide +kernel
theorem dX0_likesBest_19 : decode cX0_likesBest 19 = .ok (.aload_n 0, 1) := by decide +kernel
theorem dX0_likesBest_20 : decode cX0_likesBest 20 = .ok (.getfield 25, 3) := by decide +kernel
theorem dX0_likesBest_23 : decode cX0_likesBest 23 = .ok (.if_icmp .ge 22, 3) := by decide +kernel
theorem dX0_likesBest_26 : decode cX0_likesBest 26 = .ok (.aload_n 0, 1) := by decide +kernel
theorem dX0_likesBest_27 : decode cX0_likesBest 27 = .ok (.iload_n 1, 1) := by decide +kernel
theorem dX0_likesBest_28 : decode cX0_likesBest 28 = .ok (.iload 4, 2) := by decide +kernel
theorem dX0_likesBest_30 : decode cX0_likesBest 30 = .ok (.invokevirtual 44, 3) := by decide +kernel
theorem dX0_likesBest_33 : decode cX0_likesBest 33 = .ok (.iload_n 3, 1) := by decide +kernel
theorem dX0_likesBest_34 : decode cX0_likesBest 34 = .ok (.if_icmp .le 5, 3) := by decide +kernel
theorem dX0_likesBest_37 : decode cX0_likesBest 37 = .ok (.iconst 0, 1) := by decide +kernel
theorem dX0_likesBest_38 : decode cX0_likesBest 38 = .ok (.ireturn, 1) := by decide +kernel
theorem dX0_likesBest_39 : decode cX0_likesBest 39 = .ok (.iinc 4 1, 3) := by decide +kernel
theorem dX0_likesBest_42 : decode cX0_likesBest 42 = .ok (.goto (-25), 3) := by decide +kernel
theorem dX0_likesBest_45 : decode cX0_likesBest 45 = .ok (.iconst 1, 1) := by decide +kernel
theorem dX0_likesBest_46 : decode cX0_likesBest 46 = .ok (.ireturn, 1) := by decide +kernel
theorem dX1_init_0 : decode cX1_init 0 = .ok (.aload_n 0, 1) := by decide +kernel
theorem dX1_init_1 : decode cX1_init 1 = .ok (.invokespecial 3, 3) := by decide +kernel
theorem dX1_init_4 : decode cX1_init 4 = .ok (.aload_n 0, 1) := by decide +kernel
theorem dX1_init_5 : decode cX1_init 5 = .ok (.sipush 128, 3) := by decide +kernel
theorem dX1_init_8 : decode cX1_init 8 = .ok (.newarray .int, 2) := by decide +kernel
theorem dX1_init_10 : decode cX1_init 10 = .ok (.putfield 11, 3) := by decide +kernel
theorem dX1_init_13 : decode cX1_init 13 = .ok (.return_, 1) := by decide +kernel
theorem dX1_fewestHours_0 : decode cX1_fewestHours 0 = .ok (.aload_n 0, 1) := by decide +kernel
theorem dX1_fewestHours_1 : decode cX1_fewestHours 1 = .ok (.getfield 11, 3) := by decide +kernel
theorem dX1_fewestHours_4 : decode cX1_fewestHours 4 = .ok (.iconst (-1), 1) := by decide +kernel
theorem dX1_fewestHours_5 : decode cX1_fewestHours 5 = .ok (.invokestatic 15, 3) := by decide +kernel
theorem dX1_fewestHours_8 : decode cX1_fewestHours 8 = .ok (.iload_n 2, 1) := by decide +kernel
theorem dX1_fewestHours_9 : decode cX1_fewestHours 9 = .ok (.ifCond .lt 10, 3) := by decide +kernel
theorem dX1_fewestHours_12 : decode cX1_fewestHours 12 = .ok (.iload_n 2, 1) := by decide +kernel
theorem dX1_fewestHours_13 : decode cX1_fewestHours 13 = .ok (.sipush 128, 3) := by decide +kernel
theorem dX1_fewestHours_16 : decode cX1_fewestHours 16 = .ok (.if_icmp .lt 5, 3) := by decide +kernel
theorem dX1_fewestHours_19 : decode cX1_fewestHours 19 = .ok (.iconst (-1), 1) := by decide +kernel
theorem dX1_fewestHours_20 : decode cX1_fewestHours 20 = .ok (.ireturn, 1) := by decide +kernel
theorem dX1_fewestHours_21 : decode cX1_fewestHours 21 = .ok (.aload_n 0, 1) := by decide +kernel
theorem dX1_fewestHours_22 : decode cX1_fewestHours 22 = .ok (.getfield 11, 3) := by decide +kernel
theorem dX1_fewestHours_25 : decode cX1_fewestHours 25 = .ok (.iload_n 2, 1) := by decide +kernel
theorem dX1_fewestHours_26 : decode cX1_fewestHours 26 = .ok (.iconst 0, 1) := by decide +kernel
theorem dX1_fewestHours_27 : decode cX1_fewestHours 27 = .ok (.iastore, 1) := by decide +kernel
theorem dX1_fewestHours_28 : decode cX1_fewestHours 28 = .ok (.aload_n 0, 1) := by decide +kernel
theorem dX1_fewestHours_29 : decode cX1_fewestHours 29 = .ok (.iconst 1, 1) := by decide +kernel
theorem dX1_fewestHours_30 : decode cX1_fewestHours 30 = .ok (.putfield 21, 3) := by decide +kernel
theorem dX1_fewestHours_33 : decode cX1_fewestHours 33 = .ok (.iconst 0, 1) := by decide +kernel
theorem dX1_fewestHours_34 : decode cX1_fewestHours 34 = .ok (.istore 6, 2) := by decide +kernel
theorem dX1_fewestHours_36 : decode cX1_fewestHours 36 = .ok (.iload 6, 2) := by decide +kernel
theorem dX1_fewestHours_38 : decode cX1_fewestHours 38 = .ok (.bipush 40, 2) := by decide +kernel
theorem dX1_fewestHours_40 : decode cX1_fewestHours 40 = .ok (.if_icmp .gt 77, 3) := by decide +kernel
theorem dX1_fewestHours_43 : decode cX1_fewestHours 43 = .ok (.aload_n 0, 1) := by decide +kernel
theorem dX1_fewestHours_44 : decode cX1_fewestHours 44 = .ok (.getfield 21, 3) := by decide +kernel
theorem dX1_fewestHours_47 : decode cX1_fewestHours 47 = .ok (.ifCond .eq 70, 3) := by decide +kernel
theorem dX1_fewestHours_50 : decode cX1_fewestHours 50 = .ok (.aload_n 0, 1) := by decide +kernel
theorem dX1_fewestHours_51 : decode cX1_fewestHours 51 = .ok (.iload 6, 2) := by decide +kernel
theorem dX1_fewestHours_53 : decode cX1_fewestHours 53 = .ok (.iload 4, 2) := by decide +kernel
theorem dX1_fewestHours_55 : decode cX1_fewestHours 55 = .ok (.iload 5, 2) := by decide +kernel
theorem dX1_fewestHours_57 : decode cX1_fewestHours 57 = .ok (.invokevirtual 25, 3) := by decide +kernel
theorem dX1_fewestHours_60 : decode cX1_fewestHours 60 = .ok (.ifCond .eq 6, 3) := by decide +kernel
theorem dX1_fewestHours_63 : decode cX1_fewestHours 63 = .ok (.iload 6, 2) := by decide +kernel
theorem dX1_fewestHours_65 : decode cX1_fewestHours 65 = .ok (.ireturn, 1) := by decide +kernel
theorem dX1_fewestHours_66 : decode cX1_fewestHours 66 = .ok (.aload_n 0, 1) := by decide +kernel
theorem dX1_fewestHours_67 : decode cX1_fewestHours 67 = .ok (.iconst 0, 1) := by decide +kernel
theorem dX1_fewestHours_68 : decode cX1_fewestHours 68 = .ok (.putfield 21, 3) := by decide +kernel
theorem dX1_fewestHours_71 : decode cX1_fewestHours 71 = .ok (.iconst 0, 1) := by decide +kernel
theorem dX1_fewestHours_72 : decode cX1_fewestHours 72 = .ok (.istore 7, 2) := by decide +kernel
theorem dX1_fewestHours_74 : decode cX1_fewestHours 74 = .ok (.iload 7, 2) := by decide +kernel
theorem dX1_fewestHours_76 : decode cX1_fewestHours 76 = .ok (.sipush 128, 3) := by decide +kernel
theorem dX1_fewestHours_79 : decode cX1_fewestHours 79 = .ok (.if_icmp .ge 32, 3) := by decide +kernel
theorem dX1_fewestHours_82 : decode cX1_fewestHours 82 = .ok (.aload_n 0, 1) := by decide +kernel
theorem dX1_fewestHours_83 : decode cX1_fewestHours 83 = .ok (.getfield 11, 3) := by decide +kernel
theorem dX1_fewestHours_86 : decode cX1_fewestHours 86 = .ok (.iload 7, 2) := by decide +kernel
theorem dX1_fewestHours_88 : decode cX1_fewestHours 88 = .ok (.iaload, 1) := by decide +kernel
theorem dX1_fewestHours_89 : decode cX1_fewestHours 89 = .ok (.iload 6, 2) := by decide +kernel
theorem dX1_fewestHours_91 : decode cX1_fewestHours 91 = .ok (.if_icmp .ne 14, 3) := by decide +kernel
theorem dX1_fewestHours_94 : decode cX1_fewestHours 94 = .ok (.aload_n 0, 1) := by decide +kernel
theorem dX1_fewestHours_95 : decode cX1_fewestHours 95 = .ok (.aload_n 1, 1) := by decide +kernel
theorem dX1_fewestHours_96 : decode cX1_fewestHours 96 = .ok (.iload 7, 2) := by decide +kernel
theorem dX1_fewestHours_98 : decode cX1_fewestHours 98 = .ok (.iload 7, 2) := by decide +kernel
theorem dX1_fewestHours_100 : decode cX1_fewestHours 100 = .ok (.iconst 0, 1) := by decide +kernel
theorem dX1_fewestHours_101 : decode cX1_fewestHours 101 = .ok (.iload_n 3, 1) := by decide +kernel
theorem dX1_fewestHours_102 : decode cX1_fewestHours 102 = .ok (.invokevirtual 29, 3) := by decide +kernel
theorem dX1_fewestHours_105 : decode cX1_fewestHours 105 = .ok (.iinc 7 1, 3) := by decide +kernel
theorem dX1_fewestHours_108 : decode cX1_fewestHours 108 = .ok (.goto (-34), 3) := by decide +kernel
theorem dX1_fewestHours_111 : decode cX1_fewestHours 111 = .ok (.iinc 6 1, 3) := by decide +kernel
theorem dX1_fewestHours_114 : decode cX1_fewestHours 114 = .ok (.goto (-78), 3) := by decide +kernel
theorem dX1_fewestHours_117 : decode cX1_fewestHours 117 = .ok (.iconst (-1), 1) := by decide +kernel
theorem dX1_fewestHours_118 : decode cX1_fewestHours 118 = .ok (.ireturn, 1) := by decide +kernel
theorem dX1_isThere_0 : decode cX1_isThere 0 = .ok (.iconst 0, 1) := by decide +kernel
theorem dX1_isThere_1 : decode cX1_isThere 1 = .ok (.istore 4, 2) := by decide +kernel
theorem dX1_isThere_3 : decode cX1_isThere 3 = .ok (.iload 4, 2) := by decide +kernel
theorem dX1_isThere_5 : decode cX1_isThere 5 = .ok (.sipush 128, 3) := by decide +kernel
theorem dX1_isThere_8 : decode cX1_isThere 8 = .ok (.if_icmp .ge 31, 3) := by decide +kernel
theorem dX1_isThere_11 : decode cX1_isThere 11 = .ok (.aload_n 0, 1) := by decide +kernel
theorem dX1_isThere_12 : decode cX1_isThere 12 = .ok (.getfield 11, 3) := by decide +kernel
theorem dX1_isThere_15 : decode cX1_isThere 15 = .ok (.iload 4, 2) := by decide +kernel
theorem dX1_isThere_17 : decode cX1_isThere 17 = .ok (.iaload, 1) := by decide +kernel
theorem dX1_isThere_18 : decode cX1_isThere 18 = .ok (.iload_n 1, 1) := by decide +kernel
theorem dX1_isThere_19 : decode cX1_isThere 19 = .ok (.if_icmp .ne 14, 3) := by decide +kernel
theorem dX1_isThere_22 : decode cX1_isThere 22 = .ok (.iload 4, 2) := by decide +kernel
theorem dX1_isThere_24 : decode cX1_isThere 24 = .ok (.iload_n 3, 1) := by decide +kernel
theorem dX1_isThere_25 : decode cX1_isThere 25 = .ok (.ixor, 1) := by decide +kernel
theorem dX1_isThere_26 : decode cX1_isThere 26 = .ok (.iload_n 2, 1) := by decide +kernel
theorem dX1_isThere_27 : decode cX1_isThere 27 = .ok (.iand, 1) := by decide +kernel
theorem dX1_isThere_28 : decode cX1_isThere 28 = .ok (.ifCond .ne 5, 3) := by decide +kernel
theorem dX1_isThere_31 : decode cX1_isThere 31 = .ok (.iconst 1, 1) := by decide +kernel
theorem dX1_isThere_32 : decode cX1_isThere 32 = .ok (.ireturn, 1) := by decide +kernel
theorem dX1_isThere_33 : decode cX1_isThere 33 = .ok (.iinc 4 1, 3) := by decide +kernel
theorem dX1_isThere_36 : decode cX1_isThere 36 = .ok (.goto (-33), 3) := by decide +kernel
theorem dX1_isThere_39 : decode cX1_isThere 39 = .ok (.iconst 0, 1) := by decide +kernel
theorem dX1_isThere_40 : decode cX1_isThere 40 = .ok (.ireturn, 1) := by decide +kernel
theorem dX1_cross_0 : decode cX1_cross 0 = .ok (.iload 4, 2) := by decide +kernel
theorem dX1_cross_2 : decode cX1_cross 2 = .ok (.aload_n 1, 1) := by decide +kernel
theorem dX1_cross_3 : decode cX1_cross 3 = .ok (.getfield 33, 3) := by decide +kernel
theorem dX1_cross_6 : decode cX1_cross 6 = .ok (.if_icmp .ge 8, 3) := by decide +kernel
theorem dX1_cross_9 : decode cX1_cross 9 = .ok (.iload 5, 2) := by decide +kernel
theorem dX1_cross_11 : decode cX1_cross 11 = .ok (.ifCond .gt 10, 3) := by decide +kernel
theorem dX1_cross_14 : decode cX1_cross 14 = .ok (.aload_n 0, 1) := by decide +kernel
theorem dX1_cross_15 : decode cX1_cross 15 = .ok (.iload_n 2, 1) := by decide +kernel
theorem dX1_cross_16 : decode cX1_cross 16 = .ok (.iload_n 3, 1) := by decide +kernel
theorem dX1_cross_17 : decode cX1_cross 17 = .ok (.invokevirtual 39, 3) := by decide +kernel
theorem dX1_cross_20 : decode cX1_cross 20 = .ok (.return_, 1) := by decide +kernel
theorem dX1_cross_21 : decode cX1_cross 21 = .ok (.iload_n 2, 1) := by decide +kernel
theorem dX1_cross_22 : decode cX1_cross 22 = .ok (.iload_n 3, 1) := by decide +kernel
theorem dX1_cross_23 : decode cX1_cross 23 = .ok (.ixor, 1) := by decide +kernel
theorem dX1_cross_24 : decode cX1_cross 24 = .ok (.istore 6, 2) := by decide +kernel
theorem dX1_cross_26 : decode cX1_cross 26 = .ok (.iload 6, 2) := by decide +kernel
theorem dX1_cross_28 : decode cX1_cross 28 = .ok (.iload 4, 2) := by decide +kernel
theorem dX1_cross_30 : decode cX1_cross 30 = .ok (.ishr, 1) := by decide +kernel
theorem dX1_cross_31 : decode cX1_cross 31 = .ok (.iconst 1, 1) := by decide +kernel
theorem dX1_cross_32 : decode cX1_cross 32 = .ok (.iand, 1) := by decide +kernel
theorem dX1_cross_33 : decode cX1_cross 33 = .ok (.ifCond .ne 18, 3) := by decide +kernel
theorem dX1_cross_36 : decode cX1_cross 36 = .ok (.aload_n 1, 1) := by decide +kernel
theorem dX1_cross_37 : decode cX1_cross 37 = .ok (.iload 4, 2) := by decide +kernel
theorem dX1_cross_39 : decode cX1_cross 39 = .ok (.iload_n 2, 1) := by decide +kernel
theorem dX1_cross_40 : decode cX1_cross 40 = .ok (.invokevirtual 43, 3) := by decide +kernel
theorem dX1_cross_43 : decode cX1_cross 43 = .ok (.iload 6, 2) := by decide +kernel
theorem dX1_cross_45 : decode cX1_cross 45 = .ok (.iconst (-1), 1) := by decide +kernel
theorem dX1_cross_46 : decode cX1_cross 46 = .ok (.ixor, 1) := by decide +kernel
theorem dX1_cross_47 : decode cX1_cross 47 = .ok (.iand, 1) := by decide +kernel
theorem dX1_cross_48 : decode cX1_cross 48 = .ok (.goto 4, 3) := by decide +kernel
theorem dX1_cross_51 : decode cX1_cross 51 = .ok (.iconst 0, 1) := by decide +kernel
theorem dX1_cross_52 : decode cX1_cross 52 = .ok (.istore 7, 2) := by decide +kernel
theorem dX1_cross_54 : decode cX1_cross 54 = .ok (.iload 4, 2) := by decide +kernel
theorem dX1_cross_56 : decode cX1_cross 56 = .ok (.iconst 1, 1) := by decide +kernel
theorem dX1_cross_57 : decode cX1_cross 57 = .ok (.iadd, 1) := by decide +kernel
theorem dX1_cross_58 : decode cX1_cross 58 = .ok (.istore 8, 2) := by decide +kernel
theorem dX1_cross_60 : decode cX1_cross 60 = .ok (.iload 8, 2) := by decide +kernel
theorem dX1_cross_62 : decode cX1_cross 62 = .ok (.aload_n 1, 1) := by decide +kernel
theorem dX1_cross_63 : decode cX1_cross 63 = .ok (.getfield 33, 3) := by decide +kernel
theorem dX1_cross_66 : decode cX1_cross 66 = .ok (.if_icmp .ge 45, 3) := by decide +kernel
theorem dX1_cross_69 : decode cX1_cross 69 = .ok (.iload 7, 2) := by decide +kernel
theorem dX1_cross_71 : decode cX1_cross 71 = .ok (.iload 8, 2) := by decide +kernel
theorem dX1_cross_73 : decode cX1_cross 73 = .ok (.ishr, 1) := by decide +kernel
theorem dX1_cross_74 : decode cX1_cross 74 = .ok (.iconst 1, 1) := by decide +kernel
theorem dX1_cross_75 : decode cX1_cross 75 = .ok (.iand, 1) := by decide +kernel
theorem dX1_cross_76 : decode cX1_cross 76 = .ok (.iconst 1, 1) := by decide +kernel
theorem dX1_cross_77 : decode cX1_cross 77 = .ok (.if_icmp .ne 28, 3) := by decide +kernel
theorem dX1_cross_80 : decode cX1_cross 80 = .ok (.aload_n 0, 1) := by decide +kernel
theorem dX1_cross_81 : decode cX1_cross 81 = .ok (.aload_n 1, 1) := by decide +kernel
theorem dX1_cross_82 : decode cX1_cross 82 = .ok (.iload_n 2, 1) := by decide +kernel
theorem dX1_cross_83 : decode cX1_cross 83 = .ok (.iload_n 3, 1) := by decide +kernel
theorem dX1_cross_84 : decode cX1_cross 84 = .ok (.iconst 1, 1) := by decide +kernel
theorem dX1_cross_85 : decode cX1_cross 85 = .ok (.iload 4, 2) := by decide +kernel
theorem dX1_cross_87 : decode cX1_cross 87 = .ok (.ishl, 1) := by decide +kernel
theorem dX1_cross_88 : decode cX1_cross 88 = .ok (.ixor, 1) := by decide +kernel
theorem dX1_cross_89 : decode cX1_cross 89 = .ok (.iconst 1, 1) := by decide +kernel
theorem dX1_cross_90 : decode cX1_cross 90 = .ok (.iload 8, 2) := by decide +kernel
theorem dX1_cross_92 : decode cX1_cross 92 = .ok (.ishl, 1) := by decide +kernel
theorem dX1_cross_93 : decode cX1_cross 93 = .ok (.ixor, 1) := by decide +kernel
theorem dX1_cross_94 : decode cX1_cross 94 = .ok (.iload 4, 2) := by decide +kernel
theorem dX1_cross_96 : decode cX1_cross 96 = .ok (.iconst 1, 1) := by decide +kernel
theorem dX1_cross_97 : decode cX1_cross 97 = .ok (.iadd, 1) := by decide +kernel
theorem dX1_cross_98 : decode cX1_cross 98 = .ok (.iload 5, 2) := by decide +kernel
theorem dX1_cross_100 : decode cX1_cross 100 = .ok (.iconst 1, 1) := by decide +kernel
theorem dX1_cross_101 : decode cX1_cross 101 = .ok (.isub, 1) := by decide +kernel
theorem dX1_cross_102 : decode cX1_cross 102 = .ok (.invokevirtual 29, 3) := by decide +kernel
theorem dX1_cross_105 : decode cX1_cross 105 = .ok (.iinc 8 1, 3) := by decide +kernel
theorem dX1_cross_108 : decode cX1_cross 108 = .ok (.goto (-48), 3) := by decide +kernel
theorem dX1_cross_111 : decode cX1_cross 111 = .ok (.aload_n 0, 1) := by decide +kernel
theorem dX1_cross_112 : decode cX1_cross 112 = .ok (.aload_n 1, 1) := by decide +kernel
theorem dX1_cross_113 : decode cX1_cross 113 = .ok (.iload_n 2, 1) := by decide +kernel
theorem dX1_cross_114 : decode cX1_cross 114 = .ok (.iload_n 3, 1) := by decide +kernel
theorem dX1_cross_115 : decode cX1_cross 115 = .ok (.iload 4, 2) := by decide +kernel
theorem dX1_cross_117 : decode cX1_cross 117 = .ok (.iconst 1, 1) := by decide +kernel
theorem dX1_cross_118 : decode cX1_cross 118 = .ok (.iadd, 1) := by decide +kernel
theorem dX1_cross_119 : decode cX1_cross 119 = .ok (.iload 5, 2) := by decide +kernel
theorem dX1_cross_121 : decode cX1_cross 121 = .ok (.invokevirtual 29, 3) := by decide +kernel
theorem dX1_cross_124 : decode cX1_cross 124 = .ok (.return_, 1) := by decide +kernel
theorem dX1_reach_0 : decode cX1_reach 0 = .ok (.iload_n 2, 1) := by decide +kernel
theorem dX1_reach_1 : decode cX1_reach 1 = .ok (.ifCond .lt 39, 3) := by decide +kernel
theorem dX1_reach_4 : decode cX1_reach 4 = .ok (.iload_n 2, 1) := by decide +kernel
theorem dX1_reach_5 : decode cX1_reach 5 = .ok (.sipush 128, 3) := by decide +kernel
theorem dX1_reach_8 : decode cX1_reach 8 = .ok (.if_icmp .ge 32, 3) := by decide +kernel
theorem dX1_reach_11 : decode cX1_reach 11 = .ok (.aload_n 0, 1) := by decide +kernel
theorem dX1_reach_12 : decode cX1_reach 12 = .ok (.getfield 11, 3) := by decide +kernel
theorem dX1_reach_15 : decode cX1_reach 15 = .ok (.iload_n 2, 1) := by decide +kernel
theorem dX1_reach_16 : decode cX1_reach 16 = .ok (.iaload, 1) := by decide +kernel
theorem dX1_reach_17 : decode cX1_reach 17 = .ok (.iconst (-1), 1) := by decide +kernel
theorem dX1_reach_18 : decode cX1_reach 18 = .ok (.if_icmp .ne 22, 3) := by decide +kernel
theorem dX1_reach_21 : decode cX1_reach 21 = .ok (.aload_n 0, 1) := by decide +kernel
theorem dX1_reach_22 : decode cX1_reach 22 = .ok (.getfield 11, 3) := by decide +kernel
theorem dX1_reach_25 : decode cX1_reach 25 = .ok (.iload_n 2, 1) := by decide +kernel
theorem dX1_reach_26 : decode cX1_reach 26 = .ok (.aload_n 0, 1) := by decide +kernel
theorem dX1_reach_27 : decode cX1_reach 27 = .ok (.getfield 11, 3) := by decide +kernel
theorem dX1_reach_30 : decode cX1_reach 30 = .ok (.iload_n 1, 1) := by decide +kernel
theorem dX1_reach_31 : decode cX1_reach 31 = .ok (.iaload, 1) := by decide +kernel
theorem dX1_reach_32 : decode cX1_reach 32 = .ok (.iconst 1, 1) := by decide +kernel
theorem dX1_reach_33 : decode cX1_reach 33 = .ok (.iadd, 1) := by decide +kernel
theorem dX1_reach_34 : decode cX1_reach 34 = .ok (.iastore, 1) := by decide +kernel
theorem dX1_reach_35 : decode cX1_reach 35 = .ok (.aload_n 0, 1) := by decide +kernel
theorem dX1_reach_36 : decode cX1_reach 36 = .ok (.iconst 1, 1) := by decide +kernel
theorem dX1_reach_37 : decode cX1_reach 37 = .ok (.putfield 21, 3) := by decide +kernel
theorem dX1_reach_40 : decode cX1_reach 40 = .ok (.return_, 1) := by decide +kernel
theorem dX2_init_0 : decode cX2_init 0 = .ok (.aload_n 0, 1) := by decide +kernel
theorem dX2_init_1 : decode cX2_init 1 = .ok (.invokespecial 3, 3) := by decide +kernel
theorem dX2_init_4 : decode cX2_init 4 = .ok (.aload_n 0, 1) := by decide +kernel
theorem dX2_init_5 : decode cX2_init 5 = .ok (.bipush 15, 2) := by decide +kernel
theorem dX2_init_7 : decode cX2_init 7 = .ok (.newarray .int, 2) := by decide +kernel
theorem dX2_init_9 : decode cX2_init 9 = .ok (.putfield 9, 3) := by decide +kernel
theorem dX2_init_12 : decode cX2_init 12 = .ok (.aload_n 0, 1) := by decide +kernel
theorem dX2_init_13 : decode cX2_init 13 = .ok (.bipush 15, 2) := by decide +kernel
theorem dX2_init_15 : decode cX2_init 15 = .ok (.newarray .int, 2) := by decide +kernel
theorem dX2_init_17 : decode cX2_init 17 = .ok (.putfield 15, 3) := by decide +kernel
theorem dX2_init_20 : decode cX2_init 20 = .ok (.return_, 1) := by decide +kernel
theorem dX2_forget_0 : decode cX2_forget 0 = .ok (.aload_n 0, 1) := by decide +kernel
theorem dX2_forget_1 : decode cX2_forget 1 = .ok (.iconst 0, 1) := by decide +kernel
theorem dX2_forget_2 : decode cX2_forget 2 = .ok (.putfield 18, 3) := by decide +kernel
theorem dX2_forget_5 : decode cX2_forget 5 = .ok (.aload_n 0, 1) := by decide +kernel
theorem dX2_forget_6 : decode cX2_forget 6 = .ok (.iconst 0, 1) := by decide +kernel
theorem dX2_forget_7 : decode cX2_forget 7 = .ok (.putfield 22, 3) := by decide +kernel
theorem dX2_forget_10 : decode cX2_forget 10 = .ok (.aload_n 0, 1) := by decide +kernel
theorem dX2_forget_11 : decode cX2_forget 11 = .ok (.iconst 0, 1) := by decide +kernel
theorem dX2_forget_12 : decode cX2_forget 12 = .ok (.putfield 25, 3) := by decide +kernel
theorem dX2_forget_15 : decode cX2_forget 15 = .ok (.aload_n 0, 1) := by decide +kernel
theorem dX2_forget_16 : decode cX2_forget 16 = .ok (.iconst 0, 1) := by decide +kernel
theorem dX2_forget_17 : decode cX2_forget 17 = .ok (.putfield 28, 3) := by decide +kernel
theorem dX2_forget_20 : decode cX2_forget 20 = .ok (.return_, 1) := by decide +kernel
theorem dX2_learn_0 : decode cX2_learn 0 = .ok (.iload_n 2, 1) := by decide +kernel
theorem dX2_learn_1 : decode cX2_learn 1 = .ok (.ifCond .eq 18, 3) := by decide +kernel
theorem dX2_learn_4 : decode cX2_learn 4 = .ok (.aload_n 0, 1) := by decide +kernel
theorem dX2_learn_5 : decode cX2_learn 5 = .ok (.dup, 1) := by decide +kernel
theorem dX2_learn_6 : decode cX2_learn 6 = .ok (.getfield 22, 3) := by decide +kernel
theorem dX2_learn_9 : decode cX2_learn 9 = .ok (.iconst 1, 1) := by decide +kernel
theorem dX2_learn_10 : decode cX2_learn 10 = .ok (.iload_n 1, 1) := by decide +kernel
theorem dX2_learn_11 : decode cX2_learn 11 = .ok (.ishl, 1) := by decide +kernel
theorem dX2_learn_12 : decode cX2_learn 12 = .ok (.ior, 1) := by decide +kernel
theorem dX2_learn_13 : decode cX2_learn 13 = .ok (.putfield 22, 3) := by decide +kernel
theorem dX2_learn_16 : decode cX2_learn 16 = .ok (.goto 15, 3) := by decide +kernel
theorem dX2_learn_19 : decode cX2_learn 19 = .ok (.aload_n 0, 1) := by decide +kernel
theorem dX2_learn_20 : decode cX2_learn 20 = .ok (.dup, 1) := by decide +kernel
theorem dX2_learn_21 : decode cX2_learn 21 = .ok (.getfield 25, 3) := by decide +kernel
theorem dX2_learn_24 : decode cX2_learn 24 = .ok (.iconst 1, 1) := by decide +kernel
theorem dX2_learn_25 : decode cX2_learn 25 = .ok (.iload_n 1, 1) := by decide +kernel
theorem dX2_learn_26 : decode cX2_learn 26 = .ok (.ishl, 1) := by decide +kernel
theorem dX2_learn_27 : decode cX2_learn 27 = .ok (.ior, 1) := by decide +kernel
theorem dX2_learn_28 : decode cX2_learn 28 = .ok (.putfield 25, 3) := by decide +kernel
theorem dX2_learn_31 : decode cX2_learn 31 = .ok (.aload_n 0, 1) := by decide +kernel
theorem dX2_learn_32 : decode cX2_learn 32 = .ok (.dup, 1) := by decide +kernel
theorem dX2_learn_33 : decode cX2_learn 33 = .ok (.getfield 18, 3) := by decide +kernel
theorem dX2_learn_36 : decode cX2_learn 36 = .ok (.iconst 1, 1) := by decide +kernel
theorem dX2_learn_37 : decode cX2_learn 37 = .ok (.iadd, 1) := by decide +kernel
theorem dX2_learn_38 : decode cX2_learn 38 = .ok (.putfield 18, 3) := by decide +kernel
theorem dX2_learn_41 : decode cX2_learn 41 = .ok (.aload_n 0, 1) := by decide +kernel
theorem dX2_learn_42 : decode cX2_learn 42 = .ok (.getfield 18, 3) := by decide +kernel
theorem dX2_learn_45 : decode cX2_learn 45 = .ok (.ireturn, 1) := by decide +kernel
theorem dX2_allows_0 : decode cX2_allows 0 = .ok (.iload_n 1, 1) := by decide +kernel
theorem dX2_allows_1 : decode cX2_allows 1 = .ok (.aload_n 0, 1) := by decide +kernel
theorem dX2_allows_2 : decode cX2_allows 2 = .ok (.getfield 22, 3) := by decide +kernel
theorem dX2_allows_5 : decode cX2_allows 5 = .ok (.iand, 1) := by decide +kernel
theorem dX2_allows_6 : decode cX2_allows 6 = .ok (.aload_n 0, 1) := by decide +kernel
theorem dX2_allows_7 : decode cX2_allows 7 = .ok (.getfield 22, 3) := by decide +kernel
theorem dX2_allows_10 : decode cX2_allows 10 = .ok (.if_icmp .ne 16, 3) := by decide +kernel
theorem dX2_allows_13 : decode cX2_allows 13 = .ok (.iload_n 1, 1) := by decide +kernel
theorem dX2_allows_14 : decode cX2_allows 14 = .ok (.aload_n 0, 1) := by decide +kernel
theorem dX2_allows_15 : decode cX2_allows 15 = .ok (.getfield 25, 3) := by decide +kernel
theorem dX2_allows_18 : decode cX2_allows 18 = .ok (.iand, 1) := by decide +kernel
theorem dX2_allows_19 : decode cX2_allows 19 = .ok (.ifCond .ne 7, 3) := by decide +kernel
theorem dX2_allows_22 : decode cX2_allows 22 = .ok (.iconst 1, 1) := by decide +kernel
theorem dX2_allows_23 : decode cX2_allows 23 = .ok (.goto 4, 3) := by decide +kernel
theorem dX2_allows_26 : decode cX2_allows 26 = .ok (.iconst 0, 1) := by decide +kernel
theorem dX2_allows_27 : decode cX2_allows 27 = .ok (.ireturn, 1) := by decide +kernel
theorem dX2_enter_0 : decode cX2_enter 0 = .ok (.aload_n 0, 1) := by decide +kernel
theorem dX2_enter_1 : decode cX2_enter 1 = .ok (.getfield 28, 3) := by decide +kernel
theorem dX2_enter_4 : decode cX2_enter 4 = .ok (.bipush 15, 2) := by decide +kernel
theorem dX2_enter_6 : decode cX2_enter 6 = .ok (.if_icmp .ge 33, 3) := by decide +kernel
theorem dX2_enter_9 : decode cX2_enter 9 = .ok (.aload_n 0, 1) := by decide +kernel
theorem dX2_enter_10 : decode cX2_enter 10 = .ok (.getfield 9, 3) := by decide +kernel
theorem dX2_enter_13 : decode cX2_enter 13 = .ok (.aload_n 0, 1) := by decide +kernel
theorem dX2_enter_14 : decode cX2_enter 14 = .ok (.getfield 28, 3) := by decide +kernel
theorem dX2_enter_17 : decode cX2_enter 17 = .ok (.iload_n 1, 1) := by decide +kernel
theorem dX2_enter_18 : decode cX2_enter 18 = .ok (.iastore, 1) := by decide +kernel
theorem dX2_enter_19 : decode cX2_enter 19 = .ok (.aload_n 0, 1) := by decide +kernel
theorem dX2_enter_20 : decode cX2_enter 20 = .ok (.getfield 15, 3) := by decide +kernel
theorem dX2_enter_23 : decode cX2_enter 23 = .ok (.aload_n 0, 1) := by decide +kernel
theorem dX2_enter_24 : decode cX2_enter 24 = .ok (.getfield 28, 3) := by decide +kernel
theorem dX2_enter_27 : decode cX2_enter 27 = .ok (.iload_n 2, 1) := by decide +kernel
theorem dX2_enter_28 : decode cX2_enter 28 = .ok (.iastore, 1) := by decide +kernel
theorem dX2_enter_29 : decode cX2_enter 29 = .ok (.aload_n 0, 1) := by decide +kernel
theorem dX2_enter_30 : decode cX2_enter 30 = .ok (.dup, 1) := by decide +kernel
theorem dX2_enter_31 : decode cX2_enter 31 = .ok (.getfield 28, 3) := by decide +kernel
theorem dX2_enter_34 : decode cX2_enter 34 = .ok (.iconst 1, 1) := by decide +kernel
theorem dX2_enter_35 : decode cX2_enter 35 = .ok (.iadd, 1) := by decide +kernel
theorem dX2_enter_36 : decode cX2_enter 36 = .ok (.putfield 28, 3) := by decide +kernel
theorem dX2_enter_39 : decode cX2_enter 39 = .ok (.aload_n 0, 1) := by decide +kernel
theorem dX2_enter_40 : decode cX2_enter 40 = .ok (.getfield 28, 3) := by decide +kernel
theorem dX2_enter_43 : decode cX2_enter 43 = .ok (.ireturn, 1) := by decide +kernel
theorem dX2_firstWrong_0 : decode cX2_firstWrong 0 = .ok (.iconst 0, 1) := by decide +kernel
theorem dX2_firstWrong_1 : decode cX2_firstWrong 1 = .ok (.istore_n 2, 1) := by decide +kernel
theorem dX2_firstWrong_2 : decode cX2_firstWrong 2 = .ok (.iload_n 2, 1) := by decide +kernel
theorem dX2_firstWrong_3 : decode cX2_firstWrong 3 = .ok (.aload_n 0, 1) := by decide +kernel
theorem dX2_firstWrong_4 : decode cX2_firstWrong 4 = .ok (.getfield 28, 3) := by decide +kernel
theorem dX2_firstWrong_7 : decode cX2_firstWrong 7 = .ok (.if_icmp .ge 30, 3) := by decide +kernel
theorem dX2_firstWrong_10 : decode cX2_firstWrong 10 = .ok (.iload_n 1, 1) := by decide +kernel
theorem dX2_firstWrong_11 : decode cX2_firstWrong 11 = .ok (.aload_n 0, 1) := by decide +kernel
theorem dX2_firstWrong_12 : decode cX2_firstWrong 12 = .ok (.getfield 9, 3) := by decide +kernel
theorem dX2_firstWrong_15 : decode cX2_firstWrong 15 = .ok (.iload_n 2, 1) := by decide +kernel
theorem dX2_firstWrong_16 : decode cX2_firstWrong 16 = .ok (.iaload, 1) := by decide +kernel
theorem dX2_firstWrong_17 : decode cX2_firstWrong 17 = .ok (.ishr, 1) := by decide +kernel
theorem dX2_firstWrong_18 : decode cX2_firstWrong 18 = .ok (.iconst 1, 1) := by decide +kernel
theorem dX2_firstWrong_19 : decode cX2_firstWrong 19 = .ok (.iand, 1) := by decide +kernel
theorem dX2_firstWrong_20 : decode cX2_firstWrong 20 = .ok (.aload_n 0, 1) := by decide +kernel
theorem dX2_firstWrong_21 : decode cX2_firstWrong 21 = .ok (.getfield 15, 3) := by decide +kernel
theorem dX2_firstWrong_24 : decode cX2_firstWrong 24 = .ok (.iload_n 2, 1) := by decide +kernel
theorem dX2_firstWrong_25 : decode cX2_firstWrong 25 = .ok (.iaload, 1) := by decide +kernel
theorem dX2_firstWrong_26 : decode cX2_firstWrong 26 = .ok (.if_icmp .eq 5, 3) := by decide +kernel
theorem dX2_firstWrong_29 : decode cX2_firstWrong 29 = .ok (.iload_n 2, 1) := by decide +kernel
theorem dX2_firstWrong_30 : decode cX2_firstWrong 30 = .ok (.ireturn, 1) := by decide +kernel
theorem dX2_firstWrong_31 : decode cX2_firstWrong 31 = .ok (.iinc 2 1, 3) := by decide +kernel
theorem dX2_firstWrong_34 : decode cX2_firstWrong 34 = .ok (.goto (-32), 3) := by decide +kernel
theorem dX2_firstWrong_37 : decode cX2_firstWrong 37 = .ok (.iconst (-1), 1) := by decide +kernel
theorem dX2_firstWrong_38 : decode cX2_firstWrong 38 = .ok (.ireturn, 1) := by decide +kernel
theorem dX3_init_0 : decode cX3_init 0 = .ok (.aload_n 0, 1) := by decide +kernel
theorem dX3_init_1 : decode cX3_init 1 = .ok (.invokespecial 3, 3) := by decide +kernel
theorem dX3_init_4 : decode cX3_init 4 = .ok (.aload_n 0, 1) := by decide +kernel
theorem dX3_init_5 : decode cX3_init 5 = .ok (.bipush 7, 2) := by decide +kernel
theorem dX3_init_7 : decode cX3_init 7 = .ok (.newarray .int, 2) := by decide +kernel
theorem dX3_init_9 : decode cX3_init 9 = .ok (.putfield 9, 3) := by decide +kernel
theorem dX3_init_12 : decode cX3_init 12 = .ok (.aload_n 0, 1) := by decide +kernel
theorem dX3_init_13 : decode cX3_init 13 = .ok (.bipush 7, 2) := by decide +kernel
theorem dX3_init_15 : decode cX3_init 15 = .ok (.newarray .int, 2) := by decide +kernel
theorem dX3_init_17 : decode cX3_init 17 = .ok (.putfield 15, 3) := by decide +kernel
theorem dX3_init_20 : decode cX3_init 20 = .ok (.return_, 1) := by decide +kernel
theorem dX3_find_0 : decode cX3_find 0 = .ok (.aload_n 0, 1) := by decide +kernel
theorem dX3_find_1 : decode cX3_find 1 = .ok (.iload_n 2, 1) := by decide +kernel
theorem dX3_find_2 : decode cX3_find 2 = .ok (.putfield 18, 3) := by decide +kernel
theorem dX3_find_5 : decode cX3_find 5 = .ok (.aload_n 0, 1) := by decide +kernel
theorem dX3_find_6 : decode cX3_find 6 = .ok (.iload_n 3, 1) := by decide +kernel
theorem dX3_find_7 : decode cX3_find 7 = .ok (.putfield 22, 3) := by decide +kernel
theorem dX3_find_10 : decode cX3_find 10 = .ok (.aload_n 0, 1) := by decide +kernel
theorem dX3_find_11 : decode cX3_find 11 = .ok (.iconst (-1), 1) := by decide +kernel
theorem dX3_find_12 : decode cX3_find 12 = .ok (.putfield 25, 3) := by decide +kernel
theorem dX3_find_15 : decode cX3_find 15 = .ok (.aload_n 0, 1) := by decide +kernel
theorem dX3_find_16 : decode cX3_find 16 = .ok (.iconst (-1), 1) := by decide +kernel
theorem dX3_find_17 : decode cX3_find 17 = .ok (.putfield 28, 3) := by decide +kernel
theorem dX3_find_20 : decode cX3_find 20 = .ok (.aload_n 0, 1) := by decide +kernel
theorem dX3_find_21 : decode cX3_find 21 = .ok (.getfield 15, 3) := by decide +kernel
theorem dX3_find_24 : decode cX3_find 24 = .ok (.iconst (-1), 1) := by decide +kernel
theorem dX3_find_25 : decode cX3_find 25 = .ok (.invokestatic 31, 3) := by decide +kernel
theorem dX3_find_28 : decode cX3_find 28 = .ok (.aload_n 0, 1) := by decide +kernel
theorem dX3_find_29 : decode cX3_find 29 = .ok (.aload_n 1, 1) := by decide +kernel
theorem dX3_find_30 : decode cX3_find 30 = .ok (.iconst 0, 1) := by decide +kernel
theorem dX3_find_31 : decode cX3_find 31 = .ok (.iconst 0, 1) := by decide +kernel
theorem dX3_find_32 : decode cX3_find 32 = .ok (.iconst 0, 1) := by decide +kernel
theorem dX3_find_33 : decode cX3_find 33 = .ok (.invokevirtual 37, 3) := by decide +kernel
theorem dX3_find_36 : decode cX3_find 36 = .ok (.return_, 1) := by decide +kernel
theorem dX3_pairFrom_0 : decode cX3_pairFrom 0 = .ok (.iload_n 2, 1) := by decide +kernel
theorem dX3_pairFrom_1 : decode cX3_pairFrom 1 = .ok (.aload_n 1, 1) := by decide +kernel
theorem dX3_pairFrom_2 : decode cX3_pairFrom 2 = .ok (.getfield 41, 3) := by decide +kernel
theorem dX3_pairFrom_5 : decode cX3_pairFrom 5 = .ok (.if_icmp .lt 11, 3) := by decide +kernel
theorem dX3_pairFrom_8 : decode cX3_pairFrom 8 = .ok (.aload_n 0, 1) := by decide +kernel
theorem dX3_pairFrom_9 : decode cX3_pairFrom 9 = .ok (.iload_n 3, 1) := by decide +kernel
theorem dX3_pairFrom_10 : decode cX3_pairFrom 10 = .ok (.iload 4, 2) := by decide +kernel
theorem dX3_pairFrom_12 : decode cX3_pairFrom 12 = .ok (.invokevirtual 46, 3) := by decide +kernel
theorem dX3_pairFrom_15 : decode cX3_pairFrom 15 = .ok (.return_, 1) := by decide +kernel
theorem dX3_pairFrom_16 : decode cX3_pairFrom 16 = .ok (.aload_n 0, 1) := by decide +kernel
theorem dX3_pairFrom_17 : decode cX3_pairFrom 17 = .ok (.getfield 15, 3) := by decide +kernel
theorem dX3_pairFrom_20 : decode cX3_pairFrom 20 = .ok (.iload_n 2, 1) := by decide +kernel
theorem dX3_pairFrom_21 : decode cX3_pairFrom 21 = .ok (.iaload, 1) := by decide +kernel
theorem dX3_pairFrom_22 : decode cX3_pairFrom 22 = .ok (.iconst (-1), 1) := by decide +kernel
theorem dX3_pairFrom_23 : decode cX3_pairFrom 23 = .ok (.if_icmp .ne 23, 3) := by decide +kernel
theorem dX3_pairFrom_26 : decode cX3_pairFrom 26 = .ok (.iload_n 3, 1) := by decide +kernel
theorem dX3_pairFrom_27 : decode cX3_pairFrom 27 = .ok (.aload_n 0, 1) := by decide +kernel
theorem dX3_pairFrom_28 : decode cX3_pairFrom 28 = .ok (.getfield 22, 3) := by decide +kernel
theorem dX3_pairFrom_31 : decode cX3_pairFrom 31 = .ok (.if_icmp .ge 15, 3) := by decide +kernel
theorem dX3_pairFrom_34 : decode cX3_pairFrom 34 = .ok (.aload_n 1, 1) := by decide +kernel
theorem dX3_pairFrom_35 : decode cX3_pairFrom 35 = .ok (.iload_n 2, 1) := by decide +kernel
theorem dX3_pairFrom_36 : decode cX3_pairFrom 36 = .ok (.aload_n 0, 1) := by decide +kernel
theorem dX3_pairFrom_37 : decode cX3_pairFrom 37 = .ok (.getfield 18, 3) := by decide +kernel
theorem dX3_pairFrom_40 : decode cX3_pairFrom 40 = .ok (.invokevirtual 50, 3) := by decide +kernel
theorem dX3_pairFrom_43 : decode cX3_pairFrom 43 = .ok (.goto 4, 3) := by decide +kernel
theorem dX3_pairFrom_46 : decode cX3_pairFrom 46 = .ok (.iconst 0, 1) := by decide +kernel
theorem dX3_pairFrom_47 : decode cX3_pairFrom 47 = .ok (.istore 5, 2) := by decide +kernel
theorem dX3_pairFrom_49 : decode cX3_pairFrom 49 = .ok (.iload_n 2, 1) := by decide +kernel
theorem dX3_pairFrom_50 : decode cX3_pairFrom 50 = .ok (.iconst 1, 1) := by decide +kernel
theorem dX3_pairFrom_51 : decode cX3_pairFrom 51 = .ok (.iadd, 1) := by decide +kernel
theorem dX3_pairFrom_52 : decode cX3_pairFrom 52 = .ok (.istore 6, 2) := by decide +kernel
theorem dX3_pairFrom_54 : decode cX3_pairFrom 54 = .ok (.iload 6, 2) := by decide +kernel
theorem dX3_pairFrom_56 : decode cX3_pairFrom 56 = .ok (.aload_n 1, 1) := by decide +kernel
theorem dX3_pairFrom_57 : decode cX3_pairFrom 57 = .ok (.getfield 41, 3) := by decide +kernel
theorem dX3_pairFrom_60 : decode cX3_pairFrom 60 = .ok (.if_icmp .ge 83, 3) := by decide +kernel
theorem dX3_pairFrom_63 : decode cX3_pairFrom 63 = .ok (.iload 5, 2) := by decide +kernel
theorem dX3_pairFrom_65 : decode cX3_pairFrom 65 = .ok (.iload 6, 2) := by decide +kernel
theorem dX3_pairFrom_67 : decode cX3_pairFrom 67 = .ok (.ishr, 1) := by decide +kernel
theorem dX3_pairFrom_68 : decode cX3_pairFrom 68 = .ok (.iconst 1, 1) := by decide +kernel
theorem dX3_pairFrom_69 : decode cX3_pairFrom 69 = .ok (.iand, 1) := by decide +kernel
theorem dX3_pairFrom_70 : decode cX3_pairFrom 70 = .ok (.iconst 1, 1) := by decide +kernel
theorem dX3_pairFrom_71 : decode cX3_pairFrom 71 = .ok (.if_icmp .ne 66, 3) := by decide +kernel
theorem dX3_pairFrom_74 : decode cX3_pairFrom 74 = .ok (.aload_n 0, 1) := by decide +kernel
theorem dX3_pairFrom_75 : decode cX3_pairFrom 75 = .ok (.getfield 15, 3) := by decide +kernel
theorem dX3_pairFrom_78 : decode cX3_pairFrom 78 = .ok (.iload 6, 2) := by decide +kernel
theorem dX3_pairFrom_80 : decode cX3_pairFrom 80 = .ok (.iaload, 1) := by decide +kernel
theorem dX3_pairFrom_81 : decode cX3_pairFrom 81 = .ok (.iconst (-1), 1) := by decide +kernel
theorem dX3_pairFrom_82 : decode cX3_pairFrom 82 = .ok (.if_icmp .ne 55, 3) := by decide +kernel
theorem dX3_pairFrom_85 : decode cX3_pairFrom 85 = .ok (.aload_n 0, 1) := by decide +kernel
theorem dX3_pairFrom_86 : decode cX3_pairFrom 86 = .ok (.getfield 15, 3) := by decide +kernel
theorem dX3_pairFrom_89 : decode cX3_pairFrom 89 = .ok (.iload_n 2, 1) := by decide +kernel
theorem dX3_pairFrom_90 : decode cX3_pairFrom 90 = .ok (.iload 6, 2) := by decide +kernel
theorem dX3_pairFrom_92 : decode cX3_pairFrom 92 = .ok (.iastore, 1) := by decide +kernel
theorem dX3_pairFrom_93 : decode cX3_pairFrom 93 = .ok (.aload_n 0, 1) := by decide +kernel
theorem dX3_pairFrom_94 : decode cX3_pairFrom 94 = .ok (.getfield 15, 3) := by decide +kernel
theorem dX3_pairFrom_97 : decode cX3_pairFrom 97 = .ok (.iload 6, 2) := by decide +kernel
theorem dX3_pairFrom_99 : decode cX3_pairFrom 99 = .ok (.iload_n 2, 1) := by decide +kernel
theorem dX3_pairFrom_100 : decode cX3_pairFrom 100 = .ok (.iastore, 1) := by decide +kernel
theorem dX3_pairFrom_101 : decode cX3_pairFrom 101 = .ok (.aload_n 0, 1) := by decide +kernel
theorem dX3_pairFrom_102 : decode cX3_pairFrom 102 = .ok (.aload_n 1, 1) := by decide +kernel
theorem dX3_pairFrom_103 : decode cX3_pairFrom 103 = .ok (.iload_n 2, 1) := by decide +kernel
theorem dX3_pairFrom_104 : decode cX3_pairFrom 104 = .ok (.iconst 1, 1) := by decide +kernel
theorem dX3_pairFrom_105 : decode cX3_pairFrom 105 = .ok (.iadd, 1) := by decide +kernel
theorem dX3_pairFrom_106 : decode cX3_pairFrom 106 = .ok (.iload_n 3, 1) := by decide +kernel
theorem dX3_pairFrom_107 : decode cX3_pairFrom 107 = .ok (.iconst 1, 1) := by decide +kernel
theorem dX3_pairFrom_108 : decode cX3_pairFrom 108 = .ok (.iadd, 1) := by decide +kernel
theorem dX3_pairFrom_109 : decode cX3_pairFrom 109 = .ok (.iload 4, 2) := by decide +kernel
theorem dX3_pairFrom_111 : decode cX3_pairFrom 111 = .ok (.aload_n 1, 1) := by decide +kernel
theorem dX3_pairFrom_112 : decode cX3_pairFrom 112 = .ok (.iload_n 2, 1) := by decide +kernel
theorem dX3_pairFrom_113 : decode cX3_pairFrom 113 = .ok (.iload 6, 2) := by decide +kernel
theorem dX3_pairFrom_115 : decode cX3_pairFrom 115 = .ok (.invokevirtual 54, 3) := by decide +kernel
theorem dX3_pairFrom_118 : decode cX3_pairFrom 118 = .ok (.iadd, 1) := by decide +kernel
theorem dX3_pairFrom_119 : decode cX3_pairFrom 119 = .ok (.invokevirtual 37, 3) := by decide +kernel
theorem dX3_pairFrom_122 : decode cX3_pairFrom 122 = .ok (.aload_n 0, 1) := by decide +kernel
theorem dX3_pairFrom_123 : decode cX3_pairFrom 123 = .ok (.getfield 15, 3) := by decide +kernel
theorem dX3_pairFrom_126 : decode cX3_pairFrom 126 = .ok (.iload_n 2, 1) := by decide +kernel
theorem dX3_pairFrom_127 : decode cX3_pairFrom 127 = .ok (.iconst (-1), 1) := by decide +kernel
theorem dX3_pairFrom_128 : decode cX3_pairFrom 128 = .ok (.iastore, 1) := by decide +kernel
theorem dX3_pairFrom_129 : decode cX3_pairFrom 129 = .ok (.aload_n 0, 1) := by decide +kernel
theorem dX3_pairFrom_130 : decode cX3_pairFrom 130 = .ok (.getfield 15, 3) := by decide +kernel
theorem dX3_pairFrom_133 : decode cX3_pairFrom 133 = .ok (.iload 6, 2) := by decide +kernel
theorem dX3_pairFrom_135 : decode cX3_pairFrom 135 = .ok (.iconst (-1), 1) := by decide +kernel
theorem dX3_pairFrom_136 : decode cX3_pairFrom 136 = .ok (.iastore, 1) := by decide +kernel
theorem dX3_pairFrom_137 : decode cX3_pairFrom 137 = .ok (.iinc 6 1, 3) := by decide +kernel
theorem dX3_pairFrom_140 : decode cX3_pairFrom 140 = .ok (.goto (-86), 3) := by decide +kernel
theorem dX3_pairFrom_143 : decode cX3_pairFrom 143 = .ok (.aload_n 0, 1) := by decide +kernel
theorem dX3_pairFrom_144 : decode cX3_pairFrom 144 = .ok (.aload_n 1, 1) := by decide +kernel
theorem dX3_pairFrom_145 : decode cX3_pairFrom 145 = .ok (.iload_n 2, 1) := by decide +kernel
theorem dX3_pairFrom_146 : decode cX3_pairFrom 146 = .ok (.iconst 1, 1) := by decide +kernel
theorem dX3_pairFrom_147 : decode cX3_pairFrom 147 = .ok (.iadd, 1) := by decide +kernel
theorem dX3_pairFrom_148 : decode cX3_pairFrom 148 = .ok (.iload_n 3, 1) := by decide +kernel
theorem dX3_pairFrom_149 : decode cX3_pairFrom 149 = .ok (.iload 4, 2) := by decide +kernel
theorem dX3_pairFrom_151 : decode cX3_pairFrom 151 = .ok (.invokevirtual 37, 3) := by decide +kernel
theorem dX3_pairFrom_154 : decode cX3_pairFrom 154 = .ok (.return_, 1) := by decide +kernel
theorem dX3_takeIfBetter_0 : decode cX3_takeIfBetter 0 = .ok (.iload_n 1, 1) := by decide +kernel
theorem dX3_takeIfBetter_1 : decode cX3_takeIfBetter 1 = .ok (.aload_n 0, 1) := by decide +kernel
theorem dX3_takeIfBetter_2 : decode cX3_takeIfBetter 2 = .ok (.getfield 25, 3) := by decide +kernel
theorem dX3_takeIfBetter_5 : decode cX3_takeIfBetter 5 = .ok (.if_icmp .gt 19, 3) := by decide +kernel
theorem dX3_takeIfBetter_8 : decode cX3_takeIfBetter 8 = .ok (.iload_n 1, 1) := by decide +kernel
theorem dX3_takeIfBetter_9 : decode cX3_takeIfBetter 9 = .ok (.aload_n 0, 1) := by decide +kernel
theorem dX3_takeIfBetter_10 : decode cX3_takeIfBetter 10 = .ok (.getfield 25, 3) := by decide +kernel
theorem dX3_takeIfBetter_13 : decode cX3_takeIfBetter 13 = .ok (.if_icmp .ne 36, 3) := by decide +kernel
theorem dX3_takeIfBetter_16 : decode cX3_takeIfBetter 16 = .ok (.iload_n 2, 1) := by decide +kernel
theorem dX3_takeIfBetter_17 : decode cX3_takeIfBetter 17 = .ok (.aload_n 0, 1) := by decide +kernel
theorem dX3_takeIfBetter_18 : decode cX3_takeIfBetter 18 = .ok (.getfield 28, 3) := by decide +kernel
theorem dX3_takeIfBetter_21 : decode cX3_takeIfBetter 21 = .ok (.if_icmp .le 28, 3) := by decide +kernel
theorem dX3_takeIfBetter_24 : decode cX3_takeIfBetter 24 = .ok (.aload_n 0, 1) := by decide +kernel
theorem dX3_takeIfBetter_25 : decode cX3_takeIfBetter 25 = .ok (.iload_n 1, 1) := by decide +kernel
theorem dX3_takeIfBetter_26 : decode cX3_takeIfBetter 26 = .ok (.putfield 25, 3) := by decide +kernel
theorem dX3_takeIfBetter_29 : decode cX3_takeIfBetter 29 = .ok (.aload_n 0, 1) := by decide +kernel
theorem dX3_takeIfBetter_30 : decode cX3_takeIfBetter 30 = .ok (.iload_n 2, 1) := by decide +kernel
theorem dX3_takeIfBetter_31 : decode cX3_takeIfBetter 31 = .ok (.putfield 28, 3) := by decide +kernel
theorem dX3_takeIfBetter_34 : decode cX3_takeIfBetter 34 = .ok (.aload_n 0, 1) := by decide +kernel
theorem dX3_takeIfBetter_35 : decode cX3_takeIfBetter 35 = .ok (.getfield 15, 3) := by decide +kernel
theorem dX3_takeIfBetter_38 : decode cX3_takeIfBetter 38 = .ok (.iconst 0, 1) := by decide +kernel
theorem dX3_takeIfBetter_39 : decode cX3_takeIfBetter 39 = .ok (.aload_n 0, 1) := by decide +kernel
theorem dX3_takeIfBetter_40 : decode cX3_takeIfBetter 40 = .ok (.getfield 9, 3) := by decide +kernel
theorem dX3_takeIfBetter_43 : decode cX3_takeIfBetter 43 = .ok (.iconst 0, 1) := by decide +kernel
theorem dX3_takeIfBetter_44 : decode cX3_takeIfBetter 44 = .ok (.bipush 7, 2) := by decide +kernel
theorem dX3_takeIfBetter_46 : decode cX3_takeIfBetter 46 = .ok (.invokestatic 57, 3) := by decide +kernel
theorem dX3_takeIfBetter_49 : decode cX3_takeIfBetter 49 = .ok (.return_, 1) := by decide +kernel
theorem dX4_init_0 : decode cX4_init 0 = .ok (.aload_n 0, 1) := by decide +kernel
theorem dX4_init_1 : decode cX4_init 1 = .ok (.invokespecial 3, 3) := by decide +kernel
theorem dX4_init_4 : decode cX4_init 4 = .ok (.aload_n 0, 1) := by decide +kernel
theorem dX4_init_5 : decode cX4_init 5 = .ok (.bipush 20, 2) := by decide +kernel
theorem dX4_init_7 : decode cX4_init 7 = .ok (.anewarray 9, 3) := by decide +kernel
theorem dX4_init_10 : decode cX4_init 10 = .ok (.putfield 11, 3) := by decide +kernel
theorem dX4_init_13 : decode cX4_init 13 = .ok (.iconst 0, 1) := by decide +kernel
theorem dX4_init_14 : decode cX4_init 14 = .ok (.istore_n 1, 1) := by decide +kernel
theorem dX4_init_15 : decode cX4_init 15 = .ok (.iload_n 1, 1) := by decide +kernel
theorem dX4_init_16 : decode cX4_init 16 = .ok (.bipush 20, 2) := by decide +kernel
theorem dX4_init_18 : decode cX4_init 18 = .ok (.if_icmp .ge 22, 3) := by decide +kernel
theorem dX4_init_21 : decode cX4_init 21 = .ok (.aload_n 0, 1) := by decide +kernel
theorem dX4_init_22 : decode cX4_init 22 = .ok (.getfield 11, 3) := by decide +kernel
theorem dX4_init_25 : decode cX4_init 25 = .ok (.iload_n 1, 1) := by decide +kernel
theorem dX4_init_26 : decode cX4_init 26 = .ok (.new 9, 3) := by decide +kernel
theorem dX4_init_29 : decode cX4_init 29 = .ok (.dup, 1) := by decide +kernel
theorem dX4_init_30 : decode cX4_init 30 = .ok (.invokespecial 17, 3) := by decide +kernel
theorem dX4_init_33 : decode cX4_init 33 = .ok (.aastore, 1) := by decide +kernel
theorem dX4_init_34 : decode cX4_init 34 = .ok (.iinc 1 1, 3) := by decide +kernel
theorem dX4_init_37 : decode cX4_init 37 = .ok (.goto (-22), 3) := by decide +kernel
theorem dX4_init_40 : decode cX4_init 40 = .ok (.return_, 1) := by decide +kernel
theorem dX4_remember_0 : decode cX4_remember 0 = .ok (.aload_n 0, 1) := by decide +kernel
theorem dX4_remember_1 : decode cX4_remember 1 = .ok (.getfield 11, 3) := by decide +kernel
theorem dX4_remember_4 : decode cX4_remember 4 = .ok (.aload_n 0, 1) := by decide +kernel
theorem dX4_remember_5 : decode cX4_remember 5 = .ok (.getfield 18, 3) := by decide +kernel
theorem dX4_remember_8 : decode cX4_remember 8 = .ok (.aaload, 1) := by decide +kernel
theorem dX4_remember_9 : decode cX4_remember 9 = .ok (.aload_n 1, 1) := by decide +kernel
theorem dX4_remember_10 : decode cX4_remember 10 = .ok (.invokevirtual 22, 3) := by decide +kernel
theorem dX4_remember_13 : decode cX4_remember 13 = .ok (.aload_n 0, 1) := by decide +kernel
theorem dX4_remember_14 : decode cX4_remember 14 = .ok (.aload_n 0, 1) := by decide +kernel
theorem dX4_remember_15 : decode cX4_remember 15 = .ok (.getfield 18, 3) := by decide +kernel
theorem dX4_remember_18 : decode cX4_remember 18 = .ok (.iconst 1, 1) := by decide +kernel
theorem dX4_remember_19 : decode cX4_remember 19 = .ok (.iadd, 1) := by decide +kernel
theorem dX4_remember_20 : decode cX4_remember 20 = .ok (.bipush 20, 2) := by decide +kernel
theorem dX4_remember_22 : decode cX4_remember 22 = .ok (.if_icmp .ge 12, 3) := by decide +kernel
theorem dX4_remember_25 : decode cX4_remember 25 = .ok (.aload_n 0, 1) := by decide +kernel
theorem dX4_remember_26 : decode cX4_remember 26 = .ok (.getfield 18, 3) := by decide +kernel
theorem dX4_remember_29 : decode cX4_remember 29 = .ok (.iconst 1, 1) := by decide +kernel
theorem dX4_remember_30 : decode cX4_remember 30 = .ok (.iadd, 1) := by decide +kernel
theorem dX4_remember_31 : decode cX4_remember 31 = .ok (.goto 4, 3) := by decide +kernel
theorem dX4_remember_34 : decode cX4_remember 34 = .ok (.iconst 0, 1) := by decide +kernel
theorem dX4_remember_35 : decode cX4_remember 35 = .ok (.putfield 18, 3) := by decide +kernel
theorem dX4_remember_38 : decode cX4_remember 38 = .ok (.aload_n 0, 1) := by decide +kernel
theorem dX4_remember_39 : decode cX4_remember 39 = .ok (.aload_n 0, 1) := by decide +kernel
theorem dX4_remember_40 : decode cX4_remember 40 = .ok (.getfield 26, 3) := by decide +kernel
theorem dX4_remember_43 : decode cX4_remember 43 = .ok (.iconst 1, 1) := by decide +kernel
theorem dX4_remember_44 : decode cX4_remember 44 = .ok (.iadd, 1) := by decide +kernel
theorem dX4_remember_45 : decode cX4_remember 45 = .ok (.bipush 20, 2) := by decide +kernel
theorem dX4_remember_47 : decode cX4_remember 47 = .ok (.invokestatic 29, 3) := by decide +kernel
theorem dX4_remember_50 : decode cX4_remember 50 = .ok (.putfield 26, 3) := by decide +kernel
theorem dX4_remember_53 : decode cX4_remember 53 = .ok (.return_, 1) := by decide +kernel
theorem dX4_restore_0 : decode cX4_restore 0 = .ok (.aload_n 0, 1) := by decide +kernel
theorem dX4_restore_1 : decode cX4_restore 1 = .ok (.getfield 26, 3) := by decide +kernel
theorem dX4_restore_4 : decode cX4_restore 4 = .ok (.ifCond .le 48, 3) := by decide +kernel
theorem dX4_restore_7 : decode cX4_restore 7 = .ok (.aload_n 0, 1) := by decide +kernel
theorem dX4_restore_8 : decode cX4_restore 8 = .ok (.aload_n 0, 1) := by decide +kernel
theorem dX4_restore_9 : decode cX4_restore 9 = .ok (.getfield 18, 3) := by decide +kernel
theorem dX4_restore_12 : decode cX4_restore 12 = .ok (.ifCond .le 12, 3) := by decide +kernel
theorem dX4_restore_15 : decode cX4_restore 15 = .ok (.aload_n 0, 1) := by decide +kernel
theorem dX4_restore_16 : decode cX4_restore 16 = .ok (.getfield 18, 3) := by decide +kernel
theorem dX4_restore_19 : decode cX4_restore 19 = .ok (.iconst 1, 1) := by decide +kernel
theorem dX4_restore_20 : decode cX4_restore 20 = .ok (.isub, 1) := by decide +kernel
theorem dX4_restore_21 : decode cX4_restore 21 = .ok (.goto 5, 3) := by decide +kernel
theorem dX4_restore_24 : decode cX4_restore 24 = .ok (.bipush 19, 2) := by decide +kernel
theorem dX4_restore_26 : decode cX4_restore 26 = .ok (.putfield 18, 3) := by decide +kernel
theorem dX4_restore_29 : decode cX4_restore 29 = .ok (.aload_n 0, 1) := by decide +kernel
theorem dX4_restore_30 : decode cX4_restore 30 = .ok (.dup, 1) := by decide +kernel
theorem dX4_restore_31 : decode cX4_restore 31 = .ok (.getfield 26, 3) := by decide +kernel
theorem dX4_restore_34 : decode cX4_restore 34 = .ok (.iconst 1, 1) := by decide +kernel
theorem dX4_restore_35 : decode cX4_restore 35 = .ok (.isub, 1) := by decide +kernel
theorem dX4_restore_36 : decode cX4_restore 36 = .ok (.putfield 26, 3) := by decide +kernel
theorem dX4_restore_39 : decode cX4_restore 39 = .ok (.aload_n 1, 1) := by decide +kernel
theorem dX4_restore_40 : decode cX4_restore 40 = .ok (.aload_n 0, 1) := by decide +kernel
theorem dX4_restore_41 : decode cX4_restore 41 = .ok (.getfield 11, 3) := by decide +kernel
theorem dX4_restore_44 : decode cX4_restore 44 = .ok (.aload_n 0, 1) := by decide +kernel
theorem dX4_restore_45 : decode cX4_restore 45 = .ok (.getfield 18, 3) := by decide +kernel
theorem dX4_restore_48 : decode cX4_restore 48 = .ok (.aaload, 1) := by decide +kernel
theorem dX4_restore_49 : decode cX4_restore 49 = .ok (.invokevirtual 22, 3) := by decide +kernel
theorem dX4_restore_52 : decode cX4_restore 52 = .ok (.return_, 1) := by decide +kernel
theorem dX4_forget_0 : decode cX4_forget 0 = .ok (.aload_n 0, 1) := by decide +kernel
theorem dX4_forget_1 : decode cX4_forget 1 = .ok (.iconst 0, 1) := by decide +kernel
theorem dX4_forget_2 : decode cX4_forget 2 = .ok (.putfield 26, 3) := by decide +kernel
theorem dX4_forget_5 : decode cX4_forget 5 = .ok (.return_, 1) := by decide +kernel
theorem dX5_init_0 : decode cX5_init 0 = .ok (.aload_n 0, 1) := by decide +kernel
theorem dX5_init_1 : decode cX5_init 1 = .ok (.invokespecial 3, 3) := by decide +kernel
theorem dX5_init_4 : decode cX5_init 4 = .ok (.aload_n 0, 1) := by decide +kernel
theorem dX5_init_5 : decode cX5_init 5 = .ok (.bipush 7, 2) := by decide +kernel
theorem dX5_init_7 : decode cX5_init 7 = .ok (.newarray .int, 2) := by decide +kernel
theorem dX5_init_9 : decode cX5_init 9 = .ok (.putfield 9, 3) := by decide +kernel
theorem dX5_init_12 : decode cX5_init 12 = .ok (.aload_n 0, 1) := by decide +kernel
theorem dX5_init_13 : decode cX5_init 13 = .ok (.iconst 5, 1) := by decide +kernel
theorem dX5_init_14 : decode cX5_init 14 = .ok (.newarray .int, 2) := by decide +kernel
theorem dX5_init_16 : decode cX5_init 16 = .ok (.putfield 15, 3) := by decide +kernel
theorem dX5_init_19 : decode cX5_init 19 = .ok (.aload_n 0, 1) := by decide +kernel
theorem dX5_init_20 : decode cX5_init 20 = .ok (.bipush 20, 2) := by decide +kernel
theorem dX5_init_22 : decode cX5_init 22 = .ok (.newarray .int, 2) := by decide +kernel
theorem dX5_init_24 : decode cX5_init 24 = .ok (.putfield 18, 3) := by decide +kernel
theorem dX5_init_27 : decode cX5_init 27 = .ok (.return_, 1) := by decide +kernel
theorem dX5_begin_0 : decode cX5_begin 0 = .ok (.aload_n 0, 1) := by decide +kernel
theorem dX5_begin_1 : decode cX5_begin 1 = .ok (.iconst 0, 1) := by decide +kernel
theorem dX5_begin_2 : decode cX5_begin 2 = .ok (.putfield 21, 3) := by decide +kernel
theorem dX5_begin_5 : decode cX5_begin 5 = .ok (.aload_n 0, 1) := by decide +kernel
theorem dX5_begin_6 : decode cX5_begin 6 = .ok (.iconst 0, 1) := by decide +kernel
theorem dX5_begin_7 : decode cX5_begin 7 = .ok (.putfield 25, 3) := by decide +kernel
theorem dX5_begin_10 : decode cX5_begin 10 = .ok (.aload_n 0, 1) := by decide +kernel
theorem dX5_begin_11 : decode cX5_begin 11 = .ok (.iconst 0, 1) := by decide +kernel
theorem dX5_begin_12 : decode cX5_begin 12 = .ok (.putfield 28, 3) := by decide +kernel
theorem dX5_begin_15 : decode cX5_begin 15 = .ok (.aload_n 0, 1) := by decide +kernel
theorem dX5_begin_16 : decode cX5_begin 16 = .ok (.aload_n 1, 1) := by decide +kernel
theorem dX5_begin_17 : decode cX5_begin 17 = .ok (.getfield 31, 3) := by decide +kernel
theorem dX5_begin_20 : decode cX5_begin 20 = .ok (.putfield 36, 3) := by decide +kernel
theorem dX5_begin_23 : decode cX5_begin 23 = .ok (.aload_n 0, 1) := by decide +kernel
theorem dX5_begin_24 : decode cX5_begin 24 = .ok (.aload_n 1, 1) := by decide +kernel
theorem dX5_begin_25 : decode cX5_begin 25 = .ok (.getfield 39, 3) := by decide +kernel
theorem dX5_begin_28 : decode cX5_begin 28 = .ok (.putfield 42, 3) := by decide +kernel
theorem dX5_begin_31 : decode cX5_begin 31 = .ok (.aload_n 0, 1) := by decide +kernel
theorem dX5_begin_32 : decode cX5_begin 32 = .ok (.iconst 0, 1) := by decide +kernel
theorem dX5_begin_33 : decode cX5_begin 33 = .ok (.putfield 45, 3) := by decide +kernel
theorem dX5_begin_36 : decode cX5_begin 36 = .ok (.aload_n 0, 1) := by decide +kernel
theorem dX5_begin_37 : decode cX5_begin 37 = .ok (.getfield 9, 3) := by decide +kernel
theorem dX5_begin_40 : decode cX5_begin 40 = .ok (.iconst (-1), 1) := by decide +kernel
theorem dX5_begin_41 : decode cX5_begin 41 = .ok (.invokestatic 48, 3) := by decide +kernel
theorem dX5_begin_44 : decode cX5_begin 44 = .ok (.aload_n 0, 1) := by decide +kernel
theorem dX5_begin_45 : decode cX5_begin 45 = .ok (.getfield 15, 3) := by decide +kernel
theorem dX5_begin_48 : decode cX5_begin 48 = .ok (.iconst 0, 1) := by decide +kernel
theorem dX5_begin_49 : decode cX5_begin 49 = .ok (.invokestatic 48, 3) := by decide +kernel
theorem dX5_begin_52 : decode cX5_begin 52 = .ok (.return_, 1) := by decide +kernel
theorem dX5_copyFrom_0 : decode cX5_copyFrom 0 = .ok (.aload_n 0, 1) := by decide +kernel
theorem dX5_copyFrom_1 : decode cX5_copyFrom 1 = .ok (.aload_n 1, 1) := by decide +kernel
theorem dX5_copyFrom_2 : decode cX5_copyFrom 2 = .ok (.getfield 21, 3) := by decide +kernel
theorem dX5_copyFrom_5 : decode cX5_copyFrom 5 = .ok (.putfield 21, 3) := by decide +kernel
theorem dX5_copyFrom_8 : decode cX5_copyFrom 8 = .ok (.aload_n 0, 1) := by decide +kernel
theorem dX5_copyFrom_9 : decode cX5_copyFrom 9 = .ok (.aload_n 1, 1) := by decide +kernel
theorem dX5_copyFrom_10 : decode cX5_copyFrom 10 = .ok (.getfield 25, 3) := by decide +kernel
theorem dX5_copyFrom_13 : decode cX5_copyFrom 13 = .ok (.putfield 25, 3) := by decide +kernel
theorem dX5_copyFrom_16 : decode cX5_copyFrom 16 = .ok (.aload_n 0, 1) := by decide +kernel
theorem dX5_copyFrom_17 : decode cX5_copyFrom 17 = .ok (.aload_n 1, 1) := by decide +kernel
theorem dX5_copyFrom_18 : decode cX5_copyFrom 18 = .ok (.getfield 28, 3) := by decide +kernel
theorem dX5_copyFrom_21 : decode cX5_copyFrom 21 = .ok (.putfield 28, 3) := by decide +kernel
theorem dX5_copyFrom_24 : decode cX5_copyFrom 24 = .ok (.aload_n 0, 1) := by decide +kernel
theorem dX5_copyFrom_25 : decode cX5_copyFrom 25 = .ok (.aload_n 1, 1) := by decide +kernel
theorem dX5_copyFrom_26 : decode cX5_copyFrom 26 = .ok (.getfield 36, 3) := by decide +kernel
theorem dX5_copyFrom_29 : decode cX5_copyFrom 29 = .ok (.putfield 36, 3) := by decide +kernel
theorem dX5_copyFrom_32 : decode cX5_copyFrom 32 = .ok (.aload_n 0, 1) := by decide +kernel
theorem dX5_copyFrom_33 : decode cX5_copyFrom 33 = .ok (.aload_n 1, 1) := by decide +kernel
theorem dX5_copyFrom_34 : decode cX5_copyFrom 34 = .ok (.getfield 42, 3) := by decide +kernel
theorem dX5_copyFrom_37 : decode cX5_copyFrom 37 = .ok (.putfield 42, 3) := by decide +kernel
theorem dX5_copyFrom_40 : decode cX5_copyFrom 40 = .ok (.aload_n 0, 1) := by decide +kernel
theorem dX5_copyFrom_41 : decode cX5_copyFrom 41 = .ok (.aload_n 1, 1) := by decide +kernel
theorem dX5_copyFrom_42 : decode cX5_copyFrom 42 = .ok (.getfield 45, 3) := by decide +kernel
theorem dX5_copyFrom_45 : decode cX5_copyFrom 45 = .ok (.putfield 45, 3) := by decide +kernel
theorem dX5_copyFrom_48 : decode cX5_copyFrom 48 = .ok (.aload_n 1, 1) := by decide +kernel
theorem dX5_copyFrom_49 : decode cX5_copyFrom 49 = .ok (.getfield 9, 3) := by decide +kernel
theorem dX5_copyFrom_52 : decode cX5_copyFrom 52 = .ok (.iconst 0, 1) := by decide +kernel
theorem dX5_copyFrom_53 : decode cX5_copyFrom 53 = .ok (.aload_n 0, 1) := by decide +kernel
theorem dX5_copyFrom_54 : decode cX5_copyFrom 54 = .ok (.getfield 9, 3) := by decide +kernel
theorem dX5_copyFrom_57 : decode cX5_copyFrom 57 = .ok (.iconst 0, 1) := by decide +kernel
theorem dX5_copyFrom_58 : decode cX5_copyFrom 58 = .ok (.bipush 7, 2) := by decide +kernel
theorem dX5_copyFrom_60 : decode cX5_copyFrom 60 = .ok (.invokestatic 54, 3) := by decide +kernel
theorem dX5_copyFrom_63 : decode cX5_copyFrom 63 = .ok (.aload_n 1, 1) := by decide +kernel
theorem dX5_copyFrom_64 : decode cX5_copyFrom 64 = .ok (.getfield 15, 3) := by decide +kernel
theorem dX5_copyFrom_67 : decode cX5_copyFrom 67 = .ok (.iconst 0, 1) := by decide +kernel
theorem dX5_copyFrom_68 : decode cX5_copyFrom 68 = .ok (.aload_n 0, 1) := by decide +kernel
theorem dX5_copyFrom_69 : decode cX5_copyFrom 69 = .ok (.getfield 15, 3) := by decide +kernel
theorem dX5_copyFrom_72 : decode cX5_copyFrom 72 = .ok (.iconst 0, 1) := by decide +kernel
theorem dX5_copyFrom_73 : decode cX5_copyFrom 73 = .ok (.iconst 5, 1) := by decide +kernel
theorem dX5_copyFrom_74 : decode cX5_copyFrom 74 = .ok (.invokestatic 54, 3) := by decide +kernel
theorem dX5_copyFrom_77 : decode cX5_copyFrom 77 = .ok (.aload_n 1, 1) := by decide +kernel
theorem dX5_copyFrom_78 : decode cX5_copyFrom 78 = .ok (.getfield 18, 3) := by decide +kernel
theorem dX5_copyFrom_81 : decode cX5_copyFrom 81 = .ok (.iconst 0, 1) := by decide +kernel
theorem dX5_copyFrom_82 : decode cX5_copyFrom 82 = .ok (.aload_n 0, 1) := by decide +kernel
theorem dX5_copyFrom_83 : decode cX5_copyFrom 83 = .ok (.getfield 18, 3) := by decide +kernel
theorem dX5_copyFrom_86 : decode cX5_copyFrom 86 = .ok (.iconst 0, 1) := by decide +kernel
theorem dX5_copyFrom_87 : decode cX5_copyFrom 87 = .ok (.bipush 20, 2) := by decide +kernel
theorem dX5_copyFrom_89 : decode cX5_copyFrom 89 = .ok (.invokestatic 54, 3) := by decide +kernel
theorem dX5_copyFrom_92 : decode cX5_copyFrom 92 = .ok (.return_, 1) := by decide +kernel
theorem dX5_isRusted_0 : decode cX5_isRusted 0 = .ok (.aload_n 0, 1) := by decide +kernel
theorem dX5_isRusted_1 : decode cX5_isRusted 1 = .ok (.getfield 15, 3) := by decide +kernel
theorem dX5_isRusted_4 : decode cX5_isRusted 4 = .ok (.iload_n 2, 1) := by decide +kernel
theorem dX5_isRusted_5 : decode cX5_isRusted 5 = .ok (.iaload, 1) := by decide +kernel
theorem dX5_isRusted_6 : decode cX5_isRusted 6 = .ok (.aload_n 1, 1) := by decide +kernel
theorem dX5_isRusted_7 : decode cX5_isRusted 7 = .ok (.getfield 60, 3) := by decide +kernel
theorem dX5_isRusted_10 : decode cX5_isRusted 10 = .ok (.iload_n 2, 1) := by decide +kernel
theorem dX5_isRusted_11 : decode cX5_isRusted 11 = .ok (.iaload, 1) := by decide +kernel
theorem dX5_isRusted_12 : decode cX5_isRusted 12 = .ok (.if_icmp .lt 7, 3) := by decide +kernel
theorem dX5_isRusted_15 : decode cX5_isRusted 15 = .ok (.iconst 1, 1) := by decide +kernel
theorem dX5_isRusted_16 : decode cX5_isRusted 16 = .ok (.goto 4, 3) := by decide +kernel
theorem dX5_isRusted_19 : decode cX5_isRusted 19 = .ok (.iconst 0, 1) := by decide +kernel
theorem dX5_isRusted_20 : decode cX5_isRusted 20 = .ok (.ireturn, 1) := by decide +kernel
theorem dX5_rusted_0 : decode cX5_rusted 0 = .ok (.iconst 0, 1) := by decide +kernel
theorem dX5_rusted_1 : decode cX5_rusted 1 = .ok (.istore_n 2, 1) := by decide +kernel
theorem dX5_rusted_2 : decode cX5_rusted 2 = .ok (.iconst 0, 1) := by decide +kernel
theorem dX5_rusted_3 : decode cX5_rusted 3 = .ok (.istore_n 3, 1) := by decide +kernel
theorem dX5_rusted_4 : decode cX5_rusted 4 = .ok (.iload_n 3, 1) := by decide +kernel
theorem dX5_rusted_5 : decode cX5_rusted 5 = .ok (.aload_n 1, 1) := by decide +kernel
theorem dX5_rusted_6 : decode cX5_rusted 6 = .ok (.getfield 63, 3) := by decide +kernel
theorem dX5_rusted_9 : decode cX5_rusted 9 = .ok (.if_icmp .ge 24, 3) := by decide +kernel
theorem dX5_rusted_12 : decode cX5_rusted 12 = .ok (.aload_n 0, 1) := by decide +kernel
theorem dX5_rusted_13 : decode cX5_rusted 13 = .ok (.aload_n 1, 1) := by decide +kernel
theorem dX5_rusted_14 : decode cX5_rusted 14 = .ok (.iload_n 3, 1) := by decide +kernel
theorem dX5_rusted_15 : decode cX5_rusted 15 = .ok (.invokevirtual 66, 3) := by decide +kernel
theorem dX5_rusted_18 : decode cX5_rusted 18 = .ok (.ifCond .eq 9, 3) := by decide +kernel
theorem dX5_rusted_21 : decode cX5_rusted 21 = .ok (.iload_n 2, 1) := by decide +kernel
theorem dX5_rusted_22 : decode cX5_rusted 22 = .ok (.iconst 1, 1) := by decide +kernel
theorem dX5_rusted_23 : decode cX5_rusted 23 = .ok (.iload_n 3, 1) := by decide +kernel
theorem dX5_rusted_24 : decode cX5_rusted 24 = .ok (.ishl, 1) := by decide +kernel
theorem dX5_rusted_25 : decode cX5_rusted 25 = .ok (.ior, 1) := by decide +kernel
theorem dX5_rusted_26 : decode cX5_rusted 26 = .ok (.istore_n 2, 1) := by decide +kernel
theorem dX5_rusted_27 : decode cX5_rusted 27 = .ok (.iinc 3 1, 3) := by decide +kernel
theorem dX5_rusted_30 : decode cX5_rusted 30 = .ok (.goto (-26), 3) := by decide +kernel
theorem dX5_rusted_33 : decode cX5_rusted 33 = .ok (.iload_n 2, 1) := by decide +kernel
theorem dX5_rusted_34 : decode cX5_rusted 34 = .ok (.ireturn, 1) := by decide +kernel
theorem dX5_waitingAt_0 : decode cX5_waitingAt 0 = .ok (.iconst 0, 1) := by decide +kernel
theorem dX5_waitingAt_1 : decode cX5_waitingAt 1 = .ok (.istore_n 3, 1) := by decide +kernel
theorem dX5_waitingAt_2 : decode cX5_waitingAt 2 = .ok (.iconst 0, 1) := by decide +kernel
theorem dX5_waitingAt_3 : decode cX5_waitingAt 3 = .ok (.istore 4, 2) := by decide +kernel
theorem dX5_waitingAt_5 : decode cX5_waitingAt 5 = .ok (.iload 4, 2) := by decide +kernel
theorem dX5_waitingAt_7 : decode cX5_waitingAt 7 = .ok (.aload_n 1, 1) := by decide +kernel
theorem dX5_waitingAt_8 : decode cX5_waitingAt 8 = .ok (.getfield 70, 3) := by decide +kernel
theorem dX5_waitingAt_11 : decode cX5_waitingAt 11 = .ok (.if_icmp .ge 27, 3) := by decide +kernel
theorem dX5_waitingAt_14 : decode cX5_waitingAt 14 = .ok (.aload_n 0, 1) := by decide +kernel
theorem dX5_waitingAt_15 : decode cX5_waitingAt 15 = .ok (.getfield 9, 3) := by decide +kernel
theorem dX5_waitingAt_18 : decode cX5_waitingAt 18 = .ok (.iload 4, 2) := by decide +kernel
theorem dX5_waitingAt_20 : decode cX5_waitingAt 20 = .ok (.iaload, 1) := by decide +kernel
theorem dX5_waitingAt_21 : decode cX5_waitingAt 21 = .ok (.iload_n 2, 1) := by decide +kernel
theorem dX5_waitingAt_22 : decode cX5_waitingAt 22 = .ok (.if_icmp .ne 10, 3) := by decide +kernel
theorem dX5_waitingAt_25 : decode cX5_waitingAt 25 = .ok (.iload_n 3, 1) := by decide +kernel
theorem dX5_waitingAt_26 : decode cX5_waitingAt 26 = .ok (.iconst 1, 1) := by decide +kernel
theorem dX5_waitingAt_27 : decode cX5_waitingAt 27 = .ok (.iload 4, 2) := by decide +kernel
theorem dX5_waitingAt_29 : decode cX5_waitingAt 29 = .ok (.ishl, 1) := by decide +kernel
theorem dX5_waitingAt_30 : decode cX5_waitingAt 30 = .ok (.ior, 1) := by decide +kernel
theorem dX5_waitingAt_31 : decode cX5_waitingAt 31 = .ok (.istore_n 3, 1) := by decide +kernel
theorem dX5_waitingAt_32 : decode cX5_waitingAt 32 = .ok (.iinc 4 1, 3) := by decide +kernel
theorem dX5_waitingAt_35 : decode cX5_waitingAt 35 = .ok (.goto (-30), 3) := by decide +kernel
theorem dX5_waitingAt_38 : decode cX5_waitingAt 38 = .ok (.iload_n 3, 1) := by decide +kernel
theorem dX5_waitingAt_39 : decode cX5_waitingAt 39 = .ok (.ireturn, 1) := by decide +kernel
theorem dX5_waiting_0 : decode cX5_waiting 0 = .ok (.iconst 0, 1) := by decide +kernel
theorem dX5_waiting_1 : decode cX5_waiting 1 = .ok (.istore_n 2, 1) := by decide +kernel
theorem dX5_waiting_2 : decode cX5_waiting 2 = .ok (.iconst 0, 1) := by decide +kernel
theorem dX5_waiting_3 : decode cX5_waiting 3 = .ok (.istore_n 3, 1) := by decide +kernel
theorem dX5_waiting_4 : decode cX5_waiting 4 = .ok (.iload_n 3, 1) := by decide +kernel
theorem dX5_waiting_5 : decode cX5_waiting 5 = .ok (.aload_n 1, 1) := by decide +kernel
theorem dX5_waiting_6 : decode cX5_waiting 6 = .ok (.getfield 70, 3) := by decide +kernel
theorem dX5_waiting_9 : decode cX5_waiting 9 = .ok (.if_icmp .ge 25, 3) := by decide +kernel
theorem dX5_waiting_12 : decode cX5_waiting 12 = .ok (.aload_n 0, 1) := by decide +kernel
theorem dX5_waiting_13 : decode cX5_waiting 13 = .ok (.getfield 9, 3) := by decide +kernel
theorem dX5_waiting_16 : decode cX5_waiting 16 = .ok (.iload_n 3, 1) := by decide +kernel
theorem dX5_waiting_17 : decode cX5_waiting 17 = .ok (.iaload, 1) := by decide +kernel
theorem dX5_waiting_18 : decode cX5_waiting 18 = .ok (.iconst (-1), 1) := by decide +kernel
theorem dX5_waiting_19 : decode cX5_waiting 19 = .ok (.if_icmp .eq 9, 3) := by decide +kernel
theorem dX5_waiting_22 : decode cX5_waiting 22 = .ok (.iload_n 2, 1) := by decide +kernel
theorem dX5_waiting_23 : decode cX5_waiting 23 = .ok (.iconst 1, 1) := by decide +kernel
theorem dX5_waiting_24 : decode cX5_waiting 24 = .ok (.iload_n 3, 1) := by decide +kernel
theorem dX5_waiting_25 : decode cX5_waiting 25 = .ok (.ishl, 1) := by decide +kernel
theorem dX5_waiting_26 : decode cX5_waiting 26 = .ok (.ior, 1) := by decide +kernel
theorem dX5_waiting_27 : decode cX5_waiting 27 = .ok (.istore_n 2, 1) := by decide +kernel
theorem dX5_waiting_28 : decode cX5_waiting 28 = .ok (.iinc 3 1, 3) := by decide +kernel
theorem dX5_waiting_31 : decode cX5_waiting 31 = .ok (.goto (-27), 3) := by decide +kernel
theorem dX5_waiting_34 : decode cX5_waiting 34 = .ok (.iload_n 2, 1) := by decide +kernel
theorem dX5_waiting_35 : decode cX5_waiting 35 = .ok (.ireturn, 1) := by decide +kernel
theorem dX5_passHour_0 : decode cX5_passHour 0 = .ok (.iconst 0, 1) := by decide +kernel
theorem dX5_passHour_1 : decode cX5_passHour 1 = .ok (.istore_n 2, 1) := by decide +kernel
theorem dX5_passHour_2 : decode cX5_passHour 2 = .ok (.iload_n 2, 1) := by decide +kernel
theorem dX5_passHour_3 : decode cX5_passHour 3 = .ok (.aload_n 1, 1) := by decide +kernel
theorem dX5_passHour_4 : decode cX5_passHour 4 = .ok (.getfield 63, 3) := by decide +kernel
theorem dX5_passHour_7 : decode cX5_passHour 7 = .ok (.if_icmp .ge 45, 3) := by decide +kernel
theorem dX5_passHour_10 : decode cX5_passHour 10 = .ok (.aload_n 0, 1) := by decide +kernel
theorem dX5_passHour_11 : decode cX5_passHour 11 = .ok (.aload_n 1, 1) := by decide +kernel
theorem dX5_passHour_12 : decode cX5_passHour 12 = .ok (.iload_n 2, 1) := by decide +kernel
theorem dX5_passHour_13 : decode cX5_passHour 13 = .ok (.invokevirtual 66, 3) := by decide +kernel
theorem dX5_passHour_16 : decode cX5_passHour 16 = .ok (.ifCond .ne 30, 3) := by decide +kernel
theorem dX5_passHour_19 : decode cX5_passHour 19 = .ok (.aload_n 0, 1) := by decide +kernel
theorem dX5_passHour_20 : decode cX5_passHour 20 = .ok (.getfield 15, 3) := by decide +kernel
theorem dX5_passHour_23 : decode cX5_passHour 23 = .ok (.iload_n 2, 1) := by decide +kernel
theorem dX5_passHour_24 : decode cX5_passHour 24 = .ok (.aload_n 0, 1) := by decide +kernel
theorem dX5_passHour_25 : decode cX5_passHour 25 = .ok (.aload_n 1, 1) := by decide +kernel
theorem dX5_passHour_26 : decode cX5_passHour 26 = .ok (.iload_n 2, 1) := by decide +kernel
theorem dX5_passHour_27 : decode cX5_passHour 27 = .ok (.invokevirtual 73, 3) := by decide +kernel
theorem dX5_passHour_30 : decode cX5_passHour 30 = .ok (.ifCond .eq 7, 3) := by decide +kernel
theorem dX5_passHour_33 : decode cX5_passHour 33 = .ok (.iconst 0, 1) := by decide +kernel
theorem dX5_passHour_34 : decode cX5_passHour 34 = .ok (.goto 11, 3) := by decide +kernel
theorem dX5_passHour_37 : decode cX5_passHour 37 = .ok (.aload_n 0, 1) := by decide +kernel
theorem dX5_passHour_38 : decode cX5_passHour 38 = .ok (.getfield 15, 3) := by decide +kernel
theorem dX5_passHour_41 : decode cX5_passHour 41 = .ok (.iload_n 2, 1) := by decide +kernel
theorem dX5_passHour_42 : decode cX5_passHour 42 = .ok (.iaload, 1) := by decide +kernel
theorem dX5_passHour_43 : decode cX5_passHour 43 = .ok (.iconst 1, 1) := by decide +kernel
theorem dX5_passHour_44 : decode cX5_passHour 44 = .ok (.iadd, 1) := by decide +kernel
theorem dX5_passHour_45 : decode cX5_passHour 45 = .ok (.iastore, 1) := by decide +kernel
theorem dX5_passHour_46 : decode cX5_passHour 46 = .ok (.iinc 2 1, 3) := by decide +kernel
theorem dX5_passHour_49 : decode cX5_passHour 49 = .ok (.goto (-47), 3) := by decide +kernel
theorem dX5_passHour_52 : decode cX5_passHour 52 = .ok (.aload_n 0, 1) := by decide +kernel
theorem dX5_passHour_53 : decode cX5_passHour 53 = .ok (.dup, 1) := by decide +kernel
theorem dX5_passHour_54 : decode cX5_passHour 54 = .ok (.getfield 21, 3) := by decide +kernel
theorem dX5_passHour_57 : decode cX5_passHour 57 = .ok (.iconst 1, 1) := by decide +kernel
theorem dX5_passHour_58 : decode cX5_passHour 58 = .ok (.iadd, 1) := by decide +kernel
theorem dX5_passHour_59 : decode cX5_passHour 59 = .ok (.putfield 21, 3) := by decide +kernel
theorem dX5_passHour_62 : decode cX5_passHour 62 = .ok (.return_, 1) := by decide +kernel
theorem dX5_meetAt_0 : decode cX5_meetAt 0 = .ok (.aload_n 0, 1) := by decide +kernel
theorem dX5_meetAt_1 : decode cX5_meetAt 1 = .ok (.aload_n 1, 1) := by decide +kernel
theorem dX5_meetAt_2 : decode cX5_meetAt 2 = .ok (.iload_n 2, 1) := by decide +kernel
theorem dX5_meetAt_3 : decode cX5_meetAt 3 = .ok (.invokevirtual 76, 3) := by decide +kernel
theorem dX5_meetAt_6 : decode cX5_meetAt 6 = .ok (.istore_n 3, 1) := by decide +kernel
theorem dX5_meetAt_7 : decode cX5_meetAt 7 = .ok (.iconst (-1), 1) := by decide +kernel
theorem dX5_meetAt_8 : decode cX5_meetAt 8 = .ok (.istore 4, 2) := by decide +kernel
theorem dX5_meetAt_10 : decode cX5_meetAt 10 = .ok (.iconst (-1), 1) := by decide +kernel
theorem dX5_meetAt_11 : decode cX5_meetAt 11 = .ok (.istore 5, 2) := by decide +kernel
theorem dX5_meetAt_13 : decode cX5_meetAt 13 = .ok (.iconst 0, 1) := by decide +kernel
theorem dX5_meetAt_14 : decode cX5_meetAt 14 = .ok (.istore 6, 2) := by decide +kernel
theorem dX5_meetAt_16 : decode cX5_meetAt 16 = .ok (.iconst 0, 1) := by decide +kernel
theorem dX5_meetAt_17 : decode cX5_meetAt 17 = .ok (.istore 7, 2) := by decide +kernel
theorem dX5_meetAt_19 : decode cX5_meetAt 19 = .ok (.iload 7, 2) := by decide +kernel
theorem dX5_meetAt_21 : decode cX5_meetAt 21 = .ok (.aload_n 1, 1) := by decide +kernel
theorem dX5_meetAt_22 : decode cX5_meetAt 22 = .ok (.getfield 70, 3) := by decide +kernel
theorem dX5_meetAt_25 : decode cX5_meetAt 25 = .ok (.if_icmp .ge 100, 3) := by decide +kernel
theorem dX5_meetAt_28 : decode cX5_meetAt 28 = .ok (.iload_n 3, 1) := by decide +kernel
theorem dX5_meetAt_29 : decode cX5_meetAt 29 = .ok (.iload 7, 2) := by decide +kernel
theorem dX5_meetAt_31 : decode cX5_meetAt 31 = .ok (.ishr, 1) := by decide +kernel
theorem dX5_meetAt_32 : decode cX5_meetAt 32 = .ok (.iconst 1, 1) := by decide +kernel
theorem dX5_meetAt_33 : decode cX5_meetAt 33 = .ok (.iand, 1) := by decide +kernel
theorem dX5_meetAt_34 : decode cX5_meetAt 34 = .ok (.iconst 1, 1) := by decide +kernel
theorem dX5_meetAt_35 : decode cX5_meetAt 35 = .ok (.if_icmp .ne 18, 3) := by decide +kernel
theorem dX5_meetAt_38 : decode cX5_meetAt 38 = .ok (.iload_n 3, 1) := by decide +kernel
theorem dX5_meetAt_39 : decode cX5_meetAt 39 = .ok (.aload_n 1, 1) := by decide +kernel
theorem dX5_meetAt_40 : decode cX5_meetAt 40 = .ok (.iload 7, 2) := by decide +kernel
theorem dX5_meetAt_42 : decode cX5_meetAt 42 = .ok (.aload_n 0, 1) := by decide +kernel
theorem dX5_meetAt_43 : decode cX5_meetAt 43 = .ok (.getfield 36, 3) := by decide +kernel
theorem dX5_meetAt_46 : decode cX5_meetAt 46 = .ok (.invokevirtual 80, 3) := by decide +kernel
theorem dX5_meetAt_49 : decode cX5_meetAt 49 = .ok (.iand, 1) := by decide +kernel
theorem dX5_meetAt_50 : decode cX5_meetAt 50 = .ok (.goto 4, 3) := by decide +kernel
theorem dX5_meetAt_53 : decode cX5_meetAt 53 = .ok (.iconst 0, 1) := by decide +kernel
theorem dX5_meetAt_54 : decode cX5_meetAt 54 = .ok (.istore 8, 2) := by decide +kernel
theorem dX5_meetAt_56 : decode cX5_meetAt 56 = .ok (.iload 7, 2) := by decide +kernel
theorem dX5_meetAt_58 : decode cX5_meetAt 58 = .ok (.iconst 1, 1) := by decide +kernel
theorem dX5_meetAt_59 : decode cX5_meetAt 59 = .ok (.iadd, 1) := by decide +kernel
theorem dX5_meetAt_60 : decode cX5_meetAt 60 = .ok (.istore 9, 2) := by decide +kernel
theorem dX5_meetAt_62 : decode cX5_meetAt 62 = .ok (.iload 9, 2) := by decide +kernel
theorem dX5_meetAt_64 : decode cX5_meetAt 64 = .ok (.aload_n 1, 1) := by decide +kernel
theorem dX5_meetAt_65 : decode cX5_meetAt 65 = .ok (.getfield 70, 3) := by decide +kernel
theorem dX5_meetAt_68 : decode cX5_meetAt 68 = .ok (.if_icmp .ge 51, 3) := by decide +kernel
theorem dX5_meetAt_71 : decode cX5_meetAt 71 = .ok (.iload 8, 2) := by decide +kernel
theorem dX5_meetAt_73 : decode cX5_meetAt 73 = .ok (.iload 9, 2) := by decide +kernel
theorem dX5_meetAt_75 : decode cX5_meetAt 75 = .ok (.ishr, 1) := by decide +kernel
theorem dX5_meetAt_76 : decode cX5_meetAt 76 = .ok (.iconst 1, 1) := by decide +kernel
theorem dX5_meetAt_77 : decode cX5_meetAt 77 = .ok (.iand, 1) := by decide +kernel
theorem dX5_meetAt_78 : decode cX5_meetAt 78 = .ok (.iconst 1, 1) := by decide +kernel
theorem dX5_meetAt_79 : decode cX5_meetAt 79 = .ok (.if_icmp .ne 34, 3) := by decide +kernel
theorem dX5_meetAt_82 : decode cX5_meetAt 82 = .ok (.aload_n 1, 1) := by decide +kernel
theorem dX5_meetAt_83 : decode cX5_meetAt 83 = .ok (.iload 7, 2) := by decide +kernel
theorem dX5_meetAt_85 : decode cX5_meetAt 85 = .ok (.iload 9, 2) := by decide +kernel
theorem dX5_meetAt_87 : decode cX5_meetAt 87 = .ok (.invokevirtual 84, 3) := by decide +kernel
theorem dX5_meetAt_90 : decode cX5_meetAt 90 = .ok (.iload 6, 2) := by decide +kernel
theorem dX5_meetAt_92 : decode cX5_meetAt 92 = .ok (.if_icmp .le 21, 3) := by decide +kernel
theorem dX5_meetAt_95 : decode cX5_meetAt 95 = .ok (.iload 7, 2) := by decide +kernel
theorem dX5_meetAt_97 : decode cX5_meetAt 97 = .ok (.istore 4, 2) := by decide +kernel
theorem dX5_meetAt_99 : decode cX5_meetAt 99 = .ok (.iload 9, 2) := by decide +kernel
theorem dX5_meetAt_101 : decode cX5_meetAt 101 = .ok (.istore 5, 2) := by decide +kernel
theorem dX5_meetAt_103 : decode cX5_meetAt 103 = .ok (.aload_n 1, 1) := by decide +kernel
theorem dX5_meetAt_104 : decode cX5_meetAt 104 = .ok (.iload 7, 2) := by decide +kernel
theorem dX5_meetAt_106 : decode cX5_meetAt 106 = .ok (.iload 9, 2) := by decide +kernel
theorem dX5_meetAt_108 : decode cX5_meetAt 108 = .ok (.invokevirtual 84, 3) := by decide +kernel
theorem dX5_meetAt_111 : decode cX5_meetAt 111 = .ok (.istore 6, 2) := by decide +kernel
theorem dX5_meetAt_113 : decode cX5_meetAt 113 = .ok (.iinc 9 1, 3) := by decide +kernel
theorem dX5_meetAt_116 : decode cX5_meetAt 116 = .ok (.goto (-54), 3) := by decide +kernel
theorem dX5_meetAt_119 : decode cX5_meetAt 119 = .ok (.iinc 7 1, 3) := by decide +kernel
theorem dX5_meetAt_122 : decode cX5_meetAt 122 = .ok (.goto (-103), 3) := by decide +kernel
theorem dX5_meetAt_125 : decode cX5_meetAt 125 = .ok (.iload 4, 2) := by decide +kernel
theorem dX5_meetAt_127 : decode cX5_meetAt 127 = .ok (.iconst (-1), 1) := by decide +kernel
theorem dX5_meetAt_128 : decode cX5_meetAt 128 = .ok (.if_icmp .eq 9, 3) := by decide +kernel
theorem dX5_meetAt_131 : decode cX5_meetAt 131 = .ok (.iload 5, 2) := by decide +kernel
theorem dX5_meetAt_133 : decode cX5_meetAt 133 = .ok (.iconst (-1), 1) := by decide +kernel
theorem dX5_meetAt_134 : decode cX5_meetAt 134 = .ok (.if_icmp .ne 5, 3) := by decide +kernel
theorem dX5_meetAt_137 : decode cX5_meetAt 137 = .ok (.iconst 0, 1) := by decide +kernel
theorem dX5_meetAt_138 : decode cX5_meetAt 138 = .ok (.ireturn, 1) := by decide +kernel
theorem dX5_meetAt_139 : decode cX5_meetAt 139 = .ok (.aload_n 0, 1) := by decide +kernel
theorem dX5_meetAt_140 : decode cX5_meetAt 140 = .ok (.iload 4, 2) := by decide +kernel
theorem dX5_meetAt_142 : decode cX5_meetAt 142 = .ok (.iload 5, 2) := by decide +kernel
theorem dX5_meetAt_144 : decode cX5_meetAt 144 = .ok (.invokevirtual 87, 3) := by decide +kernel
theorem dX5_meetAt_147 : decode cX5_meetAt 147 = .ok (.iconst 1, 1) := by decide +kernel
theorem dX5_meetAt_148 : decode cX5_meetAt 148 = .ok (.ireturn, 1) := by decide +kernel
theorem dX5_meet_0 : decode cX5_meet 0 = .ok (.iconst 1, 1) := by decide +kernel
theorem dX5_meet_1 : decode cX5_meet 1 = .ok (.iload_n 1, 1) := by decide +kernel
theorem dX5_meet_2 : decode cX5_meet 2 = .ok (.ishl, 1) := by decide +kernel
theorem dX5_meet_3 : decode cX5_meet 3 = .ok (.iconst 1, 1) := by decide +kernel
theorem dX5_meet_4 : decode cX5_meet 4 = .ok (.iload_n 2, 1) := by decide +kernel
theorem dX5_meet_5 : decode cX5_meet 5 = .ok (.ishl, 1) := by decide +kernel
theorem dX5_meet_6 : decode cX5_meet 6 = .ok (.ior, 1) := by decide +kernel
theorem dX5_meet_7 : decode cX5_meet 7 = .ok (.istore_n 3, 1) := by decide +kernel
theorem dX5_meet_8 : decode cX5_meet 8 = .ok (.aload_n 0, 1) := by decide +kernel
theorem dX5_meet_9 : decode cX5_meet 9 = .ok (.dup, 1) := by decide +kernel
theorem dX5_meet_10 : decode cX5_meet 10 = .ok (.getfield 36, 3) := by decide +kernel
theorem dX5_meet_13 : decode cX5_meet 13 = .ok (.iload_n 3, 1) := by decide +kernel
theorem dX5_meet_14 : decode cX5_meet 14 = .ok (.ixor, 1) := by decide +kernel
theorem dX5_meet_15 : decode cX5_meet 15 = .ok (.putfield 36, 3) := by decide +kernel
theorem dX5_meet_18 : decode cX5_meet 18 = .ok (.aload_n 0, 1) := by decide +kernel
theorem dX5_meet_19 : decode cX5_meet 19 = .ok (.getfield 42, 3) := by decide +kernel
theorem dX5_meet_22 : decode cX5_meet 22 = .ok (.iload_n 3, 1) := by decide +kernel
theorem dX5_meet_23 : decode cX5_meet 23 = .ok (.iand, 1) := by decide +kernel
theorem dX5_meet_24 : decode cX5_meet 24 = .ok (.ifCond .eq 13, 3) := by decide +kernel
theorem dX5_meet_27 : decode cX5_meet 27 = .ok (.aload_n 0, 1) := by decide +kernel
theorem dX5_meet_28 : decode cX5_meet 28 = .ok (.dup, 1) := by decide +kernel
theorem dX5_meet_29 : decode cX5_meet 29 = .ok (.getfield 42, 3) := by decide +kernel
theorem dX5_meet_32 : decode cX5_meet 32 = .ok (.iload_n 3, 1) := by decide +kernel
theorem dX5_meet_33 : decode cX5_meet 33 = .ok (.ior, 1) := by decide +kernel
theorem dX5_meet_34 : decode cX5_meet 34 = .ok (.putfield 42, 3) := by decide +kernel
theorem dX5_meet_37 : decode cX5_meet 37 = .ok (.aload_n 0, 1) := by decide +kernel
theorem dX5_meet_38 : decode cX5_meet 38 = .ok (.getfield 9, 3) := by decide +kernel
theorem dX5_meet_41 : decode cX5_meet 41 = .ok (.iload_n 1, 1) := by decide +kernel
theorem dX5_meet_42 : decode cX5_meet 42 = .ok (.iconst (-1), 1) := by decide +kernel
theorem dX5_meet_43 : decode cX5_meet 43 = .ok (.iastore, 1) := by decide +kernel
theorem dX5_meet_44 : decode cX5_meet 44 = .ok (.aload_n 0, 1) := by decide +kernel
theorem dX5_meet_45 : decode cX5_meet 45 = .ok (.getfield 9, 3) := by decide +kernel
theorem dX5_meet_48 : decode cX5_meet 48 = .ok (.iload_n 2, 1) := by decide +kernel
theorem dX5_meet_49 : decode cX5_meet 49 = .ok (.iconst (-1), 1) := by decide +kernel
theorem dX5_meet_50 : decode cX5_meet 50 = .ok (.iastore, 1) := by decide +kernel
theorem dX5_meet_51 : decode cX5_meet 51 = .ok (.aload_n 0, 1) := by decide +kernel
theorem dX5_meet_52 : decode cX5_meet 52 = .ok (.dup, 1) := by decide +kernel
theorem dX5_meet_53 : decode cX5_meet 53 = .ok (.getfield 25, 3) := by decide +kernel
theorem dX5_meet_56 : decode cX5_meet 56 = .ok (.iconst 1, 1) := by decide +kernel
theorem dX5_meet_57 : decode cX5_meet 57 = .ok (.iadd, 1) := by decide +kernel
theorem dX5_meet_58 : decode cX5_meet 58 = .ok (.putfield 25, 3) := by decide +kernel
theorem dX5_meet_61 : decode cX5_meet 61 = .ok (.aload_n 0, 1) := by decide +kernel
theorem dX5_meet_62 : decode cX5_meet 62 = .ok (.getfield 45, 3) := by decide +kernel
theorem dX5_meet_65 : decode cX5_meet 65 = .ok (.bipush 20, 2) := by decide +kernel
theorem dX5_meet_67 : decode cX5_meet 67 = .ok (.if_icmp .lt 24, 3) := by decide +kernel
theorem dX5_meet_70 : decode cX5_meet 70 = .ok (.aload_n 0, 1) := by decide +kernel
theorem dX5_meet_71 : decode cX5_meet 71 = .ok (.getfield 18, 3) := by decide +kernel
theorem dX5_meet_74 : decode cX5_meet 74 = .ok (.iconst 1, 1) := by decide +kernel
theorem dX5_meet_75 : decode cX5_meet 75 = .ok (.aload_n 0, 1) := by decide +kernel
theorem dX5_meet_76 : decode cX5_meet 76 = .ok (.getfield 18, 3) := by decide +kernel
theorem dX5_meet_79 : decode cX5_meet 79 = .ok (.iconst 0, 1) := by decide +kernel
theorem dX5_meet_80 : decode cX5_meet 80 = .ok (.bipush 19, 2) := by decide +kernel
theorem dX5_meet_82 : decode cX5_meet 82 = .ok (.invokestatic 54, 3) := by decide +kernel
theorem dX5_meet_85 : decode cX5_meet 85 = .ok (.aload_n 0, 1) := by decide +kernel
theorem dX5_meet_86 : decode cX5_meet 86 = .ok (.bipush 19, 2) := by decide +kernel
theorem dX5_meet_88 : decode cX5_meet 88 = .ok (.putfield 45, 3) := by decide +kernel
theorem dX5_meet_91 : decode cX5_meet 91 = .ok (.aload_n 0, 1) := by decide +kernel
theorem dX5_meet_92 : decode cX5_meet 92 = .ok (.getfield 18, 3) := by decide +kernel
theorem dX5_meet_95 : decode cX5_meet 95 = .ok (.aload_n 0, 1) := by decide +kernel
theorem dX5_meet_96 : decode cX5_meet 96 = .ok (.getfield 45, 3) := by decide +kernel
theorem dX5_meet_99 : decode cX5_meet 99 = .ok (.bipush 10, 2) := by decide +kernel
theorem dX5_meet_101 : decode cX5_meet 101 = .ok (.iload_n 1, 1) := by decide +kernel
theorem dX5_meet_102 : decode cX5_meet 102 = .ok (.imul, 1) := by decide +kernel
theorem dX5_meet_103 : decode cX5_meet 103 = .ok (.iload_n 2, 1) := by decide +kernel
theorem dX5_meet_104 : decode cX5_meet 104 = .ok (.iadd, 1) := by decide +kernel
theorem dX5_meet_105 : decode cX5_meet 105 = .ok (.iastore, 1) := by decide +kernel
theorem dX5_meet_106 : decode cX5_meet 106 = .ok (.aload_n 0, 1) := by decide +kernel
theorem dX5_meet_107 : decode cX5_meet 107 = .ok (.dup, 1) := by decide +kernel
theorem dX5_meet_108 : decode cX5_meet 108 = .ok (.getfield 45, 3) := by decide +kernel
theorem dX5_meet_111 : decode cX5_meet 111 = .ok (.iconst 1, 1) := by decide +kernel
theorem dX5_meet_112 : decode cX5_meet 112 = .ok (.iadd, 1) := by decide +kernel
theorem dX5_meet_113 : decode cX5_meet 113 = .ok (.putfield 45, 3) := by decide +kernel
theorem dX5_meet_116 : decode cX5_meet 116 = .ok (.return_, 1) := by decide +kernel
theorem dX5_madeIllBy_0 : decode cX5_madeIllBy 0 = .ok (.iconst 1, 1) := by decide +kernel
theorem dX5_madeIllBy_1 : decode cX5_madeIllBy 1 = .ok (.iload_n 1, 1) := by decide +kernel
theorem dX5_madeIllBy_2 : decode cX5_madeIllBy 2 = .ok (.ishl, 1) := by decide +kernel
theorem dX5_madeIllBy_3 : decode cX5_madeIllBy 3 = .ok (.istore_n 2, 1) := by decide +kernel
theorem dX5_madeIllBy_4 : decode cX5_madeIllBy 4 = .ok (.iconst 0, 1) := by decide +kernel
theorem dX5_madeIllBy_5 : decode cX5_madeIllBy 5 = .ok (.istore_n 3, 1) := by decide +kernel
theorem dX5_madeIllBy_6 : decode cX5_madeIllBy 6 = .ok (.iload_n 3, 1) := by decide +kernel
theorem dX5_madeIllBy_7 : decode cX5_madeIllBy 7 = .ok (.aload_n 0, 1) := by decide +kernel
theorem dX5_madeIllBy_8 : decode cX5_madeIllBy 8 = .ok (.getfield 45, 3) := by decide +kernel
theorem dX5_madeIllBy_11 : decode cX5_madeIllBy 11 = .ok (.if_icmp .ge 46, 3) := by decide +kernel
theorem dX5_madeIllBy_14 : decode cX5_madeIllBy 14 = .ok (.iconst 1, 1) := by decide +kernel
theorem dX5_madeIllBy_15 : decode cX5_madeIllBy 15 = .ok (.aload_n 0, 1) := by decide +kernel
theorem dX5_madeIllBy_16 : decode cX5_madeIllBy 16 = .ok (.getfield 18, 3) := by decide +kernel
theorem dX5_madeIllBy_19 : decode cX5_madeIllBy 19 = .ok (.iload_n 3, 1) := by decide +kernel
theorem dX5_madeIllBy_20 : decode cX5_madeIllBy 20 = .ok (.iaload, 1) := by decide +kernel
theorem dX5_madeIllBy_21 : decode cX5_madeIllBy 21 = .ok (.bipush 10, 2) := by decide +kernel
theorem dX5_madeIllBy_23 : decode cX5_madeIllBy 23 = .ok (.idiv, 1) := by decide +kernel
theorem dX5_madeIllBy_24 : decode cX5_madeIllBy 24 = .ok (.ishl, 1) := by decide +kernel
theorem dX5_madeIllBy_25 : decode cX5_madeIllBy 25 = .ok (.iconst 1, 1) := by decide +kernel
theorem dX5_madeIllBy_26 : decode cX5_madeIllBy 26 = .ok (.aload_n 0, 1) := by decide +kernel
theorem dX5_madeIllBy_27 : decode cX5_madeIllBy 27 = .ok (.getfield 18, 3) := by decide +kernel
theorem dX5_madeIllBy_30 : decode cX5_madeIllBy 30 = .ok (.iload_n 3, 1) := by decide +kernel
