theorem dX4_init_0 : decode cX4_init 0 = .ok (.aload_n 0, 1) := by decide +kernel
theorem dX4_init_1 : decode cX4_init 1 = .ok (.invokespecial 3, 3) := by decide +kernel
theorem dX4_init_4 : decode cX4_init 4 = .ok (.aload_n 0, 1) := by decide +kernel
theorem dX4_init_5 : decode cX4_init 5 = .ok (.bipush 16, 2) := by decide +kernel
theorem dX4_init_7 : decode cX4_init 7 = .ok (.newarray .int, 2) := by decide +kernel
theorem dX4_init_9 : decode cX4_init 9 = .ok (.putfield 9, 3) := by decide +kernel
theorem dX4_init_12 : decode cX4_init 12 = .ok (.iconst 0, 1) := by decide +kernel
theorem dX4_init_13 : decode cX4_init 13 = .ok (.istore_n 1, 1) := by decide +kernel
theorem dX4_init_14 : decode cX4_init 14 = .ok (.iload_n 1, 1) := by decide +kernel
theorem dX4_init_15 : decode cX4_init 15 = .ok (.bipush 16, 2) := by decide +kernel
theorem dX4_init_17 : decode cX4_init 17 = .ok (.if_icmp .ge 16, 3) := by decide +kernel
theorem dX4_init_20 : decode cX4_init 20 = .ok (.aload_n 0, 1) := by decide +kernel
theorem dX4_init_21 : decode cX4_init 21 = .ok (.getfield 9, 3) := by decide +kernel
theorem dX4_init_24 : decode cX4_init 24 = .ok (.iload_n 1, 1) := by decide +kernel
theorem dX4_init_25 : decode cX4_init 25 = .ok (.iload_n 1, 1) := by decide +kernel
theorem dX4_init_26 : decode cX4_init 26 = .ok (.iastore, 1) := by decide +kernel
theorem dX4_init_27 : decode cX4_init 27 = .ok (.iinc 1 1, 3) := by decide +kernel
theorem dX4_init_30 : decode cX4_init 30 = .ok (.goto (-16), 3) := by decide +kernel
theorem dX4_init_33 : decode cX4_init 33 = .ok (.return_, 1) := by decide +kernel
theorem dX4_of_0 : decode cX4_of 0 = .ok (.aload_n 0, 1) := by decide +kernel
theorem dX4_of_1 : decode cX4_of 1 = .ok (.getfield 9, 3) := by decide +kernel
theorem dX4_of_4 : decode cX4_of 4 = .ok (.iload_n 1, 1) := by decide +kernel
theorem dX4_of_5 : decode cX4_of 5 = .ok (.bipush 15, 2) := by decide +kernel
theorem dX4_of_7 : decode cX4_of 7 = .ok (.iand, 1) := by decide +kernel
theorem dX4_of_8 : decode cX4_of 8 = .ok (.iaload, 1) := by decide +kernel
theorem dX4_of_9 : decode cX4_of 9 = .ok (.ireturn, 1) := by decide +kernel
theorem dX4_pair_0 : decode cX4_pair 0 = .ok (.aload_n 0, 1) := by decide +kernel
theorem dX4_pair_1 : decode cX4_pair 1 = .ok (.iload_n 1, 1) := by decide +kernel
theorem dX4_pair_2 : decode cX4_pair 2 = .ok (.invokevirtual 15, 3) := by decide +kernel
theorem dX4_pair_5 : decode cX4_pair 5 = .ok (.aload_n 0, 1) := by decide +kernel
theorem dX4_pair_6 : decode cX4_pair 6 = .ok (.iload_n 2, 1) := by decide +kernel
theorem dX4_pair_7 : decode cX4_pair 7 = .ok (.invokevirtual 15, 3) := by decide +kernel
theorem dX4_pair_10 : decode cX4_pair 10 = .ok (.aload_n 0, 1) := by decide +kernel
theorem dX4_pair_11 : decode cX4_pair 11 = .ok (.getfield 9, 3) := by decide +kernel
theorem dX4_pair_14 : decode cX4_pair 14 = .ok (.iload_n 1, 1) := by decide +kernel
theorem dX4_pair_15 : decode cX4_pair 15 = .ok (.bipush 15, 2) := by decide +kernel
theorem dX4_pair_17 : decode cX4_pair 17 = .ok (.iand, 1) := by decide +kernel
theorem dX4_pair_18 : decode cX4_pair 18 = .ok (.iload_n 2, 1) := by decide +kernel
theorem dX4_pair_19 : decode cX4_pair 19 = .ok (.bipush 15, 2) := by decide +kernel
theorem dX4_pair_21 : decode cX4_pair 21 = .ok (.iand, 1) := by decide +kernel
theorem dX4_pair_22 : decode cX4_pair 22 = .ok (.iastore, 1) := by decide +kernel
theorem dX4_pair_23 : decode cX4_pair 23 = .ok (.aload_n 0, 1) := by decide +kernel
theorem dX4_pair_24 : decode cX4_pair 24 = .ok (.getfield 9, 3) := by decide +kernel
theorem dX4_pair_27 : decode cX4_pair 27 = .ok (.iload_n 2, 1) := by decide +kernel
theorem dX4_pair_28 : decode cX4_pair 28 = .ok (.bipush 15, 2) := by decide +kernel
theorem dX4_pair_30 : decode cX4_pair 30 = .ok (.iand, 1) := by decide +kernel
theorem dX4_pair_31 : decode cX4_pair 31 = .ok (.iload_n 1, 1) := by decide +kernel
theorem dX4_pair_32 : decode cX4_pair 32 = .ok (.bipush 15, 2) := by decide +kernel
theorem dX4_pair_34 : decode cX4_pair 34 = .ok (.iand, 1) := by decide +kernel
theorem dX4_pair_35 : decode cX4_pair 35 = .ok (.iastore, 1) := by decide +kernel
theorem dX4_pair_36 : decode cX4_pair 36 = .ok (.return_, 1) := by decide +kernel
theorem dX4_twos_0 : decode cX4_twos 0 = .ok (.iconst 0, 1) := by decide +kernel
theorem dX4_twos_1 : decode cX4_twos 1 = .ok (.istore_n 1, 1) := by decide +kernel
theorem dX4_twos_2 : decode cX4_twos 2 = .ok (.iconst 0, 1) := by decide +kernel
theorem dX4_twos_3 : decode cX4_twos 3 = .ok (.istore_n 2, 1) := by decide +kernel
theorem dX4_twos_4 : decode cX4_twos 4 = .ok (.iload_n 2, 1) := by decide +kernel
theorem dX4_twos_5 : decode cX4_twos 5 = .ok (.bipush 16, 2) := by decide +kernel
theorem dX4_twos_7 : decode cX4_twos 7 = .ok (.if_icmp .ge 27, 3) := by decide +kernel
theorem dX4_twos_10 : decode cX4_twos 10 = .ok (.iload_n 1, 1) := by decide +kernel
theorem dX4_twos_11 : decode cX4_twos 11 = .ok (.aload_n 0, 1) := by decide +kernel
theorem dX4_twos_12 : decode cX4_twos 12 = .ok (.getfield 9, 3) := by decide +kernel
theorem dX4_twos_15 : decode cX4_twos 15 = .ok (.iload_n 2, 1) := by decide +kernel
theorem dX4_twos_16 : decode cX4_twos 16 = .ok (.iaload, 1) := by decide +kernel
theorem dX4_twos_17 : decode cX4_twos 17 = .ok (.iload_n 2, 1) := by decide +kernel
theorem dX4_twos_18 : decode cX4_twos 18 = .ok (.if_icmp .ne 7, 3) := by decide +kernel
theorem dX4_twos_21 : decode cX4_twos 21 = .ok (.iconst 0, 1) := by decide +kernel
theorem dX4_twos_22 : decode cX4_twos 22 = .ok (.goto 4, 3) := by decide +kernel
theorem dX4_twos_25 : decode cX4_twos 25 = .ok (.iconst 1, 1) := by decide +kernel
theorem dX4_twos_26 : decode cX4_twos 26 = .ok (.iadd, 1) := by decide +kernel
theorem dX4_twos_27 : decode cX4_twos 27 = .ok (.istore_n 1, 1) := by decide +kernel
theorem dX4_twos_28 : decode cX4_twos 28 = .ok (.iinc 2 1, 3) := by decide +kernel
theorem dX4_twos_31 : decode cX4_twos 31 = .ok (.goto (-27), 3) := by decide +kernel
theorem dX4_twos_34 : decode cX4_twos 34 = .ok (.iload_n 1, 1) := by decide +kernel
theorem dX4_twos_35 : decode cX4_twos 35 = .ok (.iconst 2, 1) := by decide +kernel
theorem dX4_twos_36 : decode cX4_twos 36 = .ok (.idiv, 1) := by decide +kernel
theorem dX4_twos_37 : decode cX4_twos 37 = .ok (.ireturn, 1) := by decide +kernel
theorem dX4_part_0 : decode cX4_part 0 = .ok (.aload_n 0, 1) := by decide +kernel
theorem dX4_part_1 : decode cX4_part 1 = .ok (.iload_n 1, 1) := by decide +kernel
theorem dX4_part_2 : decode cX4_part 2 = .ok (.invokevirtual 19, 3) := by decide +kernel
theorem dX4_part_5 : decode cX4_part 5 = .ok (.istore_n 2, 1) := by decide +kernel
theorem dX4_part_6 : decode cX4_part 6 = .ok (.aload_n 0, 1) := by decide +kernel
theorem dX4_part_7 : decode cX4_part 7 = .ok (.getfield 9, 3) := by decide +kernel
theorem dX4_part_10 : decode cX4_part 10 = .ok (.iload_n 2, 1) := by decide +kernel
theorem dX4_part_11 : decode cX4_part 11 = .ok (.bipush 15, 2) := by decide +kernel
theorem dX4_part_13 : decode cX4_part 13 = .ok (.iand, 1) := by decide +kernel
theorem dX4_part_14 : decode cX4_part 14 = .ok (.iload_n 2, 1) := by decide +kernel
theorem dX4_part_15 : decode cX4_part 15 = .ok (.bipush 15, 2) := by decide +kernel
theorem dX4_part_17 : decode cX4_part 17 = .ok (.iand, 1) := by decide +kernel
theorem dX4_part_18 : decode cX4_part 18 = .ok (.iastore, 1) := by decide +kernel
theorem dX4_part_19 : decode cX4_part 19 = .ok (.aload_n 0, 1) := by decide +kernel
theorem dX4_part_20 : decode cX4_part 20 = .ok (.getfield 9, 3) := by decide +kernel
theorem dX4_part_23 : decode cX4_part 23 = .ok (.iload_n 1, 1) := by decide +kernel
theorem dX4_part_24 : decode cX4_part 24 = .ok (.bipush 15, 2) := by decide +kernel
theorem dX4_part_26 : decode cX4_part 26 = .ok (.iand, 1) := by decide +kernel
theorem dX4_part_27 : decode cX4_part 27 = .ok (.iload_n 1, 1) := by decide +kernel
theorem dX4_part_28 : decode cX4_part 28 = .ok (.bipush 15, 2) := by decide +kernel
theorem dX4_part_30 : decode cX4_part 30 = .ok (.iand, 1) := by decide +kernel
theorem dX4_part_31 : decode cX4_part 31 = .ok (.iastore, 1) := by decide +kernel
theorem dX4_part_32 : decode cX4_part 32 = .ok (.return_, 1) := by decide +kernel
theorem dX5_init_0 : decode cX5_init 0 = .ok (.aload_n 0, 1) := by decide +kernel
theorem dX5_init_1 : decode cX5_init 1 = .ok (.invokespecial 3, 3) := by decide +kernel
theorem dX5_init_4 : decode cX5_init 4 = .ok (.aload_n 0, 1) := by decide +kernel
theorem dX5_init_5 : decode cX5_init 5 = .ok (.bipush 8, 2) := by decide +kernel
theorem dX5_init_7 : decode cX5_init 7 = .ok (.newarray .int, 2) := by decide +kernel
theorem dX5_init_9 : decode cX5_init 9 = .ok (.putfield 9, 3) := by decide +kernel
theorem dX5_init_12 : decode cX5_init 12 = .ok (.aload_n 0, 1) := by decide +kernel
theorem dX5_init_13 : decode cX5_init 13 = .ok (.aload_n 1, 1) := by decide +kernel
theorem dX5_init_14 : decode cX5_init 14 = .ok (.putfield 15, 3) := by decide +kernel
theorem dX5_init_17 : decode cX5_init 17 = .ok (.return_, 1) := by decide +kernel
theorem dX5_fewestGuards_0 : decode cX5_fewestGuards 0 = .ok (.aload_n 0, 1) := by decide +kernel
theorem dX5_fewestGuards_1 : decode cX5_fewestGuards 1 = .ok (.iconst 0, 1) := by decide +kernel
theorem dX5_fewestGuards_2 : decode cX5_fewestGuards 2 = .ok (.putfield 19, 3) := by decide +kernel
theorem dX5_fewestGuards_5 : decode cX5_fewestGuards 5 = .ok (.iconst 0, 1) := by decide +kernel
theorem dX5_fewestGuards_6 : decode cX5_fewestGuards 6 = .ok (.istore_n 2, 1) := by decide +kernel
theorem dX5_fewestGuards_7 : decode cX5_fewestGuards 7 = .ok (.iload_n 2, 1) := by decide +kernel
theorem dX5_fewestGuards_8 : decode cX5_fewestGuards 8 = .ok (.bipush 8, 2) := by decide +kernel
theorem dX5_fewestGuards_10 : decode cX5_fewestGuards 10 = .ok (.if_icmp .ge 44, 3) := by decide +kernel
theorem dX5_fewestGuards_13 : decode cX5_fewestGuards 13 = .ok (.aload_n 1, 1) := by decide +kernel
theorem dX5_fewestGuards_14 : decode cX5_fewestGuards 14 = .ok (.iload_n 2, 1) := by decide +kernel
theorem dX5_fewestGuards_15 : decode cX5_fewestGuards 15 = .ok (.invokevirtual 23, 3) := by decide +kernel
theorem dX5_fewestGuards_18 : decode cX5_fewestGuards 18 = .ok (.ifCond .eq 30, 3) := by decide +kernel
theorem dX5_fewestGuards_21 : decode cX5_fewestGuards 21 = .ok (.aload_n 0, 1) := by decide +kernel
theorem dX5_fewestGuards_22 : decode cX5_fewestGuards 22 = .ok (.getfield 9, 3) := by decide +kernel
theorem dX5_fewestGuards_25 : decode cX5_fewestGuards 25 = .ok (.aload_n 0, 1) := by decide +kernel
theorem dX5_fewestGuards_26 : decode cX5_fewestGuards 26 = .ok (.getfield 19, 3) := by decide +kernel
theorem dX5_fewestGuards_29 : decode cX5_fewestGuards 29 = .ok (.bipush 7, 2) := by decide +kernel
theorem dX5_fewestGuards_31 : decode cX5_fewestGuards 31 = .ok (.iand, 1) := by decide +kernel
theorem dX5_fewestGuards_32 : decode cX5_fewestGuards 32 = .ok (.aload_n 1, 1) := by decide +kernel
theorem dX5_fewestGuards_33 : decode cX5_fewestGuards 33 = .ok (.iload_n 2, 1) := by decide +kernel
theorem dX5_fewestGuards_34 : decode cX5_fewestGuards 34 = .ok (.invokevirtual 29, 3) := by decide +kernel
theorem dX5_fewestGuards_37 : decode cX5_fewestGuards 37 = .ok (.iastore, 1) := by decide +kernel
theorem dX5_fewestGuards_38 : decode cX5_fewestGuards 38 = .ok (.aload_n 0, 1) := by decide +kernel
theorem dX5_fewestGuards_39 : decode cX5_fewestGuards 39 = .ok (.dup, 1) := by decide +kernel
theorem dX5_fewestGuards_40 : decode cX5_fewestGuards 40 = .ok (.getfield 19, 3) := by decide +kernel
theorem dX5_fewestGuards_43 : decode cX5_fewestGuards 43 = .ok (.iconst 1, 1) := by decide +kernel
theorem dX5_fewestGuards_44 : decode cX5_fewestGuards 44 = .ok (.iadd, 1) := by decide +kernel
theorem dX5_fewestGuards_45 : decode cX5_fewestGuards 45 = .ok (.putfield 19, 3) := by decide +kernel
theorem dX5_fewestGuards_48 : decode cX5_fewestGuards 48 = .ok (.iinc 2 1, 3) := by decide +kernel
theorem dX5_fewestGuards_51 : decode cX5_fewestGuards 51 = .ok (.goto (-44), 3) := by decide +kernel
theorem dX5_fewestGuards_54 : decode cX5_fewestGuards 54 = .ok (.aload_n 0, 1) := by decide +kernel
theorem dX5_fewestGuards_55 : decode cX5_fewestGuards 55 = .ok (.ldc 33, 2) := by decide +kernel
theorem dX5_fewestGuards_57 : decode cX5_fewestGuards 57 = .ok (.invokevirtual 34, 3) := by decide +kernel
theorem dX5_fewestGuards_60 : decode cX5_fewestGuards 60 = .ok (.ifCond .ne 6, 3) := by decide +kernel
theorem dX5_fewestGuards_63 : decode cX5_fewestGuards 63 = .ok (.bipush (-2), 2) := by decide +kernel
theorem dX5_fewestGuards_65 : decode cX5_fewestGuards 65 = .ok (.ireturn, 1) := by decide +kernel
theorem dX5_fewestGuards_66 : decode cX5_fewestGuards 66 = .ok (.iconst 0, 1) := by decide +kernel
theorem dX5_fewestGuards_67 : decode cX5_fewestGuards 67 = .ok (.istore_n 2, 1) := by decide +kernel
theorem dX5_fewestGuards_68 : decode cX5_fewestGuards 68 = .ok (.iload_n 2, 1) := by decide +kernel
theorem dX5_fewestGuards_69 : decode cX5_fewestGuards 69 = .ok (.bipush 8, 2) := by decide +kernel
theorem dX5_fewestGuards_71 : decode cX5_fewestGuards 71 = .ok (.if_icmp .ge 23, 3) := by decide +kernel
theorem dX5_fewestGuards_74 : decode cX5_fewestGuards 74 = .ok (.aload_n 0, 1) := by decide +kernel
theorem dX5_fewestGuards_75 : decode cX5_fewestGuards 75 = .ok (.iload_n 2, 1) := by decide +kernel
theorem dX5_fewestGuards_76 : decode cX5_fewestGuards 76 = .ok (.invokevirtual 37, 3) := by decide +kernel
theorem dX5_fewestGuards_79 : decode cX5_fewestGuards 79 = .ok (.istore_n 3, 1) := by decide +kernel
theorem dX5_fewestGuards_80 : decode cX5_fewestGuards 80 = .ok (.iload_n 3, 1) := by decide +kernel
theorem dX5_fewestGuards_81 : decode cX5_fewestGuards 81 = .ok (.bipush (-2), 2) := by decide +kernel
theorem dX5_fewestGuards_83 : decode cX5_fewestGuards 83 = .ok (.if_icmp .eq 5, 3) := by decide +kernel
theorem dX5_fewestGuards_86 : decode cX5_fewestGuards 86 = .ok (.iload_n 3, 1) := by decide +kernel
theorem dX5_fewestGuards_87 : decode cX5_fewestGuards 87 = .ok (.ireturn, 1) := by decide +kernel
theorem dX5_fewestGuards_88 : decode cX5_fewestGuards 88 = .ok (.iinc 2 1, 3) := by decide +kernel
theorem dX5_fewestGuards_91 : decode cX5_fewestGuards 91 = .ok (.goto (-23), 3) := by decide +kernel
theorem dX5_fewestGuards_94 : decode cX5_fewestGuards 94 = .ok (.bipush (-2), 2) := by decide +kernel
theorem dX5_fewestGuards_96 : decode cX5_fewestGuards 96 = .ok (.ireturn, 1) := by decide +kernel
theorem dX5_firstGuards_0 : decode cX5_firstGuards 0 = .ok (.iconst 1, 1) := by decide +kernel
theorem dX5_firstGuards_1 : decode cX5_firstGuards 1 = .ok (.iload_n 1, 1) := by decide +kernel
theorem dX5_firstGuards_2 : decode cX5_firstGuards 2 = .ok (.ishl, 1) := by decide +kernel
theorem dX5_firstGuards_3 : decode cX5_firstGuards 3 = .ok (.iconst 1, 1) := by decide +kernel
theorem dX5_firstGuards_4 : decode cX5_firstGuards 4 = .ok (.isub, 1) := by decide +kernel
theorem dX5_firstGuards_5 : decode cX5_firstGuards 5 = .ok (.istore_n 2, 1) := by decide +kernel
theorem dX5_firstGuards_6 : decode cX5_firstGuards 6 = .ok (.iconst 0, 1) := by decide +kernel
theorem dX5_firstGuards_7 : decode cX5_firstGuards 7 = .ok (.istore_n 3, 1) := by decide +kernel
theorem dX5_firstGuards_8 : decode cX5_firstGuards 8 = .ok (.iload_n 3, 1) := by decide +kernel
theorem dX5_firstGuards_9 : decode cX5_firstGuards 9 = .ok (.ldc 33, 2) := by decide +kernel
theorem dX5_firstGuards_11 : decode cX5_firstGuards 11 = .ok (.if_icmp .gt 58, 3) := by decide +kernel
theorem dX5_firstGuards_14 : decode cX5_firstGuards 14 = .ok (.iload_n 2, 1) := by decide +kernel
theorem dX5_firstGuards_15 : decode cX5_firstGuards 15 = .ok (.ldc 33, 2) := by decide +kernel
theorem dX5_firstGuards_17 : decode cX5_firstGuards 17 = .ok (.if_icmp .gt 52, 3) := by decide +kernel
theorem dX5_firstGuards_20 : decode cX5_firstGuards 20 = .ok (.aload_n 0, 1) := by decide +kernel
theorem dX5_firstGuards_21 : decode cX5_firstGuards 21 = .ok (.iload_n 2, 1) := by decide +kernel
theorem dX5_firstGuards_22 : decode cX5_firstGuards 22 = .ok (.invokevirtual 34, 3) := by decide +kernel
theorem dX5_firstGuards_25 : decode cX5_firstGuards 25 = .ok (.ifCond .eq 5, 3) := by decide +kernel
theorem dX5_firstGuards_28 : decode cX5_firstGuards 28 = .ok (.iload_n 2, 1) := by decide +kernel
theorem dX5_firstGuards_29 : decode cX5_firstGuards 29 = .ok (.ireturn, 1) := by decide +kernel
theorem dX5_firstGuards_30 : decode cX5_firstGuards 30 = .ok (.iload_n 2, 1) := by decide +kernel
theorem dX5_firstGuards_31 : decode cX5_firstGuards 31 = .ok (.iload_n 2, 1) := by decide +kernel
theorem dX5_firstGuards_32 : decode cX5_firstGuards 32 = .ok (.ineg, 1) := by decide +kernel
theorem dX5_firstGuards_33 : decode cX5_firstGuards 33 = .ok (.iand, 1) := by decide +kernel
theorem dX5_firstGuards_34 : decode cX5_firstGuards 34 = .ok (.istore 4, 2) := by decide +kernel
theorem dX5_firstGuards_36 : decode cX5_firstGuards 36 = .ok (.iload 4, 2) := by decide +kernel
theorem dX5_firstGuards_38 : decode cX5_firstGuards 38 = .ok (.ifCond .ne 6, 3) := by decide +kernel
theorem dX5_firstGuards_41 : decode cX5_firstGuards 41 = .ok (.bipush (-2), 2) := by decide +kernel
theorem dX5_firstGuards_43 : decode cX5_firstGuards 43 = .ok (.ireturn, 1) := by decide +kernel
theorem dX5_firstGuards_44 : decode cX5_firstGuards 44 = .ok (.iload_n 2, 1) := by decide +kernel
theorem dX5_firstGuards_45 : decode cX5_firstGuards 45 = .ok (.iload 4, 2) := by decide +kernel
theorem dX5_firstGuards_47 : decode cX5_firstGuards 47 = .ok (.iadd, 1) := by decide +kernel
theorem dX5_firstGuards_48 : decode cX5_firstGuards 48 = .ok (.istore 5, 2) := by decide +kernel
theorem dX5_firstGuards_50 : decode cX5_firstGuards 50 = .ok (.iload 5, 2) := by decide +kernel
theorem dX5_firstGuards_52 : decode cX5_firstGuards 52 = .ok (.iload_n 2, 1) := by decide +kernel
theorem dX5_firstGuards_53 : decode cX5_firstGuards 53 = .ok (.ixor, 1) := by decide +kernel
theorem dX5_firstGuards_54 : decode cX5_firstGuards 54 = .ok (.iload 4, 2) := by decide +kernel
theorem dX5_firstGuards_56 : decode cX5_firstGuards 56 = .ok (.idiv, 1) := by decide +kernel
theorem dX5_firstGuards_57 : decode cX5_firstGuards 57 = .ok (.iconst 2, 1) := by decide +kernel
theorem dX5_firstGuards_58 : decode cX5_firstGuards 58 = .ok (.ishr, 1) := by decide +kernel
theorem dX5_firstGuards_59 : decode cX5_firstGuards 59 = .ok (.iload 5, 2) := by decide +kernel
theorem dX5_firstGuards_61 : decode cX5_firstGuards 61 = .ok (.ior, 1) := by decide +kernel
theorem dX5_firstGuards_62 : decode cX5_firstGuards 62 = .ok (.istore_n 2, 1) := by decide +kernel
theorem dX5_firstGuards_63 : decode cX5_firstGuards 63 = .ok (.iinc 3 1, 3) := by decide +kernel
theorem dX5_firstGuards_66 : decode cX5_firstGuards 66 = .ok (.goto (-58), 3) := by decide +kernel
theorem dX5_firstGuards_69 : decode cX5_firstGuards 69 = .ok (.bipush (-2), 2) := by decide +kernel
theorem dX5_firstGuards_71 : decode cX5_firstGuards 71 = .ok (.ireturn, 1) := by decide +kernel
theorem dX5_tellApart_0 : decode cX5_tellApart 0 = .ok (.iconst 0, 1) := by decide +kernel
theorem dX5_tellApart_1 : decode cX5_tellApart 1 = .ok (.istore_n 2, 1) := by decide +kernel
theorem dX5_tellApart_2 : decode cX5_tellApart 2 = .ok (.iload_n 2, 1) := by decide +kernel
theorem dX5_tellApart_3 : decode cX5_tellApart 3 = .ok (.aload_n 0, 1) := by decide +kernel
theorem dX5_tellApart_4 : decode cX5_tellApart 4 = .ok (.getfield 19, 3) := by decide +kernel
theorem dX5_tellApart_7 : decode cX5_tellApart 7 = .ok (.if_icmp .ge 48, 3) := by decide +kernel
theorem dX5_tellApart_10 : decode cX5_tellApart 10 = .ok (.iload_n 2, 1) := by decide +kernel
theorem dX5_tellApart_11 : decode cX5_tellApart 11 = .ok (.bipush 8, 2) := by decide +kernel
theorem dX5_tellApart_13 : decode cX5_tellApart 13 = .ok (.if_icmp .ge 42, 3) := by decide +kernel
theorem dX5_tellApart_16 : decode cX5_tellApart 16 = .ok (.iconst 0, 1) := by decide +kernel
theorem dX5_tellApart_17 : decode cX5_tellApart 17 = .ok (.istore_n 3, 1) := by decide +kernel
theorem dX5_tellApart_18 : decode cX5_tellApart 18 = .ok (.iload_n 3, 1) := by decide +kernel
theorem dX5_tellApart_19 : decode cX5_tellApart 19 = .ok (.iload_n 2, 1) := by decide +kernel
theorem dX5_tellApart_20 : decode cX5_tellApart 20 = .ok (.if_icmp .ge 29, 3) := by decide +kernel
theorem dX5_tellApart_23 : decode cX5_tellApart 23 = .ok (.aload_n 0, 1) := by decide +kernel
theorem dX5_tellApart_24 : decode cX5_tellApart 24 = .ok (.getfield 9, 3) := by decide +kernel
theorem dX5_tellApart_27 : decode cX5_tellApart 27 = .ok (.iload_n 2, 1) := by decide +kernel
theorem dX5_tellApart_28 : decode cX5_tellApart 28 = .ok (.iaload, 1) := by decide +kernel
theorem dX5_tellApart_29 : decode cX5_tellApart 29 = .ok (.aload_n 0, 1) := by decide +kernel
theorem dX5_tellApart_30 : decode cX5_tellApart 30 = .ok (.getfield 9, 3) := by decide +kernel
theorem dX5_tellApart_33 : decode cX5_tellApart 33 = .ok (.iload_n 3, 1) := by decide +kernel
theorem dX5_tellApart_34 : decode cX5_tellApart 34 = .ok (.iaload, 1) := by decide +kernel
theorem dX5_tellApart_35 : decode cX5_tellApart 35 = .ok (.ixor, 1) := by decide +kernel
theorem dX5_tellApart_36 : decode cX5_tellApart 36 = .ok (.iload_n 1, 1) := by decide +kernel
theorem dX5_tellApart_37 : decode cX5_tellApart 37 = .ok (.iand, 1) := by decide +kernel
theorem dX5_tellApart_38 : decode cX5_tellApart 38 = .ok (.ifCond .ne 5, 3) := by decide +kernel
theorem dX5_tellApart_41 : decode cX5_tellApart 41 = .ok (.iconst 0, 1) := by decide +kernel
theorem dX5_tellApart_42 : decode cX5_tellApart 42 = .ok (.ireturn, 1) := by decide +kernel
theorem dX5_tellApart_43 : decode cX5_tellApart 43 = .ok (.iinc 3 1, 3) := by decide +kernel
theorem dX5_tellApart_46 : decode cX5_tellApart 46 = .ok (.goto (-28), 3) := by decide +kernel
theorem dX5_tellApart_49 : decode cX5_tellApart 49 = .ok (.iinc 2 1, 3) := by decide +kernel
theorem dX5_tellApart_52 : decode cX5_tellApart 52 = .ok (.goto (-50), 3) := by decide +kernel
theorem dX5_tellApart_55 : decode cX5_tellApart 55 = .ok (.iconst 1, 1) := by decide +kernel
theorem dX5_tellApart_56 : decode cX5_tellApart 56 = .ok (.ireturn, 1) := by decide +kernel
theorem dX5_rests_0 : decode cX5_rests 0 = .ok (.iconst 0, 1) := by decide +kernel
theorem dX5_rests_1 : decode cX5_rests 1 = .ok (.istore_n 3, 1) := by decide +kernel
theorem dX5_rests_2 : decode cX5_rests 2 = .ok (.iconst 0, 1) := by decide +kernel
theorem dX5_rests_3 : decode cX5_rests 3 = .ok (.istore 4, 2) := by decide +kernel
theorem dX5_rests_5 : decode cX5_rests 5 = .ok (.iload 4, 2) := by decide +kernel
theorem dX5_rests_7 : decode cX5_rests 7 = .ok (.iload_n 1, 1) := by decide +kernel
theorem dX5_rests_8 : decode cX5_rests 8 = .ok (.if_icmp .ge 45, 3) := by decide +kernel
theorem dX5_rests_11 : decode cX5_rests 11 = .ok (.iconst 0, 1) := by decide +kernel
theorem dX5_rests_12 : decode cX5_rests 12 = .ok (.istore 5, 2) := by decide +kernel
theorem dX5_rests_14 : decode cX5_rests 14 = .ok (.iload 5, 2) := by decide +kernel
theorem dX5_rests_16 : decode cX5_rests 16 = .ok (.iload_n 2, 1) := by decide +kernel
theorem dX5_rests_17 : decode cX5_rests 17 = .ok (.if_icmp .ge 30, 3) := by decide +kernel
theorem dX5_rests_20 : decode cX5_rests 20 = .ok (.iload_n 3, 1) := by decide +kernel
theorem dX5_rests_21 : decode cX5_rests 21 = .ok (.aload_n 0, 1) := by decide +kernel
theorem dX5_rests_22 : decode cX5_rests 22 = .ok (.iload_n 1, 1) := by decide +kernel
theorem dX5_rests_23 : decode cX5_rests 23 = .ok (.iload_n 2, 1) := by decide +kernel
theorem dX5_rests_24 : decode cX5_rests 24 = .ok (.iload 4, 2) := by decide +kernel
theorem dX5_rests_26 : decode cX5_rests 26 = .ok (.iload 5, 2) := by decide +kernel
theorem dX5_rests_28 : decode cX5_rests 28 = .ok (.invokevirtual 40, 3) := by decide +kernel
theorem dX5_rests_31 : decode cX5_rests 31 = .ok (.ifCond .eq 7, 3) := by decide +kernel
theorem dX5_rests_34 : decode cX5_rests 34 = .ok (.iconst 1, 1) := by decide +kernel
theorem dX5_rests_35 : decode cX5_rests 35 = .ok (.goto 4, 3) := by decide +kernel
theorem dX5_rests_38 : decode cX5_rests 38 = .ok (.iconst 0, 1) := by decide +kernel
theorem dX5_rests_39 : decode cX5_rests 39 = .ok (.iadd, 1) := by decide +kernel
theorem dX5_rests_40 : decode cX5_rests 40 = .ok (.istore_n 3, 1) := by decide +kernel
theorem dX5_rests_41 : decode cX5_rests 41 = .ok (.iinc 5 1, 3) := by decide +kernel
theorem dX5_rests_44 : decode cX5_rests 44 = .ok (.goto (-30), 3) := by decide +kernel
theorem dX5_rests_47 : decode cX5_rests 47 = .ok (.iinc 4 1, 3) := by decide +kernel
theorem dX5_rests_50 : decode cX5_rests 50 = .ok (.goto (-45), 3) := by decide +kernel
theorem dX5_rests_53 : decode cX5_rests 53 = .ok (.iload_n 3, 1) := by decide +kernel
theorem dX5_rests_54 : decode cX5_rests 54 = .ok (.ireturn, 1) := by decide +kernel
theorem dX5_firstRest_0 : decode cX5_firstRest 0 = .ok (.iconst 0, 1) := by decide +kernel
theorem dX5_firstRest_1 : decode cX5_firstRest 1 = .ok (.istore_n 3, 1) := by decide +kernel
theorem dX5_firstRest_2 : decode cX5_firstRest 2 = .ok (.iload_n 3, 1) := by decide +kernel
theorem dX5_firstRest_3 : decode cX5_firstRest 3 = .ok (.iload_n 1, 1) := by decide +kernel
theorem dX5_firstRest_4 : decode cX5_firstRest 4 = .ok (.if_icmp .ge 44, 3) := by decide +kernel
theorem dX5_firstRest_7 : decode cX5_firstRest 7 = .ok (.iconst 0, 1) := by decide +kernel
theorem dX5_firstRest_8 : decode cX5_firstRest 8 = .ok (.istore 4, 2) := by decide +kernel
theorem dX5_firstRest_10 : decode cX5_firstRest 10 = .ok (.iload 4, 2) := by decide +kernel
theorem dX5_firstRest_12 : decode cX5_firstRest 12 = .ok (.iload_n 2, 1) := by decide +kernel
theorem dX5_firstRest_13 : decode cX5_firstRest 13 = .ok (.if_icmp .ge 29, 3) := by decide +kernel
theorem dX5_firstRest_16 : decode cX5_firstRest 16 = .ok (.aload_n 0, 1) := by decide +kernel
theorem dX5_firstRest_17 : decode cX5_firstRest 17 = .ok (.iload_n 1, 1) := by decide +kernel
theorem dX5_firstRest_18 : decode cX5_firstRest 18 = .ok (.iload_n 2, 1) := by decide +kernel
theorem dX5_firstRest_19 : decode cX5_firstRest 19 = .ok (.iload_n 3, 1) := by decide +kernel
theorem dX5_firstRest_20 : decode cX5_firstRest 20 = .ok (.iload 4, 2) := by decide +kernel
theorem dX5_firstRest_22 : decode cX5_firstRest 22 = .ok (.invokevirtual 40, 3) := by decide +kernel
theorem dX5_firstRest_25 : decode cX5_firstRest 25 = .ok (.ifCond .eq 11, 3) := by decide +kernel
theorem dX5_firstRest_28 : decode cX5_firstRest 28 = .ok (.bipush 6, 2) := by decide +kernel
theorem dX5_firstRest_30 : decode cX5_firstRest 30 = .ok (.iload_n 3, 1) := by decide +kernel
theorem dX5_firstRest_31 : decode cX5_firstRest 31 = .ok (.imul, 1) := by decide +kernel
theorem dX5_firstRest_32 : decode cX5_firstRest 32 = .ok (.iload 4, 2) := by decide +kernel
theorem dX5_firstRest_34 : decode cX5_firstRest 34 = .ok (.iadd, 1) := by decide +kernel
theorem dX5_firstRest_35 : decode cX5_firstRest 35 = .ok (.ireturn, 1) := by decide +kernel
theorem dX5_firstRest_36 : decode cX5_firstRest 36 = .ok (.iinc 4 1, 3) := by decide +kernel
theorem dX5_firstRest_39 : decode cX5_firstRest 39 = .ok (.goto (-29), 3) := by decide +kernel
theorem dX5_firstRest_42 : decode cX5_firstRest 42 = .ok (.iinc 3 1, 3) := by decide +kernel
theorem dX5_firstRest_45 : decode cX5_firstRest 45 = .ok (.goto (-43), 3) := by decide +kernel
theorem dX5_firstRest_48 : decode cX5_firstRest 48 = .ok (.bipush (-2), 2) := by decide +kernel
theorem dX5_firstRest_50 : decode cX5_firstRest 50 = .ok (.ireturn, 1) := by decide +kernel
theorem dX5_isRest_0 : decode cX5_isRest 0 = .ok (.iload_n 3, 1) := by decide +kernel
theorem dX5_isRest_1 : decode cX5_isRest 1 = .ok (.iload_n 2, 1) := by decide +kernel
theorem dX5_isRest_2 : decode cX5_isRest 2 = .ok (.imul, 1) := by decide +kernel
theorem dX5_isRest_3 : decode cX5_isRest 3 = .ok (.iload 4, 2) := by decide +kernel
theorem dX5_isRest_5 : decode cX5_isRest 5 = .ok (.iadd, 1) := by decide +kernel
theorem dX5_isRest_6 : decode cX5_isRest 6 = .ok (.istore 5, 2) := by decide +kernel
theorem dX5_isRest_8 : decode cX5_isRest 8 = .ok (.iconst 0, 1) := by decide +kernel
theorem dX5_isRest_9 : decode cX5_isRest 9 = .ok (.istore 6, 2) := by decide +kernel
theorem dX5_isRest_11 : decode cX5_isRest 11 = .ok (.iload 6, 2) := by decide +kernel
theorem dX5_isRest_13 : decode cX5_isRest 13 = .ok (.iload_n 1, 1) := by decide +kernel
theorem dX5_isRest_14 : decode cX5_isRest 14 = .ok (.if_icmp .ge 31, 3) := by decide +kernel
theorem dX5_isRest_17 : decode cX5_isRest 17 = .ok (.aload_n 0, 1) := by decide +kernel
theorem dX5_isRest_18 : decode cX5_isRest 18 = .ok (.iload 6, 2) := by decide +kernel
theorem dX5_isRest_20 : decode cX5_isRest 20 = .ok (.iload_n 2, 1) := by decide +kernel
theorem dX5_isRest_21 : decode cX5_isRest 21 = .ok (.imul, 1) := by decide +kernel
theorem dX5_isRest_22 : decode cX5_isRest 22 = .ok (.iload 4, 2) := by decide +kernel
theorem dX5_isRest_24 : decode cX5_isRest 24 = .ok (.iadd, 1) := by decide +kernel
theorem dX5_isRest_25 : decode cX5_isRest 25 = .ok (.invokevirtual 44, 3) := by decide +kernel
theorem dX5_isRest_28 : decode cX5_isRest 28 = .ok (.aload_n 0, 1) := by decide +kernel
theorem dX5_isRest_29 : decode cX5_isRest 29 = .ok (.iload 5, 2) := by decide +kernel
theorem dX5_isRest_31 : decode cX5_isRest 31 = .ok (.invokevirtual 44, 3) := by decide +kernel
theorem dX5_isRest_34 : decode cX5_isRest 34 = .ok (.if_icmp .le 5, 3) := by decide +kernel
theorem dX5_isRest_37 : decode cX5_isRest 37 = .ok (.iconst 0, 1) := by decide +kernel
theorem dX5_isRest_38 : decode cX5_isRest 38 = .ok (.ireturn, 1) := by decide +kernel
theorem dX5_isRest_39 : decode cX5_isRest 39 = .ok (.iinc 6 1, 3) := by decide +kernel
theorem dX5_isRest_42 : decode cX5_isRest 42 = .ok (.goto (-31), 3) := by decide +kernel
theorem dX5_isRest_45 : decode cX5_isRest 45 = .ok (.iconst 0, 1) := by decide +kernel
theorem dX5_isRest_46 : decode cX5_isRest 46 = .ok (.istore 6, 2) := by decide +kernel
theorem dX5_isRest_48 : decode cX5_isRest 48 = .ok (.iload 6, 2) := by decide +kernel
theorem dX5_isRest_50 : decode cX5_isRest 50 = .ok (.iload_n 2, 1) := by decide +kernel
theorem dX5_isRest_51 : decode cX5_isRest 51 = .ok (.if_icmp .ge 30, 3) := by decide +kernel
theorem dX5_isRest_54 : decode cX5_isRest 54 = .ok (.aload_n 0, 1) := by decide +kernel
theorem dX5_isRest_55 : decode cX5_isRest 55 = .ok (.iload_n 3, 1) := by decide +kernel
theorem dX5_isRest_56 : decode cX5_isRest 56 = .ok (.iload_n 2, 1) := by decide +kernel
theorem dX5_isRest_57 : decode cX5_isRest 57 = .ok (.imul, 1) := by decide +kernel
theorem dX5_isRest_58 : decode cX5_isRest 58 = .ok (.iload 6, 2) := by decide +kernel
theorem dX5_isRest_60 : decode cX5_isRest 60 = .ok (.iadd, 1) := by decide +kernel
theorem dX5_isRest_61 : decode cX5_isRest 61 = .ok (.invokevirtual 47, 3) := by decide +kernel
theorem dX5_isRest_64 : decode cX5_isRest 64 = .ok (.aload_n 0, 1) := by decide +kernel
theorem dX5_isRest_65 : decode cX5_isRest 65 = .ok (.iload 5, 2) := by decide +kernel
theorem dX5_isRest_67 : decode cX5_isRest 67 = .ok (.invokevirtual 47, 3) := by decide +kernel
theorem dX5_isRest_70 : decode cX5_isRest 70 = .ok (.if_icmp .le 5, 3) := by decide +kernel
theorem dX5_isRest_73 : decode cX5_isRest 73 = .ok (.iconst 0, 1) := by decide +kernel
theorem dX5_isRest_74 : decode cX5_isRest 74 = .ok (.ireturn, 1) := by decide +kernel
theorem dX5_isRest_75 : decode cX5_isRest 75 = .ok (.iinc 6 1, 3) := by decide +kernel
theorem dX5_isRest_78 : decode cX5_isRest 78 = .ok (.goto (-30), 3) := by decide +kernel
theorem dX5_isRest_81 : decode cX5_isRest 81 = .ok (.iconst 1, 1) := by decide +kernel
theorem dX5_isRest_82 : decode cX5_isRest 82 = .ok (.ireturn, 1) := by decide +kernel
theorem dX5_bargains_0 : decode cX5_bargains 0 = .ok (.iconst 0, 1) := by decide +kernel
theorem dX5_bargains_1 : decode cX5_bargains 1 = .ok (.istore_n 2, 1) := by decide +kernel
theorem dX5_bargains_2 : decode cX5_bargains 2 = .ok (.iconst 0, 1) := by decide +kernel
theorem dX5_bargains_3 : decode cX5_bargains 3 = .ok (.istore_n 3, 1) := by decide +kernel
theorem dX5_bargains_4 : decode cX5_bargains 4 = .ok (.iload_n 3, 1) := by decide +kernel
theorem dX5_bargains_5 : decode cX5_bargains 5 = .ok (.iload_n 1, 1) := by decide +kernel
theorem dX5_bargains_6 : decode cX5_bargains 6 = .ok (.if_icmp .ge 62, 3) := by decide +kernel
theorem dX5_bargains_9 : decode cX5_bargains 9 = .ok (.iconst 0, 1) := by decide +kernel
theorem dX5_bargains_10 : decode cX5_bargains 10 = .ok (.istore 4, 2) := by decide +kernel
theorem dX5_bargains_12 : decode cX5_bargains 12 = .ok (.iconst 0, 1) := by decide +kernel
theorem dX5_bargains_13 : decode cX5_bargains 13 = .ok (.istore 5, 2) := by decide +kernel
theorem dX5_bargains_15 : decode cX5_bargains 15 = .ok (.iload 5, 2) := by decide +kernel
theorem dX5_bargains_17 : decode cX5_bargains 17 = .ok (.iload_n 1, 1) := by decide +kernel
theorem dX5_bargains_18 : decode cX5_bargains 18 = .ok (.if_icmp .ge 31, 3) := by decide +kernel
theorem dX5_bargains_21 : decode cX5_bargains 21 = .ok (.iload 4, 2) := by decide +kernel
theorem dX5_bargains_23 : decode cX5_bargains 23 = .ok (.ifCond .ne 13, 3) := by decide +kernel
theorem dX5_bargains_26 : decode cX5_bargains 26 = .ok (.aload_n 0, 1) := by decide +kernel
theorem dX5_bargains_27 : decode cX5_bargains 27 = .ok (.iload_n 3, 1) := by decide +kernel
theorem dX5_bargains_28 : decode cX5_bargains 28 = .ok (.iload 5, 2) := by decide +kernel
theorem dX5_bargains_30 : decode cX5_bargains 30 = .ok (.invokevirtual 50, 3) := by decide +kernel
theorem dX5_bargains_33 : decode cX5_bargains 33 = .ok (.ifCond .eq 7, 3) := by decide +kernel
theorem dX5_bargains_36 : decode cX5_bargains 36 = .ok (.iconst 1, 1) := by decide +kernel
theorem dX5_bargains_37 : decode cX5_bargains 37 = .ok (.goto 4, 3) := by decide +kernel
theorem dX5_bargains_40 : decode cX5_bargains 40 = .ok (.iconst 0, 1) := by decide +kernel
theorem dX5_bargains_41 : decode cX5_bargains 41 = .ok (.istore 4, 2) := by decide +kernel
theorem dX5_bargains_43 : decode cX5_bargains 43 = .ok (.iinc 5 1, 3) := by decide +kernel
theorem dX5_bargains_46 : decode cX5_bargains 46 = .ok (.goto (-31), 3) := by decide +kernel
theorem dX5_bargains_49 : decode cX5_bargains 49 = .ok (.iload_n 2, 1) := by decide +kernel
theorem dX5_bargains_50 : decode cX5_bargains 50 = .ok (.iload 4, 2) := by decide +kernel
theorem dX5_bargains_52 : decode cX5_bargains 52 = .ok (.ifCond .eq 7, 3) := by decide +kernel
theorem dX5_bargains_55 : decode cX5_bargains 55 = .ok (.iconst 0, 1) := by decide +kernel
theorem dX5_bargains_56 : decode cX5_bargains 56 = .ok (.goto 4, 3) := by decide +kernel
theorem dX5_bargains_59 : decode cX5_bargains 59 = .ok (.iconst 1, 1) := by decide +kernel
theorem dX5_bargains_60 : decode cX5_bargains 60 = .ok (.iadd, 1) := by decide +kernel
theorem dX5_bargains_61 : decode cX5_bargains 61 = .ok (.istore_n 2, 1) := by decide +kernel
theorem dX5_bargains_62 : decode cX5_bargains 62 = .ok (.iinc 3 1, 3) := by decide +kernel
theorem dX5_bargains_65 : decode cX5_bargains 65 = .ok (.goto (-61), 3) := by decide +kernel
theorem dX5_bargains_68 : decode cX5_bargains 68 = .ok (.iload_n 2, 1) := by decide +kernel
theorem dX5_bargains_69 : decode cX5_bargains 69 = .ok (.ireturn, 1) := by decide +kernel
theorem dX5_isLeftFor_0 : decode cX5_isLeftFor 0 = .ok (.aload_n 0, 1) := by decide +kernel
theorem dX5_isLeftFor_1 : decode cX5_isLeftFor 1 = .ok (.iload_n 2, 1) := by decide +kernel
theorem dX5_isLeftFor_2 : decode cX5_isLeftFor 2 = .ok (.invokevirtual 44, 3) := by decide +kernel
theorem dX5_isLeftFor_5 : decode cX5_isLeftFor 5 = .ok (.aload_n 0, 1) := by decide +kernel
theorem dX5_isLeftFor_6 : decode cX5_isLeftFor 6 = .ok (.iload_n 1, 1) := by decide +kernel
theorem dX5_isLeftFor_7 : decode cX5_isLeftFor 7 = .ok (.invokevirtual 44, 3) := by decide +kernel
theorem dX5_isLeftFor_10 : decode cX5_isLeftFor 10 = .ok (.isub, 1) := by decide +kernel
theorem dX5_isLeftFor_11 : decode cX5_isLeftFor 11 = .ok (.istore_n 3, 1) := by decide +kernel
theorem dX5_isLeftFor_12 : decode cX5_isLeftFor 12 = .ok (.aload_n 0, 1) := by decide +kernel
theorem dX5_isLeftFor_13 : decode cX5_isLeftFor 13 = .ok (.iload_n 2, 1) := by decide +kernel
theorem dX5_isLeftFor_14 : decode cX5_isLeftFor 14 = .ok (.invokevirtual 47, 3) := by decide +kernel
theorem dX5_isLeftFor_17 : decode cX5_isLeftFor 17 = .ok (.aload_n 0, 1) := by decide +kernel
theorem dX5_isLeftFor_18 : decode cX5_isLeftFor 18 = .ok (.iload_n 1, 1) := by decide +kernel
theorem dX5_isLeftFor_19 : decode cX5_isLeftFor 19 = .ok (.invokevirtual 47, 3) := by decide +kernel
theorem dX5_isLeftFor_22 : decode cX5_isLeftFor 22 = .ok (.isub, 1) := by decide +kernel
theorem dX5_isLeftFor_23 : decode cX5_isLeftFor 23 = .ok (.istore 4, 2) := by decide +kernel
theorem dX5_isLeftFor_25 : decode cX5_isLeftFor 25 = .ok (.iload_n 3, 1) := by decide +kernel
theorem dX5_isLeftFor_26 : decode cX5_isLeftFor 26 = .ok (.ifCond .lt 19, 3) := by decide +kernel
theorem dX5_isLeftFor_29 : decode cX5_isLeftFor 29 = .ok (.iload 4, 2) := by decide +kernel
theorem dX5_isLeftFor_31 : decode cX5_isLeftFor 31 = .ok (.ifCond .lt 14, 3) := by decide +kernel
theorem dX5_isLeftFor_34 : decode cX5_isLeftFor 34 = .ok (.iload_n 3, 1) := by decide +kernel
theorem dX5_isLeftFor_35 : decode cX5_isLeftFor 35 = .ok (.iload 4, 2) := by decide +kernel
theorem dX5_isLeftFor_37 : decode cX5_isLeftFor 37 = .ok (.iadd, 1) := by decide +kernel
theorem dX5_isLeftFor_38 : decode cX5_isLeftFor 38 = .ok (.ifCond .le 7, 3) := by decide +kernel
theorem dX5_isLeftFor_41 : decode cX5_isLeftFor 41 = .ok (.iconst 1, 1) := by decide +kernel
theorem dX5_isLeftFor_42 : decode cX5_isLeftFor 42 = .ok (.goto 4, 3) := by decide +kernel
theorem dX5_isLeftFor_45 : decode cX5_isLeftFor 45 = .ok (.iconst 0, 1) := by decide +kernel
theorem dX5_isLeftFor_46 : decode cX5_isLeftFor 46 = .ok (.ireturn, 1) := by decide +kernel
theorem dX5_forOne_0 : decode cX5_forOne 0 = .ok (.aload_n 0, 1) := by decide +kernel
theorem dX5_forOne_1 : decode cX5_forOne 1 = .ok (.getfield 15, 3) := by decide +kernel
theorem dX5_forOne_4 : decode cX5_forOne 4 = .ok (.iconst 2, 1) := by decide +kernel
theorem dX5_forOne_5 : decode cX5_forOne 5 = .ok (.iload_n 1, 1) := by decide +kernel
theorem dX5_forOne_6 : decode cX5_forOne 6 = .ok (.imul, 1) := by decide +kernel
theorem dX5_forOne_7 : decode cX5_forOne 7 = .ok (.invokevirtual 54, 3) := by decide +kernel
theorem dX5_forOne_10 : decode cX5_forOne 10 = .ok (.ireturn, 1) := by decide +kernel
theorem dX5_forOther_0 : decode cX5_forOther 0 = .ok (.aload_n 0, 1) := by decide +kernel
theorem dX5_forOther_1 : decode cX5_forOther 1 = .ok (.getfield 15, 3) := by decide +kernel
theorem dX5_forOther_4 : decode cX5_forOther 4 = .ok (.iconst 2, 1) := by decide +kernel
theorem dX5_forOther_5 : decode cX5_forOther 5 = .ok (.iload_n 1, 1) := by decide +kernel
theorem dX5_forOther_6 : decode cX5_forOther 6 = .ok (.imul, 1) := by decide +kernel
theorem dX5_forOther_7 : decode cX5_forOther 7 = .ok (.iconst 1, 1) := by decide +kernel
theorem dX5_forOther_8 : decode cX5_forOther 8 = .ok (.iadd, 1) := by decide +kernel
theorem dX5_forOther_9 : decode cX5_forOther 9 = .ok (.invokevirtual 54, 3) := by decide +kernel
theorem dX5_forOther_12 : decode cX5_forOther 12 = .ok (.ireturn, 1) := by decide +kernel
theorem dX5_odds_0 : decode cX5_odds 0 = .ok (.iconst 1, 1) := by decide +kernel
theorem dX5_odds_1 : decode cX5_odds 1 = .ok (.istore_n 3, 1) := by decide +kernel
theorem dX5_odds_2 : decode cX5_odds 2 = .ok (.iconst 1, 1) := by decide +kernel
theorem dX5_odds_3 : decode cX5_odds 3 = .ok (.istore 4, 2) := by decide +kernel
theorem dX5_odds_5 : decode cX5_odds 5 = .ok (.iconst 1, 1) := by decide +kernel
theorem dX5_odds_6 : decode cX5_odds 6 = .ok (.istore 5, 2) := by decide +kernel
theorem dX5_odds_8 : decode cX5_odds 8 = .ok (.iconst 0, 1) := by decide +kernel
theorem dX5_odds_9 : decode cX5_odds 9 = .ok (.istore 6, 2) := by decide +kernel
theorem dX5_odds_11 : decode cX5_odds 11 = .ok (.iload 6, 2) := by decide +kernel
theorem dX5_odds_13 : decode cX5_odds 13 = .ok (.iload_n 1, 1) := by decide +kernel
theorem dX5_odds_14 : decode cX5_odds 14 = .ok (.if_icmp .ge 52, 3) := by decide +kernel
theorem dX5_odds_17 : decode cX5_odds 17 = .ok (.aload_n 0, 1) := by decide +kernel
theorem dX5_odds_18 : decode cX5_odds 18 = .ok (.getfield 15, 3) := by decide +kernel
theorem dX5_odds_21 : decode cX5_odds 21 = .ok (.iload 6, 2) := by decide +kernel
theorem dX5_odds_23 : decode cX5_odds 23 = .ok (.invokevirtual 54, 3) := by decide +kernel
theorem dX5_odds_26 : decode cX5_odds 26 = .ok (.istore 7, 2) := by decide +kernel
theorem dX5_odds_28 : decode cX5_odds 28 = .ok (.iload 7, 2) := by decide +kernel
theorem dX5_odds_30 : decode cX5_odds 30 = .ok (.bipush 10, 2) := by decide +kernel
theorem dX5_odds_32 : decode cX5_odds 32 = .ok (.if_icmp .le 6, 3) := by decide +kernel
theorem dX5_odds_35 : decode cX5_odds 35 = .ok (.bipush (-3), 2) := by decide +kernel
theorem dX5_odds_37 : decode cX5_odds 37 = .ok (.ireturn, 1) := by decide +kernel
theorem dX5_odds_38 : decode cX5_odds 38 = .ok (.iload_n 3, 1) := by decide +kernel
theorem dX5_odds_39 : decode cX5_odds 39 = .ok (.bipush 10, 2) := by decide +kernel
theorem dX5_odds_41 : decode cX5_odds 41 = .ok (.imul, 1) := by decide +kernel
theorem dX5_odds_42 : decode cX5_odds 42 = .ok (.istore_n 3, 1) := by decide +kernel
theorem dX5_odds_43 : decode cX5_odds 43 = .ok (.iload 4, 2) := by decide +kernel
theorem dX5_odds_45 : decode cX5_odds 45 = .ok (.iload 7, 2) := by decide +kernel
theorem dX5_odds_47 : decode cX5_odds 47 = .ok (.imul, 1) := by decide +kernel
theorem dX5_odds_48 : decode cX5_odds 48 = .ok (.istore 4, 2) := by decide +kernel
theorem dX5_odds_50 : decode cX5_odds 50 = .ok (.iload 5, 2) := by decide +kernel
theorem dX5_odds_52 : decode cX5_odds 52 = .ok (.bipush 10, 2) := by decide +kernel
theorem dX5_odds_54 : decode cX5_odds 54 = .ok (.iload 7, 2) := by decide +kernel
theorem dX5_odds_56 : decode cX5_odds 56 = .ok (.isub, 1) := by decide +kernel
theorem dX5_odds_57 : decode cX5_odds 57 = .ok (.imul, 1) := by decide +kernel
theorem dX5_odds_58 : decode cX5_odds 58 = .ok (.istore 5, 2) := by decide +kernel
theorem dX5_odds_60 : decode cX5_odds 60 = .ok (.iinc 6 1, 3) := by decide +kernel
theorem dX5_odds_63 : decode cX5_odds 63 = .ok (.goto (-52), 3) := by decide +kernel
theorem dX5_odds_66 : decode cX5_odds 66 = .ok (.iload_n 2, 1) := by decide +kernel
theorem dX5_odds_67 : decode cX5_odds 67 = .ok (.iconst 2, 1) := by decide +kernel
theorem dX5_odds_68 : decode cX5_odds 68 = .ok (.if_icmp .ge 8, 3) := by decide +kernel
theorem dX5_odds_71 : decode cX5_odds 71 = .ok (.iload 4, 2) := by decide +kernel
theorem dX5_odds_73 : decode cX5_odds 73 = .ok (.goto 7, 3) := by decide +kernel
theorem dX5_odds_76 : decode cX5_odds 76 = .ok (.iload_n 3, 1) := by decide +kernel
theorem dX5_odds_77 : decode cX5_odds 77 = .ok (.iload 5, 2) := by decide +kernel
theorem dX5_odds_79 : decode cX5_odds 79 = .ok (.isub, 1) := by decide +kernel
theorem dX5_odds_80 : decode cX5_odds 80 = .ok (.istore 6, 2) := by decide +kernel
theorem dX5_odds_82 : decode cX5_odds 82 = .ok (.iload 6, 2) := by decide +kernel
theorem dX5_odds_84 : decode cX5_odds 84 = .ok (.iload_n 3, 1) := by decide +kernel
theorem dX5_odds_85 : decode cX5_odds 85 = .ok (.invokestatic 59, 3) := by decide +kernel
theorem dX5_odds_88 : decode cX5_odds 88 = .ok (.istore 7, 2) := by decide +kernel
theorem dX5_odds_90 : decode cX5_odds 90 = .ok (.iload_n 2, 1) := by decide +kernel
theorem dX5_odds_91 : decode cX5_odds 91 = .ok (.iconst 2, 1) := by decide +kernel
theorem dX5_odds_92 : decode cX5_odds 92 = .ok (.irem, 1) := by decide +kernel
theorem dX5_odds_93 : decode cX5_odds 93 = .ok (.ifCond .ne 8, 3) := by decide +kernel
theorem dX5_odds_96 : decode cX5_odds 96 = .ok (.iload 6, 2) := by decide +kernel
theorem dX5_odds_98 : decode cX5_odds 98 = .ok (.goto 4, 3) := by decide +kernel
theorem dX5_odds_101 : decode cX5_odds 101 = .ok (.iload_n 3, 1) := by decide +kernel
theorem dX5_odds_102 : decode cX5_odds 102 = .ok (.istore 8, 2) := by decide +kernel
theorem dX5_odds_104 : decode cX5_odds 104 = .ok (.iload 7, 2) := by decide +kernel
theorem dX5_odds_106 : decode cX5_odds 106 = .ok (.ifCond .le 11, 3) := by decide +kernel
theorem dX5_odds_109 : decode cX5_odds 109 = .ok (.iload 8, 2) := by decide +kernel
theorem dX5_odds_111 : decode cX5_odds 111 = .ok (.iload 7, 2) := by decide +kernel
theorem dX5_odds_113 : decode cX5_odds 113 = .ok (.idiv, 1) := by decide +kernel
theorem dX5_odds_114 : decode cX5_odds 114 = .ok (.goto 4, 3) := by decide +kernel
theorem dX5_odds_117 : decode cX5_odds 117 = .ok (.iconst (-1), 1) := by decide +kernel
theorem dX5_odds_118 : decode cX5_odds 118 = .ok (.ireturn, 1) := by decide +kernel
theorem dX5_ringsIn_0 : decode cX5_ringsIn 0 = .ok (.iconst 0, 1) := by decide +kernel
theorem dX5_ringsIn_1 : decode cX5_ringsIn 1 = .ok (.istore_n 3, 1) := by decide +kernel
theorem dX5_ringsIn_2 : decode cX5_ringsIn 2 = .ok (.iconst 1, 1) := by decide +kernel
theorem dX5_ringsIn_3 : decode cX5_ringsIn 3 = .ok (.istore 4, 2) := by decide +kernel
theorem dX5_ringsIn_5 : decode cX5_ringsIn 5 = .ok (.iconst 0, 1) := by decide +kernel
theorem dX5_ringsIn_6 : decode cX5_ringsIn 6 = .ok (.istore 5, 2) := by decide +kernel
theorem dX5_ringsIn_8 : decode cX5_ringsIn 8 = .ok (.iconst 0, 1) := by decide +kernel
theorem dX5_ringsIn_9 : decode cX5_ringsIn 9 = .ok (.istore 6, 2) := by decide +kernel
theorem dX5_ringsIn_11 : decode cX5_ringsIn 11 = .ok (.iload 6, 2) := by decide +kernel
theorem dX5_ringsIn_13 : decode cX5_ringsIn 13 = .ok (.iload_n 1, 1) := by decide +kernel
theorem dX5_ringsIn_14 : decode cX5_ringsIn 14 = .ok (.if_icmp .ge 101, 3) := by decide +kernel
theorem dX5_ringsIn_17 : decode cX5_ringsIn 17 = .ok (.iconst 0, 1) := by decide +kernel
theorem dX5_ringsIn_18 : decode cX5_ringsIn 18 = .ok (.istore 7, 2) := by decide +kernel
theorem dX5_ringsIn_20 : decode cX5_ringsIn 20 = .ok (.iload 6, 2) := by decide +kernel
theorem dX5_ringsIn_22 : decode cX5_ringsIn 22 = .ok (.istore 8, 2) := by decide +kernel
theorem dX5_ringsIn_24 : decode cX5_ringsIn 24 = .ok (.iconst 0, 1) := by decide +kernel
theorem dX5_ringsIn_25 : decode cX5_ringsIn 25 = .ok (.istore 9, 2) := by decide +kernel
theorem dX5_ringsIn_27 : decode cX5_ringsIn 27 = .ok (.iload 9, 2) := by decide +kernel
theorem dX5_ringsIn_29 : decode cX5_ringsIn 29 = .ok (.iload_n 1, 1) := by decide +kernel
theorem dX5_ringsIn_30 : decode cX5_ringsIn 30 = .ok (.if_icmp .ge 42, 3) := by decide +kernel
theorem dX5_ringsIn_33 : decode cX5_ringsIn 33 = .ok (.iload 5, 2) := by decide +kernel
theorem dX5_ringsIn_35 : decode cX5_ringsIn 35 = .ok (.iload 8, 2) := by decide +kernel
theorem dX5_ringsIn_37 : decode cX5_ringsIn 37 = .ok (.ishr, 1) := by decide +kernel
theorem dX5_ringsIn_38 : decode cX5_ringsIn 38 = .ok (.iconst 1, 1) := by decide +kernel
theorem dX5_ringsIn_39 : decode cX5_ringsIn 39 = .ok (.iand, 1) := by decide +kernel
theorem dX5_ringsIn_40 : decode cX5_ringsIn 40 = .ok (.ifCond .ne 32, 3) := by decide +kernel
theorem dX5_ringsIn_43 : decode cX5_ringsIn 43 = .ok (.iload 5, 2) := by decide +kernel
theorem dX5_ringsIn_45 : decode cX5_ringsIn 45 = .ok (.iconst 1, 1) := by decide +kernel
theorem dX5_ringsIn_46 : decode cX5_ringsIn 46 = .ok (.iload 8, 2) := by decide +kernel
theorem dX5_ringsIn_48 : decode cX5_ringsIn 48 = .ok (.ishl, 1) := by decide +kernel
theorem dX5_ringsIn_49 : decode cX5_ringsIn 49 = .ok (.ior, 1) := by decide +kernel
theorem dX5_ringsIn_50 : decode cX5_ringsIn 50 = .ok (.istore 5, 2) := by decide +kernel
theorem dX5_ringsIn_52 : decode cX5_ringsIn 52 = .ok (.aload_n 0, 1) := by decide +kernel
theorem dX5_ringsIn_53 : decode cX5_ringsIn 53 = .ok (.getfield 15, 3) := by decide +kernel
theorem dX5_ringsIn_56 : decode cX5_ringsIn 56 = .ok (.iload 8, 2) := by decide +kernel
theorem dX5_ringsIn_58 : decode cX5_ringsIn 58 = .ok (.invokevirtual 54, 3) := by decide +kernel
theorem dX5_ringsIn_61 : decode cX5_ringsIn 61 = .ok (.istore 8, 2) := by decide +kernel
theorem dX5_ringsIn_63 : decode cX5_ringsIn 63 = .ok (.iinc 7 1, 3) := by decide +kernel
theorem dX5_ringsIn_66 : decode cX5_ringsIn 66 = .ok (.iinc 9 1, 3) := by decide +kernel
theorem dX5_ringsIn_69 : decode cX5_ringsIn 69 = .ok (.goto (-42), 3) := by decide +kernel
theorem dX5_ringsIn_72 : decode cX5_ringsIn 72 = .ok (.iload 7, 2) := by decide +kernel
theorem dX5_ringsIn_74 : decode cX5_ringsIn 74 = .ok (.ifCond .le 35, 3) := by decide +kernel
theorem dX5_ringsIn_77 : decode cX5_ringsIn 77 = .ok (.iinc 3 1, 3) := by decide +kernel
theorem dX5_ringsIn_80 : decode cX5_ringsIn 80 = .ok (.iload 4, 2) := by decide +kernel
theorem dX5_ringsIn_82 : decode cX5_ringsIn 82 = .ok (.iload 7, 2) := by decide +kernel
theorem dX5_ringsIn_84 : decode cX5_ringsIn 84 = .ok (.invokestatic 59, 3) := by decide +kernel
theorem dX5_ringsIn_87 : decode cX5_ringsIn 87 = .ok (.istore 9, 2) := by decide +kernel
theorem dX5_ringsIn_89 : decode cX5_ringsIn 89 = .ok (.iload 9, 2) := by decide +kernel
theorem dX5_ringsIn_91 : decode cX5_ringsIn 91 = .ok (.ifCond .le 14, 3) := by decide +kernel
theorem dX5_ringsIn_94 : decode cX5_ringsIn 94 = .ok (.iload 4, 2) := by decide +kernel
theorem dX5_ringsIn_96 : decode cX5_ringsIn 96 = .ok (.iload 9, 2) := by decide +kernel
theorem dX5_ringsIn_98 : decode cX5_ringsIn 98 = .ok (.idiv, 1) := by decide +kernel
theorem dX5_ringsIn_99 : decode cX5_ringsIn 99 = .ok (.iload 7, 2) := by decide +kernel
theorem dX5_ringsIn_101 : decode cX5_ringsIn 101 = .ok (.imul, 1) := by decide +kernel
theorem dX5_ringsIn_102 : decode cX5_ringsIn 102 = .ok (.goto 5, 3) := by decide +kernel
theorem dX5_ringsIn_105 : decode cX5_ringsIn 105 = .ok (.iload 4, 2) := by decide +kernel
theorem dX5_ringsIn_107 : decode cX5_ringsIn 107 = .ok (.istore 4, 2) := by decide +kernel
theorem dX5_ringsIn_109 : decode cX5_ringsIn 109 = .ok (.iinc 6 1, 3) := by decide +kernel
theorem dX5_ringsIn_112 : decode cX5_ringsIn 112 = .ok (.goto (-101), 3) := by decide +kernel
theorem dX5_ringsIn_115 : decode cX5_ringsIn 115 = .ok (.iload_n 2, 1) := by decide +kernel
theorem dX5_ringsIn_116 : decode cX5_ringsIn 116 = .ok (.ifCond .ne 7, 3) := by decide +kernel
theorem dX5_ringsIn_119 : decode cX5_ringsIn 119 = .ok (.iload_n 3, 1) := by decide +kernel
theorem dX5_ringsIn_120 : decode cX5_ringsIn 120 = .ok (.goto 5, 3) := by decide +kernel
theorem dX5_ringsIn_123 : decode cX5_ringsIn 123 = .ok (.iload 4, 2) := by decide +kernel
theorem dX5_ringsIn_125 : decode cX5_ringsIn 125 = .ok (.ireturn, 1) := by decide +kernel
theorem dX5_commonDivisor_0 : decode cX5_commonDivisor 0 = .ok (.iload_n 0, 1) := by decide +kernel
theorem dX5_commonDivisor_1 : decode cX5_commonDivisor 1 = .ok (.istore_n 2, 1) := by decide +kernel
theorem dX5_commonDivisor_2 : decode cX5_commonDivisor 2 = .ok (.iload_n 1, 1) := by decide +kernel
theorem dX5_commonDivisor_3 : decode cX5_commonDivisor 3 = .ok (.istore_n 3, 1) := by decide +kernel
theorem dX5_commonDivisor_4 : decode cX5_commonDivisor 4 = .ok (.iconst 0, 1) := by decide +kernel
theorem dX5_commonDivisor_5 : decode cX5_commonDivisor 5 = .ok (.istore 4, 2) := by decide +kernel
theorem dX5_commonDivisor_7 : decode cX5_commonDivisor 7 = .ok (.iload 4, 2) := by decide +kernel
theorem dX5_commonDivisor_9 : decode cX5_commonDivisor 9 = .ok (.bipush 100, 2) := by decide +kernel
theorem dX5_commonDivisor_11 : decode cX5_commonDivisor 11 = .ok (.if_icmp .ge 23, 3) := by decide +kernel
theorem dX5_commonDivisor_14 : decode cX5_commonDivisor 14 = .ok (.iload_n 3, 1) := by decide +kernel
theorem dX5_commonDivisor_15 : decode cX5_commonDivisor 15 = .ok (.ifCond .eq 19, 3) := by decide +kernel
theorem dX5_commonDivisor_18 : decode cX5_commonDivisor 18 = .ok (.iload_n 2, 1) := by decide +kernel
theorem dX5_commonDivisor_19 : decode cX5_commonDivisor 19 = .ok (.iload_n 3, 1) := by decide +kernel
theorem dX5_commonDivisor_20 : decode cX5_commonDivisor 20 = .ok (.irem, 1) := by decide +kernel
theorem dX5_commonDivisor_21 : decode cX5_commonDivisor 21 = .ok (.istore 5, 2) := by decide +kernel
theorem dX5_commonDivisor_23 : decode cX5_commonDivisor 23 = .ok (.iload_n 3, 1) := by decide +kernel
theorem dX5_commonDivisor_24 : decode cX5_commonDivisor 24 = .ok (.istore_n 2, 1) := by decide +kernel
theorem dX5_commonDivisor_25 : decode cX5_commonDivisor 25 = .ok (.iload 5, 2) := by decide +kernel
theorem dX5_commonDivisor_27 : decode cX5_commonDivisor 27 = .ok (.istore_n 3, 1) := by decide +kernel
theorem dX5_commonDivisor_28 : decode cX5_commonDivisor 28 = .ok (.iinc 4 1, 3) := by decide +kernel
theorem dX5_commonDivisor_31 : decode cX5_commonDivisor 31 = .ok (.goto (-24), 3) := by decide +kernel
theorem dX5_commonDivisor_34 : decode cX5_commonDivisor 34 = .ok (.iload_n 2, 1) := by decide +kernel
theorem dX5_commonDivisor_35 : decode cX5_commonDivisor 35 = .ok (.ireturn, 1) := by decide +kernel
theorem dX6_init_0 : decode cX6_init 0 = .ok (.aload_n 0, 1) := by decide +kernel
theorem dX6_init_1 : decode cX6_init 1 = .ok (.invokespecial 3, 3) := by decide +kernel
theorem dX6_init_4 : decode cX6_init 4 = .ok (.aload_n 0, 1) := by decide +kernel
theorem dX6_init_5 : decode cX6_init 5 = .ok (.bipush 16, 2) := by decide +kernel
theorem dX6_init_7 : decode cX6_init 7 = .ok (.newarray .int, 2) := by decide +kernel
theorem dX6_init_9 : decode cX6_init 9 = .ok (.putfield 9, 3) := by decide +kernel
theorem dX6_init_12 : decode cX6_init 12 = .ok (.aload_n 0, 1) := by decide +kernel
theorem dX6_init_13 : decode cX6_init 13 = .ok (.sipush 384, 3) := by decide +kernel
theorem dX6_init_16 : decode cX6_init 16 = .ok (.newarray .int, 2) := by decide +kernel
theorem dX6_init_18 : decode cX6_init 18 = .ok (.putfield 17, 3) := by decide +kernel
theorem dX6_init_21 : decode cX6_init 21 = .ok (.aload_n 0, 1) := by decide +kernel
theorem dX6_init_22 : decode cX6_init 22 = .ok (.bipush 48, 2) := by decide +kernel
theorem dX6_init_24 : decode cX6_init 24 = .ok (.newarray .int, 2) := by decide +kernel
theorem dX6_init_26 : decode cX6_init 26 = .ok (.putfield 20, 3) := by decide +kernel
theorem dX6_init_29 : decode cX6_init 29 = .ok (.aload_n 0, 1) := by decide +kernel
theorem dX6_init_30 : decode cX6_init 30 = .ok (.aload_n 1, 1) := by decide +kernel
theorem dX6_init_31 : decode cX6_init 31 = .ok (.putfield 23, 3) := by decide +kernel
theorem dX6_init_34 : decode cX6_init 34 = .ok (.return_, 1) := by decide +kernel
theorem dX6_bottleAt_0 : decode cX6_bottleAt 0 = .ok (.iload_n 1, 1) := by decide +kernel
theorem dX6_bottleAt_1 : decode cX6_bottleAt 1 = .ok (.ifCond .lt 18, 3) := by decide +kernel
theorem dX6_bottleAt_4 : decode cX6_bottleAt 4 = .ok (.iload_n 1, 1) := by decide +kernel
theorem dX6_bottleAt_5 : decode cX6_bottleAt 5 = .ok (.bipush 48, 2) := by decide +kernel
theorem dX6_bottleAt_7 : decode cX6_bottleAt 7 = .ok (.if_icmp .ge 12, 3) := by decide +kernel
theorem dX6_bottleAt_10 : decode cX6_bottleAt 10 = .ok (.aload_n 0, 1) := by decide +kernel
theorem dX6_bottleAt_11 : decode cX6_bottleAt 11 = .ok (.getfield 20, 3) := by decide +kernel
theorem dX6_bottleAt_14 : decode cX6_bottleAt 14 = .ok (.iload_n 1, 1) := by decide +kernel
theorem dX6_bottleAt_15 : decode cX6_bottleAt 15 = .ok (.iaload, 1) := by decide +kernel
theorem dX6_bottleAt_16 : decode cX6_bottleAt 16 = .ok (.goto 5, 3) := by decide +kernel
theorem dX6_bottleAt_19 : decode cX6_bottleAt 19 = .ok (.bipush (-2), 2) := by decide +kernel
theorem dX6_bottleAt_21 : decode cX6_bottleAt 21 = .ok (.ireturn, 1) := by decide +kernel
theorem dX6_plan_0 : decode cX6_plan 0 = .ok (.iconst 0, 1) := by decide +kernel
theorem dX6_plan_1 : decode cX6_plan 1 = .ok (.istore_n 2, 1) := by decide +kernel
theorem dX6_plan_2 : decode cX6_plan 2 = .ok (.iload_n 2, 1) := by decide +kernel
theorem dX6_plan_3 : decode cX6_plan 3 = .ok (.bipush 16, 2) := by decide +kernel
theorem dX6_plan_5 : decode cX6_plan 5 = .ok (.if_icmp .ge 20, 3) := by decide +kernel
theorem dX6_plan_8 : decode cX6_plan 8 = .ok (.aload_n 0, 1) := by decide +kernel
theorem dX6_plan_9 : decode cX6_plan 9 = .ok (.getfield 9, 3) := by decide +kernel
theorem dX6_plan_12 : decode cX6_plan 12 = .ok (.iload_n 2, 1) := by decide +kernel
theorem dX6_plan_13 : decode cX6_plan 13 = .ok (.aload_n 1, 1) := by decide +kernel
theorem dX6_plan_14 : decode cX6_plan 14 = .ok (.iload_n 2, 1) := by decide +kernel
theorem dX6_plan_15 : decode cX6_plan 15 = .ok (.invokevirtual 27, 3) := by decide +kernel
theorem dX6_plan_18 : decode cX6_plan 18 = .ok (.iastore, 1) := by decide +kernel
theorem dX6_plan_19 : decode cX6_plan 19 = .ok (.iinc 2 1, 3) := by decide +kernel
theorem dX6_plan_22 : decode cX6_plan 22 = .ok (.goto (-20), 3) := by decide +kernel
theorem dX6_plan_25 : decode cX6_plan 25 = .ok (.aload_n 0, 1) := by decide +kernel
theorem dX6_plan_26 : decode cX6_plan 26 = .ok (.invokevirtual 33, 3) := by decide +kernel
theorem dX6_plan_29 : decode cX6_plan 29 = .ok (.aload_n 0, 1) := by decide +kernel
theorem dX6_plan_30 : decode cX6_plan 30 = .ok (.invokevirtual 36, 3) := by decide +kernel
theorem dX6_plan_33 : decode cX6_plan 33 = .ok (.return_, 1) := by decide +kernel
theorem dX6_reckonChanges_0 : decode cX6_reckonChanges 0 = .ok (.aload_n 0, 1) := by decide +kernel
theorem dX6_reckonChanges_1 : decode cX6_reckonChanges 1 = .ok (.iconst 0, 1) := by decide +kernel
theorem dX6_reckonChanges_2 : decode cX6_reckonChanges 2 = .ok (.putfield 39, 3) := by decide +kernel
theorem dX6_reckonChanges_5 : decode cX6_reckonChanges 5 = .ok (.aload_n 0, 1) := by decide +kernel
theorem dX6_reckonChanges_6 : decode cX6_reckonChanges 6 = .ok (.iconst 0, 1) := by decide +kernel
theorem dX6_reckonChanges_7 : decode cX6_reckonChanges 7 = .ok (.putfield 43, 3) := by decide +kernel
theorem dX6_reckonChanges_10 : decode cX6_reckonChanges 10 = .ok (.iconst (-1), 1) := by decide +kernel
theorem dX6_reckonChanges_11 : decode cX6_reckonChanges 11 = .ok (.istore_n 1, 1) := by decide +kernel
theorem dX6_reckonChanges_12 : decode cX6_reckonChanges 12 = .ok (.aload_n 0, 1) := by decide +kernel
theorem dX6_reckonChanges_13 : decode cX6_reckonChanges 13 = .ok (.getfield 23, 3) := by decide +kernel
theorem dX6_reckonChanges_16 : decode cX6_reckonChanges 16 = .ok (.getfield 46, 3) := by decide +kernel
theorem dX6_reckonChanges_19 : decode cX6_reckonChanges 19 = .ok (.iconst 1, 1) := by decide +kernel
theorem dX6_reckonChanges_20 : decode cX6_reckonChanges 20 = .ok (.isub, 1) := by decide +kernel
theorem dX6_reckonChanges_21 : decode cX6_reckonChanges 21 = .ok (.istore_n 2, 1) := by decide +kernel
theorem dX6_reckonChanges_22 : decode cX6_reckonChanges 22 = .ok (.iload_n 2, 1) := by decide +kernel
theorem dX6_reckonChanges_23 : decode cX6_reckonChanges 23 = .ok (.ifCond .lt 87, 3) := by decide +kernel
theorem dX6_reckonChanges_26 : decode cX6_reckonChanges 26 = .ok (.aload_n 0, 1) := by decide +kernel
theorem dX6_reckonChanges_27 : decode cX6_reckonChanges 27 = .ok (.iload_n 2, 1) := by decide +kernel
theorem dX6_reckonChanges_28 : decode cX6_reckonChanges 28 = .ok (.invokevirtual 49, 3) := by decide +kernel
theorem dX6_reckonChanges_31 : decode cX6_reckonChanges 31 = .ok (.ifCond .ne 16, 3) := by decide +kernel
theorem dX6_reckonChanges_34 : decode cX6_reckonChanges 34 = .ok (.aload_n 0, 1) := by decide +kernel
theorem dX6_reckonChanges_35 : decode cX6_reckonChanges 35 = .ok (.dup, 1) := by decide +kernel
theorem dX6_reckonChanges_36 : decode cX6_reckonChanges 36 = .ok (.getfield 39, 3) := by decide +kernel
theorem dX6_reckonChanges_39 : decode cX6_reckonChanges 39 = .ok (.iconst 1, 1) := by decide +kernel
theorem dX6_reckonChanges_40 : decode cX6_reckonChanges 40 = .ok (.iadd, 1) := by decide +kernel
theorem dX6_reckonChanges_41 : decode cX6_reckonChanges 41 = .ok (.putfield 39, 3) := by decide +kernel
theorem dX6_reckonChanges_44 : decode cX6_reckonChanges 44 = .ok (.goto 60, 3) := by decide +kernel
theorem dX6_reckonChanges_47 : decode cX6_reckonChanges 47 = .ok (.sipush 1000, 3) := by decide +kernel
theorem dX6_reckonChanges_50 : decode cX6_reckonChanges 50 = .ok (.istore_n 3, 1) := by decide +kernel
theorem dX6_reckonChanges_51 : decode cX6_reckonChanges 51 = .ok (.iconst 0, 1) := by decide +kernel
theorem dX6_reckonChanges_52 : decode cX6_reckonChanges 52 = .ok (.istore 4, 2) := by decide +kernel
theorem dX6_reckonChanges_54 : decode cX6_reckonChanges 54 = .ok (.iload 4, 2) := by decide +kernel
theorem dX6_reckonChanges_56 : decode cX6_reckonChanges 56 = .ok (.bipush 8, 2) := by decide +kernel
theorem dX6_reckonChanges_58 : decode cX6_reckonChanges 58 = .ok (.if_icmp .ge 39, 3) := by decide +kernel
theorem dX6_reckonChanges_61 : decode cX6_reckonChanges 61 = .ok (.aload_n 0, 1) := by decide +kernel
theorem dX6_reckonChanges_62 : decode cX6_reckonChanges 62 = .ok (.iload_n 2, 1) := by decide +kernel
theorem dX6_reckonChanges_63 : decode cX6_reckonChanges 63 = .ok (.iload 4, 2) := by decide +kernel
theorem dX6_reckonChanges_65 : decode cX6_reckonChanges 65 = .ok (.iload_n 1, 1) := by decide +kernel
theorem dX6_reckonChanges_66 : decode cX6_reckonChanges 66 = .ok (.invokevirtual 52, 3) := by decide +kernel
theorem dX6_reckonChanges_69 : decode cX6_reckonChanges 69 = .ok (.istore 5, 2) := by decide +kernel
theorem dX6_reckonChanges_71 : decode cX6_reckonChanges 71 = .ok (.aload_n 0, 1) := by decide +kernel
theorem dX6_reckonChanges_72 : decode cX6_reckonChanges 72 = .ok (.getfield 17, 3) := by decide +kernel
theorem dX6_reckonChanges_75 : decode cX6_reckonChanges 75 = .ok (.iload_n 2, 1) := by decide +kernel
theorem dX6_reckonChanges_76 : decode cX6_reckonChanges 76 = .ok (.iload 4, 2) := by decide +kernel
theorem dX6_reckonChanges_78 : decode cX6_reckonChanges 78 = .ok (.invokestatic 56, 3) := by decide +kernel
theorem dX6_reckonChanges_81 : decode cX6_reckonChanges 81 = .ok (.iload 5, 2) := by decide +kernel
theorem dX6_reckonChanges_83 : decode cX6_reckonChanges 83 = .ok (.iastore, 1) := by decide +kernel
theorem dX6_reckonChanges_84 : decode cX6_reckonChanges 84 = .ok (.iload_n 3, 1) := by decide +kernel
theorem dX6_reckonChanges_85 : decode cX6_reckonChanges 85 = .ok (.iload 5, 2) := by decide +kernel
theorem dX6_reckonChanges_87 : decode cX6_reckonChanges 87 = .ok (.invokestatic 60, 3) := by decide +kernel
theorem dX6_reckonChanges_90 : decode cX6_reckonChanges 90 = .ok (.istore_n 3, 1) := by decide +kernel
theorem dX6_reckonChanges_91 : decode cX6_reckonChanges 91 = .ok (.iinc 4 1, 3) := by decide +kernel
theorem dX6_reckonChanges_94 : decode cX6_reckonChanges 94 = .ok (.goto (-40), 3) := by decide +kernel
theorem dX6_reckonChanges_97 : decode cX6_reckonChanges 97 = .ok (.aload_n 0, 1) := by decide +kernel
theorem dX6_reckonChanges_98 : decode cX6_reckonChanges 98 = .ok (.iload_n 3, 1) := by decide +kernel
theorem dX6_reckonChanges_99 : decode cX6_reckonChanges 99 = .ok (.putfield 43, 3) := by decide +kernel
theorem dX6_reckonChanges_102 : decode cX6_reckonChanges 102 = .ok (.iload_n 2, 1) := by decide +kernel
theorem dX6_reckonChanges_103 : decode cX6_reckonChanges 103 = .ok (.istore_n 1, 1) := by decide +kernel
theorem dX6_reckonChanges_104 : decode cX6_reckonChanges 104 = .ok (.iinc 2 (-1), 3) := by decide +kernel
theorem dX6_reckonChanges_107 : decode cX6_reckonChanges 107 = .ok (.goto (-85), 3) := by decide +kernel
theorem dX6_reckonChanges_110 : decode cX6_reckonChanges 110 = .ok (.return_, 1) := by decide +kernel
theorem dX6_costAt_0 : decode cX6_costAt 0 = .ok (.aload_n 0, 1) := by decide +kernel
theorem dX6_costAt_1 : decode cX6_costAt 1 = .ok (.iload_n 1, 1) := by decide +kernel
theorem dX6_costAt_2 : decode cX6_costAt 2 = .ok (.invokevirtual 49, 3) := by decide +kernel
theorem dX6_costAt_5 : decode cX6_costAt 5 = .ok (.iload_n 2, 1) := by decide +kernel
theorem dX6_costAt_6 : decode cX6_costAt 6 = .ok (.ishr, 1) := by decide +kernel
theorem dX6_costAt_7 : decode cX6_costAt 7 = .ok (.iconst 1, 1) := by decide +kernel
theorem dX6_costAt_8 : decode cX6_costAt 8 = .ok (.iand, 1) := by decide +kernel
theorem dX6_costAt_9 : decode cX6_costAt 9 = .ok (.ifCond .ne 7, 3) := by decide +kernel
theorem dX6_costAt_12 : decode cX6_costAt 12 = .ok (.sipush 1000, 3) := by decide +kernel
theorem dX6_costAt_15 : decode cX6_costAt 15 = .ok (.ireturn, 1) := by decide +kernel
theorem dX6_costAt_16 : decode cX6_costAt 16 = .ok (.iload_n 3, 1) := by decide +kernel
theorem dX6_costAt_17 : decode cX6_costAt 17 = .ok (.iconst (-1), 1) := by decide +kernel
theorem dX6_costAt_18 : decode cX6_costAt 18 = .ok (.if_icmp .ne 7, 3) := by decide +kernel
theorem dX6_costAt_21 : decode cX6_costAt 21 = .ok (.iconst 0, 1) := by decide +kernel
theorem dX6_costAt_22 : decode cX6_costAt 22 = .ok (.goto 22, 3) := by decide +kernel
theorem dX6_costAt_25 : decode cX6_costAt 25 = .ok (.aload_n 0, 1) := by decide +kernel
theorem dX6_costAt_26 : decode cX6_costAt 26 = .ok (.getfield 17, 3) := by decide +kernel
theorem dX6_costAt_29 : decode cX6_costAt 29 = .ok (.iload_n 3, 1) := by decide +kernel
theorem dX6_costAt_30 : decode cX6_costAt 30 = .ok (.iload_n 2, 1) := by decide +kernel
theorem dX6_costAt_31 : decode cX6_costAt 31 = .ok (.invokestatic 56, 3) := by decide +kernel
theorem dX6_costAt_34 : decode cX6_costAt 34 = .ok (.iaload, 1) := by decide +kernel
theorem dX6_costAt_35 : decode cX6_costAt 35 = .ok (.aload_n 0, 1) := by decide +kernel
theorem dX6_costAt_36 : decode cX6_costAt 36 = .ok (.getfield 43, 3) := by decide +kernel
theorem dX6_costAt_39 : decode cX6_costAt 39 = .ok (.iconst 1, 1) := by decide +kernel
theorem dX6_costAt_40 : decode cX6_costAt 40 = .ok (.iadd, 1) := by decide +kernel
theorem dX6_costAt_41 : decode cX6_costAt 41 = .ok (.invokestatic 60, 3) := by decide +kernel
theorem dX6_costAt_44 : decode cX6_costAt 44 = .ok (.ireturn, 1) := by decide +kernel
theorem dX6_chooseBottles_0 : decode cX6_chooseBottles 0 = .ok (.aload_n 0, 1) := by decide +kernel
theorem dX6_chooseBottles_1 : decode cX6_chooseBottles 1 = .ok (.getfield 43, 3) := by decide +kernel
theorem dX6_chooseBottles_4 : decode cX6_chooseBottles 4 = .ok (.istore_n 1, 1) := by decide +kernel
theorem dX6_chooseBottles_5 : decode cX6_chooseBottles 5 = .ok (.iconst (-1), 1) := by decide +kernel
theorem dX6_chooseBottles_6 : decode cX6_chooseBottles 6 = .ok (.istore_n 2, 1) := by decide +kernel
theorem dX6_chooseBottles_7 : decode cX6_chooseBottles 7 = .ok (.iconst 0, 1) := by decide +kernel
theorem dX6_chooseBottles_8 : decode cX6_chooseBottles 8 = .ok (.istore_n 3, 1) := by decide +kernel
theorem dX6_chooseBottles_9 : decode cX6_chooseBottles 9 = .ok (.iload_n 3, 1) := by decide +kernel
theorem dX6_chooseBottles_10 : decode cX6_chooseBottles 10 = .ok (.aload_n 0, 1) := by decide +kernel
theorem dX6_chooseBottles_11 : decode cX6_chooseBottles 11 = .ok (.getfield 23, 3) := by decide +kernel
theorem dX6_chooseBottles_14 : decode cX6_chooseBottles 14 = .ok (.getfield 46, 3) := by decide +kernel
theorem dX6_chooseBottles_17 : decode cX6_chooseBottles 17 = .ok (.if_icmp .ge 111, 3) := by decide +kernel
theorem dX6_chooseBottles_20 : decode cX6_chooseBottles 20 = .ok (.iload_n 3, 1) := by decide +kernel
theorem dX6_chooseBottles_21 : decode cX6_chooseBottles 21 = .ok (.bipush 48, 2) := by decide +kernel
theorem dX6_chooseBottles_23 : decode cX6_chooseBottles 23 = .ok (.if_icmp .ge 105, 3) := by decide +kernel
theorem dX6_chooseBottles_26 : decode cX6_chooseBottles 26 = .ok (.aload_n 0, 1) := by decide +kernel
theorem dX6_chooseBottles_27 : decode cX6_chooseBottles 27 = .ok (.getfield 20, 3) := by decide +kernel
theorem dX6_chooseBottles_30 : decode cX6_chooseBottles 30 = .ok (.iload_n 3, 1) := by decide +kernel
theorem dX6_chooseBottles_31 : decode cX6_chooseBottles 31 = .ok (.bipush (-2), 2) := by decide +kernel
theorem dX6_chooseBottles_33 : decode cX6_chooseBottles 33 = .ok (.iastore, 1) := by decide +kernel
theorem dX6_chooseBottles_34 : decode cX6_chooseBottles 34 = .ok (.aload_n 0, 1) := by decide +kernel
theorem dX6_chooseBottles_35 : decode cX6_chooseBottles 35 = .ok (.iload_n 3, 1) := by decide +kernel
theorem dX6_chooseBottles_36 : decode cX6_chooseBottles 36 = .ok (.invokevirtual 49, 3) := by decide +kernel
theorem dX6_chooseBottles_39 : decode cX6_chooseBottles 39 = .ok (.ifCond .ne 6, 3) := by decide +kernel
theorem dX6_chooseBottles_42 : decode cX6_chooseBottles 42 = .ok (.goto 80, 3) := by decide +kernel
theorem dX6_chooseBottles_45 : decode cX6_chooseBottles 45 = .ok (.bipush 7, 2) := by decide +kernel
theorem dX6_chooseBottles_47 : decode cX6_chooseBottles 47 = .ok (.istore 4, 2) := by decide +kernel
theorem dX6_chooseBottles_49 : decode cX6_chooseBottles 49 = .ok (.iload 4, 2) := by decide +kernel
theorem dX6_chooseBottles_51 : decode cX6_chooseBottles 51 = .ok (.ifCond .lt 53, 3) := by decide +kernel
theorem dX6_chooseBottles_54 : decode cX6_chooseBottles 54 = .ok (.iload_n 2, 1) := by decide +kernel
theorem dX6_chooseBottles_55 : decode cX6_chooseBottles 55 = .ok (.iconst (-1), 1) := by decide +kernel
theorem dX6_chooseBottles_56 : decode cX6_chooseBottles 56 = .ok (.if_icmp .eq 9, 3) := by decide +kernel
theorem dX6_chooseBottles_59 : decode cX6_chooseBottles 59 = .ok (.iload_n 2, 1) := by decide +kernel
theorem dX6_chooseBottles_60 : decode cX6_chooseBottles 60 = .ok (.iload 4, 2) := by decide +kernel
theorem dX6_chooseBottles_62 : decode cX6_chooseBottles 62 = .ok (.if_icmp .ne 7, 3) := by decide +kernel
theorem dX6_chooseBottles_65 : decode cX6_chooseBottles 65 = .ok (.iconst 0, 1) := by decide +kernel
theorem dX6_chooseBottles_66 : decode cX6_chooseBottles 66 = .ok (.goto 4, 3) := by decide +kernel
theorem dX6_chooseBottles_69 : decode cX6_chooseBottles 69 = .ok (.iconst 1, 1) := by decide +kernel
theorem dX6_chooseBottles_70 : decode cX6_chooseBottles 70 = .ok (.istore 5, 2) := by decide +kernel
theorem dX6_chooseBottles_72 : decode cX6_chooseBottles 72 = .ok (.iload 5, 2) := by decide +kernel
theorem dX6_chooseBottles_74 : decode cX6_chooseBottles 74 = .ok (.aload_n 0, 1) := by decide +kernel
theorem dX6_chooseBottles_75 : decode cX6_chooseBottles 75 = .ok (.getfield 17, 3) := by decide +kernel
theorem dX6_chooseBottles_78 : decode cX6_chooseBottles 78 = .ok (.iload_n 3, 1) := by decide +kernel
theorem dX6_chooseBottles_79 : decode cX6_chooseBottles 79 = .ok (.iload 4, 2) := by decide +kernel
theorem dX6_chooseBottles_81 : decode cX6_chooseBottles 81 = .ok (.invokestatic 56, 3) := by decide +kernel
theorem dX6_chooseBottles_84 : decode cX6_chooseBottles 84 = .ok (.iaload, 1) := by decide +kernel
theorem dX6_chooseBottles_85 : decode cX6_chooseBottles 85 = .ok (.iadd, 1) := by decide +kernel
theorem dX6_chooseBottles_86 : decode cX6_chooseBottles 86 = .ok (.iload_n 1, 1) := by decide +kernel
theorem dX6_chooseBottles_87 : decode cX6_chooseBottles 87 = .ok (.if_icmp .ne 11, 3) := by decide +kernel
theorem dX6_chooseBottles_90 : decode cX6_chooseBottles 90 = .ok (.aload_n 0, 1) := by decide +kernel
theorem dX6_chooseBottles_91 : decode cX6_chooseBottles 91 = .ok (.getfield 20, 3) := by decide +kernel
theorem dX6_chooseBottles_94 : decode cX6_chooseBottles 94 = .ok (.iload_n 3, 1) := by decide +kernel
theorem dX6_chooseBottles_95 : decode cX6_chooseBottles 95 = .ok (.iload 4, 2) := by decide +kernel
theorem dX6_chooseBottles_97 : decode cX6_chooseBottles 97 = .ok (.iastore, 1) := by decide +kernel
theorem dX6_chooseBottles_98 : decode cX6_chooseBottles 98 = .ok (.iinc 4 (-1), 3) := by decide +kernel
theorem dX6_chooseBottles_101 : decode cX6_chooseBottles 101 = .ok (.goto (-52), 3) := by decide +kernel
theorem dX6_chooseBottles_104 : decode cX6_chooseBottles 104 = .ok (.aload_n 0, 1) := by decide +kernel
theorem dX6_chooseBottles_105 : decode cX6_chooseBottles 105 = .ok (.getfield 20, 3) := by decide +kernel
theorem dX6_chooseBottles_108 : decode cX6_chooseBottles 108 = .ok (.iload_n 3, 1) := by decide +kernel
theorem dX6_chooseBottles_109 : decode cX6_chooseBottles 109 = .ok (.iaload, 1) := by decide +kernel
theorem dX6_chooseBottles_110 : decode cX6_chooseBottles 110 = .ok (.istore_n 2, 1) := by decide +kernel
theorem dX6_chooseBottles_111 : decode cX6_chooseBottles 111 = .ok (.aload_n 0, 1) := by decide +kernel
theorem dX6_chooseBottles_112 : decode cX6_chooseBottles 112 = .ok (.getfield 17, 3) := by decide +kernel
theorem dX6_chooseBottles_115 : decode cX6_chooseBottles 115 = .ok (.iload_n 3, 1) := by decide +kernel
theorem dX6_chooseBottles_116 : decode cX6_chooseBottles 116 = .ok (.iload_n 2, 1) := by decide +kernel
theorem dX6_chooseBottles_117 : decode cX6_chooseBottles 117 = .ok (.invokestatic 56, 3) := by decide +kernel
theorem dX6_chooseBottles_120 : decode cX6_chooseBottles 120 = .ok (.iaload, 1) := by decide +kernel
theorem dX6_chooseBottles_121 : decode cX6_chooseBottles 121 = .ok (.istore_n 1, 1) := by decide +kernel
theorem dX6_chooseBottles_122 : decode cX6_chooseBottles 122 = .ok (.iinc 3 1, 3) := by decide +kernel
theorem dX6_chooseBottles_125 : decode cX6_chooseBottles 125 = .ok (.goto (-116), 3) := by decide +kernel
theorem dX6_chooseBottles_128 : decode cX6_chooseBottles 128 = .ok (.return_, 1) := by decide +kernel
theorem dX6_bearersAt_0 : decode cX6_bearersAt 0 = .ok (.aload_n 0, 1) := by decide +kernel
theorem dX6_bearersAt_1 : decode cX6_bearersAt 1 = .ok (.getfield 9, 3) := by decide +kernel
theorem dX6_bearersAt_4 : decode cX6_bearersAt 4 = .ok (.aload_n 0, 1) := by decide +kernel
theorem dX6_bearersAt_5 : decode cX6_bearersAt 5 = .ok (.getfield 23, 3) := by decide +kernel
theorem dX6_bearersAt_8 : decode cX6_bearersAt 8 = .ok (.iload_n 1, 1) := by decide +kernel
theorem dX6_bearersAt_9 : decode cX6_bearersAt 9 = .ok (.invokevirtual 65, 3) := by decide +kernel
theorem dX6_bearersAt_12 : decode cX6_bearersAt 12 = .ok (.bipush 15, 2) := by decide +kernel
theorem dX6_bearersAt_14 : decode cX6_bearersAt 14 = .ok (.iand, 1) := by decide +kernel
theorem dX6_bearersAt_15 : decode cX6_bearersAt 15 = .ok (.iaload, 1) := by decide +kernel
theorem dX6_bearersAt_16 : decode cX6_bearersAt 16 = .ok (.ireturn, 1) := by decide +kernel
theorem dX6_cell_0 : decode cX6_cell 0 = .ok (.iload_n 0, 1) := by decide +kernel
theorem dX6_cell_1 : decode cX6_cell 1 = .ok (.bipush 47, 2) := by decide +kernel
theorem dX6_cell_3 : decode cX6_cell 3 = .ok (.invokestatic 68, 3) := by decide +kernel
theorem dX6_cell_6 : decode cX6_cell 6 = .ok (.bipush 8, 2) := by decide +kernel
theorem dX6_cell_8 : decode cX6_cell 8 = .ok (.imul, 1) := by decide +kernel
theorem dX6_cell_9 : decode cX6_cell 9 = .ok (.iload_n 1, 1) := by decide +kernel
theorem dX6_cell_10 : decode cX6_cell 10 = .ok (.bipush 7, 2) := by decide +kernel
theorem dX6_cell_12 : decode cX6_cell 12 = .ok (.iand, 1) := by decide +kernel
theorem dX6_cell_13 : decode cX6_cell 13 = .ok (.iadd, 1) := by decide +kernel
theorem dX6_cell_14 : decode cX6_cell 14 = .ok (.ireturn, 1) := by decide +kernel
theorem dX7_init_0 : decode cX7_init 0 = .ok (.aload_n 0, 1) := by decide +kernel
theorem dX7_init_1 : decode cX7_init 1 = .ok (.invokespecial 3, 3) := by decide +kernel
theorem dX7_init_4 : decode cX7_init 4 = .ok (.aload_n 0, 1) := by decide +kernel
theorem dX7_init_5 : decode cX7_init 5 = .ok (.aload_n 1, 1) := by decide +kernel
theorem dX7_init_6 : decode cX7_init 6 = .ok (.putfield 9, 3) := by decide +kernel
theorem dX7_init_9 : decode cX7_init 9 = .ok (.return_, 1) := by decide +kernel
theorem dX7_writeDays_0 : decode cX7_writeDays 0 = .ok (.aload_n 0, 1) := by decide +kernel
theorem dX7_writeDays_1 : decode cX7_writeDays 1 = .ok (.iconst 0, 1) := by decide +kernel
theorem dX7_writeDays_2 : decode cX7_writeDays 2 = .ok (.putfield 15, 3) := by decide +kernel
theorem dX7_writeDays_5 : decode cX7_writeDays 5 = .ok (.aload_n 0, 1) := by decide +kernel
theorem dX7_writeDays_6 : decode cX7_writeDays 6 = .ok (.iconst 0, 1) := by decide +kernel
theorem dX7_writeDays_7 : decode cX7_writeDays 7 = .ok (.putfield 19, 3) := by decide +kernel
theorem dX7_writeDays_10 : decode cX7_writeDays 10 = .ok (.aload_n 0, 1) := by decide +kernel
theorem dX7_writeDays_11 : decode cX7_writeDays 11 = .ok (.iconst 0, 1) := by decide +kernel
theorem dX7_writeDays_12 : decode cX7_writeDays 12 = .ok (.putfield 22, 3) := by decide +kernel
theorem dX7_writeDays_15 : decode cX7_writeDays 15 = .ok (.iconst 0, 1) := by decide +kernel
theorem dX7_writeDays_16 : decode cX7_writeDays 16 = .ok (.istore 4, 2) := by decide +kernel
theorem dX7_writeDays_18 : decode cX7_writeDays 18 = .ok (.iload 4, 2) := by decide +kernel
theorem dX7_writeDays_20 : decode cX7_writeDays 20 = .ok (.iload_n 3, 1) := by decide +kernel
theorem dX7_writeDays_21 : decode cX7_writeDays 21 = .ok (.if_icmp .ge 79, 3) := by decide +kernel
theorem dX7_writeDays_24 : decode cX7_writeDays 24 = .ok (.aload_n 1, 1) := by decide +kernel
theorem dX7_writeDays_25 : decode cX7_writeDays 25 = .ok (.getfield 25, 3) := by decide +kernel
theorem dX7_writeDays_28 : decode cX7_writeDays 28 = .ok (.sipush 9999, 3) := by decide +kernel
theorem dX7_writeDays_31 : decode cX7_writeDays 31 = .ok (.if_icmp .ge 69, 3) := by decide +kernel
theorem dX7_writeDays_34 : decode cX7_writeDays 34 = .ok (.iconst 0, 1) := by decide +kernel
theorem dX7_writeDays_35 : decode cX7_writeDays 35 = .ok (.istore 5, 2) := by decide +kernel
theorem dX7_writeDays_37 : decode cX7_writeDays 37 = .ok (.iload 5, 2) := by decide +kernel
theorem dX7_writeDays_39 : decode cX7_writeDays 39 = .ok (.aload_n 0, 1) := by decide +kernel
theorem dX7_writeDays_40 : decode cX7_writeDays 40 = .ok (.getfield 9, 3) := by decide +kernel
theorem dX7_writeDays_43 : decode cX7_writeDays 43 = .ok (.getfield 30, 3) := by decide +kernel
theorem dX7_writeDays_46 : decode cX7_writeDays 46 = .ok (.if_icmp .ge 38, 3) := by decide +kernel
theorem dX7_writeDays_49 : decode cX7_writeDays 49 = .ok (.aload_n 2, 1) := by decide +kernel
theorem dX7_writeDays_50 : decode cX7_writeDays 50 = .ok (.iload 5, 2) := by decide +kernel
theorem dX7_writeDays_52 : decode cX7_writeDays 52 = .ok (.aload_n 1, 1) := by decide +kernel
theorem dX7_writeDays_53 : decode cX7_writeDays 53 = .ok (.getfield 25, 3) := by decide +kernel
theorem dX7_writeDays_56 : decode cX7_writeDays 56 = .ok (.aload_n 1, 1) := by decide +kernel
theorem dX7_writeDays_57 : decode cX7_writeDays 57 = .ok (.invokevirtual 35, 3) := by decide +kernel
theorem dX7_writeDays_60 : decode cX7_writeDays 60 = .ok (.invokevirtual 39, 3) := by decide +kernel
theorem dX7_writeDays_63 : decode cX7_writeDays 63 = .ok (.aload_n 0, 1) := by decide +kernel
theorem dX7_writeDays_64 : decode cX7_writeDays 64 = .ok (.aload_n 1, 1) := by decide +kernel
theorem dX7_writeDays_65 : decode cX7_writeDays 65 = .ok (.aload_n 2, 1) := by decide +kernel
theorem dX7_writeDays_66 : decode cX7_writeDays 66 = .ok (.aload_n 0, 1) := by decide +kernel
theorem dX7_writeDays_67 : decode cX7_writeDays 67 = .ok (.getfield 9, 3) := by decide +kernel
theorem dX7_writeDays_70 : decode cX7_writeDays 70 = .ok (.iload 5, 2) := by decide +kernel
theorem dX7_writeDays_72 : decode cX7_writeDays 72 = .ok (.invokevirtual 45, 3) := by decide +kernel
theorem dX7_writeDays_75 : decode cX7_writeDays 75 = .ok (.invokevirtual 49, 3) := by decide +kernel
theorem dX7_writeDays_78 : decode cX7_writeDays 78 = .ok (.iinc 5 1, 3) := by decide +kernel
theorem dX7_writeDays_81 : decode cX7_writeDays 81 = .ok (.goto (-44), 3) := by decide +kernel
theorem dX7_writeDays_84 : decode cX7_writeDays 84 = .ok (.aload_n 1, 1) := by decide +kernel
theorem dX7_writeDays_85 : decode cX7_writeDays 85 = .ok (.dup, 1) := by decide +kernel
theorem dX7_writeDays_86 : decode cX7_writeDays 86 = .ok (.getfield 25, 3) := by decide +kernel
theorem dX7_writeDays_89 : decode cX7_writeDays 89 = .ok (.iconst 1, 1) := by decide +kernel
theorem dX7_writeDays_90 : decode cX7_writeDays 90 = .ok (.iadd, 1) := by decide +kernel
theorem dX7_writeDays_91 : decode cX7_writeDays 91 = .ok (.putfield 25, 3) := by decide +kernel
theorem dX7_writeDays_94 : decode cX7_writeDays 94 = .ok (.iinc 4 1, 3) := by decide +kernel
theorem dX7_writeDays_97 : decode cX7_writeDays 97 = .ok (.goto (-79), 3) := by decide +kernel
theorem dX7_writeDays_100 : decode cX7_writeDays 100 = .ok (.return_, 1) := by decide +kernel
theorem dX7_writeWord_0 : decode cX7_writeWord 0 = .ok (.aload_n 0, 1) := by decide +kernel
theorem dX7_writeWord_1 : decode cX7_writeWord 1 = .ok (.aload_n 1, 1) := by decide +kernel
theorem dX7_writeWord_2 : decode cX7_writeWord 2 = .ok (.aload_n 2, 1) := by decide +kernel
theorem dX7_writeWord_3 : decode cX7_writeWord 3 = .ok (.iload_n 3, 1) := by decide +kernel
theorem dX7_writeWord_4 : decode cX7_writeWord 4 = .ok (.invokevirtual 53, 3) := by decide +kernel
theorem dX7_writeWord_7 : decode cX7_writeWord 7 = .ok (.istore 4, 2) := by decide +kernel
theorem dX7_writeWord_9 : decode cX7_writeWord 9 = .ok (.iload 4, 2) := by decide +kernel
theorem dX7_writeWord_11 : decode cX7_writeWord 11 = .ok (.iconst (-1), 1) := by decide +kernel
theorem dX7_writeWord_12 : decode cX7_writeWord 12 = .ok (.if_icmp .eq 18, 3) := by decide +kernel
theorem dX7_writeWord_15 : decode cX7_writeWord 15 = .ok (.aload_n 0, 1) := by decide +kernel
theorem dX7_writeWord_16 : decode cX7_writeWord 16 = .ok (.getfield 57, 3) := by decide +kernel
theorem dX7_writeWord_19 : decode cX7_writeWord 19 = .ok (.aload_n 1, 1) := by decide +kernel
theorem dX7_writeWord_20 : decode cX7_writeWord 20 = .ok (.getfield 60, 3) := by decide +kernel
theorem dX7_writeWord_23 : decode cX7_writeWord 23 = .ok (.if_icmp .gt 7, 3) := by decide +kernel
theorem dX7_writeWord_26 : decode cX7_writeWord 26 = .ok (.iconst 1, 1) := by decide +kernel
theorem dX7_writeWord_27 : decode cX7_writeWord 27 = .ok (.goto 4, 3) := by decide +kernel
theorem dX7_writeWord_30 : decode cX7_writeWord 30 = .ok (.iconst 0, 1) := by decide +kernel
theorem dX7_writeWord_31 : decode cX7_writeWord 31 = .ok (.istore 5, 2) := by decide +kernel
theorem dX7_writeWord_33 : decode cX7_writeWord 33 = .ok (.aload_n 1, 1) := by decide +kernel
theorem dX7_writeWord_34 : decode cX7_writeWord 34 = .ok (.iload 5, 2) := by decide +kernel
theorem dX7_writeWord_36 : decode cX7_writeWord 36 = .ok (.invokevirtual 63, 3) := by decide +kernel
theorem dX7_writeWord_39 : decode cX7_writeWord 39 = .ok (.iload 5, 2) := by decide +kernel
theorem dX7_writeWord_41 : decode cX7_writeWord 41 = .ok (.ifCond .eq 16, 3) := by decide +kernel
theorem dX7_writeWord_44 : decode cX7_writeWord 44 = .ok (.aload_n 0, 1) := by decide +kernel
theorem dX7_writeWord_45 : decode cX7_writeWord 45 = .ok (.dup, 1) := by decide +kernel
theorem dX7_writeWord_46 : decode cX7_writeWord 46 = .ok (.getfield 15, 3) := by decide +kernel
theorem dX7_writeWord_49 : decode cX7_writeWord 49 = .ok (.iconst 1, 1) := by decide +kernel
theorem dX7_writeWord_50 : decode cX7_writeWord 50 = .ok (.iadd, 1) := by decide +kernel
theorem dX7_writeWord_51 : decode cX7_writeWord 51 = .ok (.putfield 15, 3) := by decide +kernel
theorem dX7_writeWord_54 : decode cX7_writeWord 54 = .ok (.goto 13, 3) := by decide +kernel
theorem dX7_writeWord_57 : decode cX7_writeWord 57 = .ok (.aload_n 0, 1) := by decide +kernel
theorem dX7_writeWord_58 : decode cX7_writeWord 58 = .ok (.dup, 1) := by decide +kernel
theorem dX7_writeWord_59 : decode cX7_writeWord 59 = .ok (.getfield 19, 3) := by decide +kernel
theorem dX7_writeWord_62 : decode cX7_writeWord 62 = .ok (.iconst 1, 1) := by decide +kernel
theorem dX7_writeWord_63 : decode cX7_writeWord 63 = .ok (.iadd, 1) := by decide +kernel
theorem dX7_writeWord_64 : decode cX7_writeWord 64 = .ok (.putfield 19, 3) := by decide +kernel
theorem dX7_writeWord_67 : decode cX7_writeWord 67 = .ok (.iload 4, 2) := by decide +kernel
theorem dX7_writeWord_69 : decode cX7_writeWord 69 = .ok (.iconst (-1), 1) := by decide +kernel
theorem dX7_writeWord_70 : decode cX7_writeWord 70 = .ok (.if_icmp .eq 23, 3) := by decide +kernel
theorem dX7_writeWord_73 : decode cX7_writeWord 73 = .ok (.aload_n 1, 1) := by decide +kernel
theorem dX7_writeWord_74 : decode cX7_writeWord 74 = .ok (.iload 4, 2) := by decide +kernel
theorem dX7_writeWord_76 : decode cX7_writeWord 76 = .ok (.iload_n 3, 1) := by decide +kernel
theorem dX7_writeWord_77 : decode cX7_writeWord 77 = .ok (.invokevirtual 67, 3) := by decide +kernel
theorem dX7_writeWord_80 : decode cX7_writeWord 80 = .ok (.ifCond .eq 13, 3) := by decide +kernel
theorem dX7_writeWord_83 : decode cX7_writeWord 83 = .ok (.aload_n 0, 1) := by decide +kernel
theorem dX7_writeWord_84 : decode cX7_writeWord 84 = .ok (.dup, 1) := by decide +kernel
theorem dX7_writeWord_85 : decode cX7_writeWord 85 = .ok (.getfield 22, 3) := by decide +kernel
theorem dX7_writeWord_88 : decode cX7_writeWord 88 = .ok (.iconst 1, 1) := by decide +kernel
theorem dX7_writeWord_89 : decode cX7_writeWord 89 = .ok (.iadd, 1) := by decide +kernel
theorem dX7_writeWord_90 : decode cX7_writeWord 90 = .ok (.putfield 22, 3) := by decide +kernel
theorem dX7_writeWord_93 : decode cX7_writeWord 93 = .ok (.return_, 1) := by decide +kernel
theorem dX7_choose_0 : decode cX7_choose 0 = .ok (.iconst (-1), 1) := by decide +kernel
theorem dX7_choose_1 : decode cX7_choose 1 = .ok (.istore 4, 2) := by decide +kernel
theorem dX7_choose_3 : decode cX7_choose 3 = .ok (.iconst 0, 1) := by decide +kernel
theorem dX7_choose_4 : decode cX7_choose 4 = .ok (.istore 5, 2) := by decide +kernel
theorem dX7_choose_6 : decode cX7_choose 6 = .ok (.iconst 0, 1) := by decide +kernel
theorem dX7_choose_7 : decode cX7_choose 7 = .ok (.istore 6, 2) := by decide +kernel
theorem dX7_choose_9 : decode cX7_choose 9 = .ok (.iload 6, 2) := by decide +kernel
theorem dX7_choose_11 : decode cX7_choose 11 = .ok (.bipush 8, 2) := by decide +kernel
theorem dX7_choose_13 : decode cX7_choose 13 = .ok (.if_icmp .ge 135, 3) := by decide +kernel
theorem dX7_choose_16 : decode cX7_choose 16 = .ok (.aload_n 1, 1) := by decide +kernel
theorem dX7_choose_17 : decode cX7_choose 17 = .ok (.iload 6, 2) := by decide +kernel
theorem dX7_choose_19 : decode cX7_choose 19 = .ok (.invokevirtual 71, 3) := by decide +kernel
theorem dX7_choose_22 : decode cX7_choose 22 = .ok (.ifCond .eq 120, 3) := by decide +kernel
theorem dX7_choose_25 : decode cX7_choose 25 = .ok (.aload_n 1, 1) := by decide +kernel
theorem dX7_choose_26 : decode cX7_choose 26 = .ok (.iload 6, 2) := by decide +kernel
theorem dX7_choose_28 : decode cX7_choose 28 = .ok (.invokevirtual 75, 3) := by decide +kernel
theorem dX7_choose_31 : decode cX7_choose 31 = .ok (.ifCond .ne 6, 3) := by decide +kernel
theorem dX7_choose_34 : decode cX7_choose 34 = .ok (.goto 108, 3) := by decide +kernel
theorem dX7_choose_37 : decode cX7_choose 37 = .ok (.aload_n 1, 1) := by decide +kernel
theorem dX7_choose_38 : decode cX7_choose 38 = .ok (.iload 6, 2) := by decide +kernel
theorem dX7_choose_40 : decode cX7_choose 40 = .ok (.iload_n 3, 1) := by decide +kernel
theorem dX7_choose_41 : decode cX7_choose 41 = .ok (.invokevirtual 78, 3) := by decide +kernel
theorem dX7_choose_44 : decode cX7_choose 44 = .ok (.istore 7, 2) := by decide +kernel
theorem dX7_choose_46 : decode cX7_choose 46 = .ok (.aload_n 2, 1) := by decide +kernel
theorem dX7_choose_47 : decode cX7_choose 47 = .ok (.aload_n 1, 1) := by decide +kernel
theorem dX7_choose_48 : decode cX7_choose 48 = .ok (.iload 6, 2) := by decide +kernel
theorem dX7_choose_50 : decode cX7_choose 50 = .ok (.iload_n 3, 1) := by decide +kernel
theorem dX7_choose_51 : decode cX7_choose 51 = .ok (.iload 7, 2) := by decide +kernel
theorem dX7_choose_53 : decode cX7_choose 53 = .ok (.invokevirtual 82, 3) := by decide +kernel
theorem dX7_choose_56 : decode cX7_choose 56 = .ok (.aload_n 2, 1) := by decide +kernel
theorem dX7_choose_57 : decode cX7_choose 57 = .ok (.invokevirtual 86, 3) := by decide +kernel
theorem dX7_choose_60 : decode cX7_choose 60 = .ok (.ifCond .ne 6, 3) := by decide +kernel
theorem dX7_choose_63 : decode cX7_choose 63 = .ok (.goto 79, 3) := by decide +kernel
theorem dX7_choose_66 : decode cX7_choose 66 = .ok (.aload_n 2, 1) := by decide +kernel
theorem dX7_choose_67 : decode cX7_choose 67 = .ok (.bipush 101, 2) := by decide +kernel
theorem dX7_choose_69 : decode cX7_choose 69 = .ok (.sipush 9999, 3) := by decide +kernel
theorem dX7_choose_72 : decode cX7_choose 72 = .ok (.iconst 1, 1) := by decide +kernel
theorem dX7_choose_73 : decode cX7_choose 73 = .ok (.invokevirtual 90, 3) := by decide +kernel
theorem dX7_choose_76 : decode cX7_choose 76 = .ok (.istore 8, 2) := by decide +kernel
theorem dX7_choose_78 : decode cX7_choose 78 = .ok (.iload 8, 2) := by decide +kernel
theorem dX7_choose_80 : decode cX7_choose 80 = .ok (.ifCond .eq 62, 3) := by decide +kernel
theorem dX7_choose_83 : decode cX7_choose 83 = .ok (.iload 8, 2) := by decide +kernel
theorem dX7_choose_85 : decode cX7_choose 85 = .ok (.iload 5, 2) := by decide +kernel
theorem dX7_choose_87 : decode cX7_choose 87 = .ok (.if_icmp .ge 6, 3) := by decide +kernel
theorem dX7_choose_90 : decode cX7_choose 90 = .ok (.goto 52, 3) := by decide +kernel
theorem dX7_choose_93 : decode cX7_choose 93 = .ok (.iload 7, 2) := by decide +kernel
theorem dX7_choose_95 : decode cX7_choose 95 = .ok (.aload_n 2, 1) := by decide +kernel
theorem dX7_choose_96 : decode cX7_choose 96 = .ok (.bipush 102, 2) := by decide +kernel
theorem dX7_choose_98 : decode cX7_choose 98 = .ok (.bipush 99, 2) := by decide +kernel
theorem dX7_choose_100 : decode cX7_choose 100 = .ok (.iconst 0, 1) := by decide +kernel
theorem dX7_choose_101 : decode cX7_choose 101 = .ok (.invokevirtual 90, 3) := by decide +kernel
theorem dX7_choose_104 : decode cX7_choose 104 = .ok (.iadd, 1) := by decide +kernel
theorem dX7_choose_105 : decode cX7_choose 105 = .ok (.bipush 99, 2) := by decide +kernel
theorem dX7_choose_107 : decode cX7_choose 107 = .ok (.invokestatic 94, 3) := by decide +kernel
theorem dX7_choose_110 : decode cX7_choose 110 = .ok (.istore 9, 2) := by decide +kernel
theorem dX7_choose_112 : decode cX7_choose 112 = .ok (.iload 8, 2) := by decide +kernel
theorem dX7_choose_114 : decode cX7_choose 114 = .ok (.iload 5, 2) := by decide +kernel
theorem dX7_choose_116 : decode cX7_choose 116 = .ok (.if_icmp .gt 12, 3) := by decide +kernel
theorem dX7_choose_119 : decode cX7_choose 119 = .ok (.iload 9, 2) := by decide +kernel
theorem dX7_choose_121 : decode cX7_choose 121 = .ok (.aload_n 0, 1) := by decide +kernel
theorem dX7_choose_122 : decode cX7_choose 122 = .ok (.getfield 57, 3) := by decide +kernel
theorem dX7_choose_125 : decode cX7_choose 125 = .ok (.if_icmp .ge 17, 3) := by decide +kernel
theorem dX7_choose_128 : decode cX7_choose 128 = .ok (.iload 6, 2) := by decide +kernel
theorem dX7_choose_130 : decode cX7_choose 130 = .ok (.istore 4, 2) := by decide +kernel
theorem dX7_choose_132 : decode cX7_choose 132 = .ok (.iload 8, 2) := by decide +kernel
theorem dX7_choose_134 : decode cX7_choose 134 = .ok (.istore 5, 2) := by decide +kernel
theorem dX7_choose_136 : decode cX7_choose 136 = .ok (.aload_n 0, 1) := by decide +kernel
theorem dX7_choose_137 : decode cX7_choose 137 = .ok (.iload 9, 2) := by decide +kernel
theorem dX7_choose_139 : decode cX7_choose 139 = .ok (.putfield 57, 3) := by decide +kernel
theorem dX7_choose_142 : decode cX7_choose 142 = .ok (.iinc 6 1, 3) := by decide +kernel
theorem dX7_choose_145 : decode cX7_choose 145 = .ok (.goto (-136), 3) := by decide +kernel
theorem dX7_choose_148 : decode cX7_choose 148 = .ok (.iload 4, 2) := by decide +kernel
theorem dX7_choose_150 : decode cX7_choose 150 = .ok (.ireturn, 1) := by decide +kernel
theorem dX9_init_0 : decode cX9_init 0 = .ok (.aload_n 0, 1) := by decide +kernel
theorem dX9_init_1 : decode cX9_init 1 = .ok (.invokespecial 3, 3) := by decide +kernel
theorem dX9_init_4 : decode cX9_init 4 = .ok (.aload_n 0, 1) := by decide +kernel
theorem dX9_init_5 : decode cX9_init 5 = .ok (.sipush 260, 3) := by decide +kernel
theorem dX9_init_8 : decode cX9_init 8 = .ok (.newarray .int, 2) := by decide +kernel
theorem dX9_init_10 : decode cX9_init 10 = .ok (.putfield 11, 3) := by decide +kernel
theorem dX9_init_13 : decode cX9_init 13 = .ok (.return_, 1) := by decide +kernel
theorem dX9_hasRoomFor_0 : decode cX9_hasRoomFor 0 = .ok (.aload_n 0, 1) := by decide +kernel
theorem dX9_hasRoomFor_1 : decode cX9_hasRoomFor 1 = .ok (.getfield 15, 3) := by decide +kernel
theorem dX9_hasRoomFor_4 : decode cX9_hasRoomFor 4 = .ok (.iload_n 1, 1) := by decide +kernel
theorem dX9_hasRoomFor_5 : decode cX9_hasRoomFor 5 = .ok (.iadd, 1) := by decide +kernel
theorem dX9_hasRoomFor_6 : decode cX9_hasRoomFor 6 = .ok (.sipush 260, 3) := by decide +kernel
theorem dX9_hasRoomFor_9 : decode cX9_hasRoomFor 9 = .ok (.if_icmp .gt 7, 3) := by decide +kernel
theorem dX9_hasRoomFor_12 : decode cX9_hasRoomFor 12 = .ok (.iconst 1, 1) := by decide +kernel
theorem dX9_hasRoomFor_13 : decode cX9_hasRoomFor 13 = .ok (.goto 4, 3) := by decide +kernel
theorem dX9_hasRoomFor_16 : decode cX9_hasRoomFor 16 = .ok (.iconst 0, 1) := by decide +kernel
theorem dX9_hasRoomFor_17 : decode cX9_hasRoomFor 17 = .ok (.ireturn, 1) := by decide +kernel
theorem dX9_has_0 : decode cX9_has 0 = .ok (.iload_n 1, 1) := by decide +kernel
theorem dX9_has_1 : decode cX9_has 1 = .ok (.aload_n 0, 1) := by decide +kernel
theorem dX9_has_2 : decode cX9_has 2 = .ok (.getfield 15, 3) := by decide +kernel
theorem dX9_has_5 : decode cX9_has 5 = .ok (.if_icmp .gt 7, 3) := by decide +kernel
theorem dX9_has_8 : decode cX9_has 8 = .ok (.iconst 1, 1) := by decide +kernel
theorem dX9_has_9 : decode cX9_has 9 = .ok (.goto 4, 3) := by decide +kernel
theorem dX9_has_12 : decode cX9_has 12 = .ok (.iconst 0, 1) := by decide +kernel
theorem dX9_has_13 : decode cX9_has 13 = .ok (.ireturn, 1) := by decide +kernel
theorem dX9_addFour_0 : decode cX9_addFour 0 = .ok (.bipush 24, 2) := by decide +kernel
theorem dX9_addFour_2 : decode cX9_addFour 2 = .ok (.istore_n 2, 1) := by decide +kernel
theorem dX9_addFour_3 : decode cX9_addFour 3 = .ok (.iload_n 2, 1) := by decide +kernel
theorem dX9_addFour_4 : decode cX9_addFour 4 = .ok (.ifCond .lt 45, 3) := by decide +kernel
theorem dX9_addFour_7 : decode cX9_addFour 7 = .ok (.aload_n 0, 1) := by decide +kernel
theorem dX9_addFour_8 : decode cX9_addFour 8 = .ok (.getfield 15, 3) := by decide +kernel
theorem dX9_addFour_11 : decode cX9_addFour 11 = .ok (.sipush 260, 3) := by decide +kernel
theorem dX9_addFour_14 : decode cX9_addFour 14 = .ok (.if_icmp .ge 35, 3) := by decide +kernel
theorem dX9_addFour_17 : decode cX9_addFour 17 = .ok (.aload_n 0, 1) := by decide +kernel
theorem dX9_addFour_18 : decode cX9_addFour 18 = .ok (.getfield 11, 3) := by decide +kernel
theorem dX9_addFour_21 : decode cX9_addFour 21 = .ok (.aload_n 0, 1) := by decide +kernel
theorem dX9_addFour_22 : decode cX9_addFour 22 = .ok (.getfield 15, 3) := by decide +kernel
theorem dX9_addFour_25 : decode cX9_addFour 25 = .ok (.iload_n 1, 1) := by decide +kernel
theorem dX9_addFour_26 : decode cX9_addFour 26 = .ok (.iload_n 2, 1) := by decide +kernel
theorem dX9_addFour_27 : decode cX9_addFour 27 = .ok (.ishr, 1) := by decide +kernel
theorem dX9_addFour_28 : decode cX9_addFour 28 = .ok (.sipush 255, 3) := by decide +kernel
theorem dX9_addFour_31 : decode cX9_addFour 31 = .ok (.iand, 1) := by decide +kernel
theorem dX9_addFour_32 : decode cX9_addFour 32 = .ok (.iastore, 1) := by decide +kernel
theorem dX9_addFour_33 : decode cX9_addFour 33 = .ok (.aload_n 0, 1) := by decide +kernel
theorem dX9_addFour_34 : decode cX9_addFour 34 = .ok (.dup, 1) := by decide +kernel
theorem dX9_addFour_35 : decode cX9_addFour 35 = .ok (.getfield 15, 3) := by decide +kernel
theorem dX9_addFour_38 : decode cX9_addFour 38 = .ok (.iconst 1, 1) := by decide +kernel
theorem dX9_addFour_39 : decode cX9_addFour 39 = .ok (.iadd, 1) := by decide +kernel
theorem dX9_addFour_40 : decode cX9_addFour 40 = .ok (.putfield 15, 3) := by decide +kernel
theorem dX9_addFour_43 : decode cX9_addFour 43 = .ok (.iinc 2 (-8), 3) := by decide +kernel
theorem dX9_addFour_46 : decode cX9_addFour 46 = .ok (.goto (-43), 3) := by decide +kernel
theorem dX9_addFour_49 : decode cX9_addFour 49 = .ok (.return_, 1) := by decide +kernel
theorem dX9_empty_0 : decode cX9_empty 0 = .ok (.aload_n 0, 1) := by decide +kernel
theorem dX9_empty_1 : decode cX9_empty 1 = .ok (.iconst 0, 1) := by decide +kernel
theorem dX9_empty_2 : decode cX9_empty 2 = .ok (.putfield 15, 3) := by decide +kernel
theorem dX9_empty_5 : decode cX9_empty 5 = .ok (.return_, 1) := by decide +kernel
theorem dX9_at_0 : decode cX9_at 0 = .ok (.iload_n 1, 1) := by decide +kernel
theorem dX9_at_1 : decode cX9_at 1 = .ok (.ifCond .lt 20, 3) := by decide +kernel
theorem dX9_at_4 : decode cX9_at 4 = .ok (.iload_n 1, 1) := by decide +kernel
theorem dX9_at_5 : decode cX9_at 5 = .ok (.aload_n 0, 1) := by decide +kernel
theorem dX9_at_6 : decode cX9_at 6 = .ok (.getfield 15, 3) := by decide +kernel
theorem dX9_at_9 : decode cX9_at 9 = .ok (.if_icmp .ge 12, 3) := by decide +kernel
theorem dX9_at_12 : decode cX9_at 12 = .ok (.aload_n 0, 1) := by decide +kernel
theorem dX9_at_13 : decode cX9_at 13 = .ok (.getfield 11, 3) := by decide +kernel
theorem dX9_at_16 : decode cX9_at 16 = .ok (.iload_n 1, 1) := by decide +kernel
theorem dX9_at_17 : decode cX9_at 17 = .ok (.iaload, 1) := by decide +kernel
theorem dX9_at_18 : decode cX9_at 18 = .ok (.goto 4, 3) := by decide +kernel
theorem dX9_at_21 : decode cX9_at 21 = .ok (.iconst 0, 1) := by decide +kernel
theorem dX9_at_22 : decode cX9_at 22 = .ok (.ireturn, 1) := by decide +kernel
theorem dX9_isOrderOf_0 : decode cX9_isOrderOf 0 = .ok (.iconst 0, 1) := by decide +kernel
theorem dX9_isOrderOf_1 : decode cX9_isOrderOf 1 = .ok (.istore_n 2, 1) := by decide +kernel
theorem dX9_isOrderOf_2 : decode cX9_isOrderOf 2 = .ok (.iconst 0, 1) := by decide +kernel
theorem dX9_isOrderOf_3 : decode cX9_isOrderOf 3 = .ok (.istore_n 3, 1) := by decide +kernel
theorem dX9_isOrderOf_4 : decode cX9_isOrderOf 4 = .ok (.iload_n 3, 1) := by decide +kernel
theorem dX9_isOrderOf_5 : decode cX9_isOrderOf 5 = .ok (.iload_n 1, 1) := by decide +kernel
theorem dX9_isOrderOf_6 : decode cX9_isOrderOf 6 = .ok (.if_icmp .ge 40, 3) := by decide +kernel
theorem dX9_isOrderOf_9 : decode cX9_isOrderOf 9 = .ok (.aload_n 0, 1) := by decide +kernel
theorem dX9_isOrderOf_10 : decode cX9_isOrderOf 10 = .ok (.iload_n 3, 1) := by decide +kernel
theorem dX9_isOrderOf_11 : decode cX9_isOrderOf 11 = .ok (.invokevirtual 19, 3) := by decide +kernel
theorem dX9_isOrderOf_14 : decode cX9_isOrderOf 14 = .ok (.istore 4, 2) := by decide +kernel
theorem dX9_isOrderOf_16 : decode cX9_isOrderOf 16 = .ok (.iload 4, 2) := by decide +kernel
theorem dX9_isOrderOf_18 : decode cX9_isOrderOf 18 = .ok (.iload_n 1, 1) := by decide +kernel
theorem dX9_isOrderOf_19 : decode cX9_isOrderOf 19 = .ok (.if_icmp .ge 12, 3) := by decide +kernel
theorem dX9_isOrderOf_22 : decode cX9_isOrderOf 22 = .ok (.iload_n 2, 1) := by decide +kernel
theorem dX9_isOrderOf_23 : decode cX9_isOrderOf 23 = .ok (.iload 4, 2) := by decide +kernel
theorem dX9_isOrderOf_25 : decode cX9_isOrderOf 25 = .ok (.ishr, 1) := by decide +kernel
theorem dX9_isOrderOf_26 : decode cX9_isOrderOf 26 = .ok (.iconst 1, 1) := by decide +kernel
theorem dX9_isOrderOf_27 : decode cX9_isOrderOf 27 = .ok (.iand, 1) := by decide +kernel
theorem dX9_isOrderOf_28 : decode cX9_isOrderOf 28 = .ok (.ifCond .eq 5, 3) := by decide +kernel
theorem dX9_isOrderOf_31 : decode cX9_isOrderOf 31 = .ok (.iconst 0, 1) := by decide +kernel
theorem dX9_isOrderOf_32 : decode cX9_isOrderOf 32 = .ok (.ireturn, 1) := by decide +kernel
theorem dX9_isOrderOf_33 : decode cX9_isOrderOf 33 = .ok (.iload_n 2, 1) := by decide +kernel
theorem dX9_isOrderOf_34 : decode cX9_isOrderOf 34 = .ok (.iconst 1, 1) := by decide +kernel
theorem dX9_isOrderOf_35 : decode cX9_isOrderOf 35 = .ok (.iload 4, 2) := by decide +kernel
theorem dX9_isOrderOf_37 : decode cX9_isOrderOf 37 = .ok (.ishl, 1) := by decide +kernel
theorem dX9_isOrderOf_38 : decode cX9_isOrderOf 38 = .ok (.ior, 1) := by decide +kernel
theorem dX9_isOrderOf_39 : decode cX9_isOrderOf 39 = .ok (.istore_n 2, 1) := by decide +kernel
theorem dX9_isOrderOf_40 : decode cX9_isOrderOf 40 = .ok (.iinc 3 1, 3) := by decide +kernel
theorem dX9_isOrderOf_43 : decode cX9_isOrderOf 43 = .ok (.goto (-39), 3) := by decide +kernel
theorem dX9_isOrderOf_46 : decode cX9_isOrderOf 46 = .ok (.iconst 1, 1) := by decide +kernel
theorem dX9_isOrderOf_47 : decode cX9_isOrderOf 47 = .ok (.ireturn, 1) := by decide +kernel
theorem dX9_begin_0 : decode cX9_begin 0 = .ok (.aload_n 0, 1) := by decide +kernel
theorem dX9_begin_1 : decode cX9_begin 1 = .ok (.iload_n 1, 1) := by decide +kernel
theorem dX9_begin_2 : decode cX9_begin 2 = .ok (.aload_n 0, 1) := by decide +kernel
theorem dX9_begin_3 : decode cX9_begin 3 = .ok (.getfield 15, 3) := by decide +kernel
theorem dX9_begin_6 : decode cX9_begin 6 = .ok (.invokestatic 23, 3) := by decide +kernel
theorem dX9_begin_9 : decode cX9_begin 9 = .ok (.putfield 29, 3) := by decide +kernel
theorem dX9_begin_12 : decode cX9_begin 12 = .ok (.aload_n 0, 1) := by decide +kernel
theorem dX9_begin_13 : decode cX9_begin 13 = .ok (.iconst 0, 1) := by decide +kernel
theorem dX9_begin_14 : decode cX9_begin 14 = .ok (.putfield 32, 3) := by decide +kernel
theorem dX9_begin_17 : decode cX9_begin 17 = .ok (.aload_n 0, 1) := by decide +kernel
theorem dX9_begin_18 : decode cX9_begin 18 = .ok (.iconst 0, 1) := by decide +kernel
theorem dX9_begin_19 : decode cX9_begin 19 = .ok (.putfield 35, 3) := by decide +kernel
theorem dX9_begin_22 : decode cX9_begin 22 = .ok (.return_, 1) := by decide +kernel
theorem dX9_sign_0 : decode cX9_sign 0 = .ok (.aload_n 0, 1) := by decide +kernel
theorem dX9_sign_1 : decode cX9_sign 1 = .ok (.getfield 35, 3) := by decide +kernel
theorem dX9_sign_4 : decode cX9_sign 4 = .ok (.ifCond .ne 25, 3) := by decide +kernel
theorem dX9_sign_7 : decode cX9_sign 7 = .ok (.aload_n 0, 1) := by decide +kernel
theorem dX9_sign_8 : decode cX9_sign 8 = .ok (.getfield 32, 3) := by decide +kernel
theorem dX9_sign_11 : decode cX9_sign 11 = .ok (.aload_n 0, 1) := by decide +kernel
theorem dX9_sign_12 : decode cX9_sign 12 = .ok (.getfield 29, 3) := by decide +kernel
theorem dX9_sign_15 : decode cX9_sign 15 = .ok (.if_icmp .ge 14, 3) := by decide +kernel
theorem dX9_sign_18 : decode cX9_sign 18 = .ok (.aload_n 0, 1) := by decide +kernel
theorem dX9_sign_19 : decode cX9_sign 19 = .ok (.aload_n 0, 1) := by decide +kernel
theorem dX9_sign_20 : decode cX9_sign 20 = .ok (.getfield 32, 3) := by decide +kernel
theorem dX9_sign_23 : decode cX9_sign 23 = .ok (.invokevirtual 19, 3) := by decide +kernel
theorem dX9_sign_26 : decode cX9_sign 26 = .ok (.goto 4, 3) := by decide +kernel
theorem dX9_sign_29 : decode cX9_sign 29 = .ok (.iconst (-1), 1) := by decide +kernel
theorem dX9_sign_30 : decode cX9_sign 30 = .ok (.ireturn, 1) := by decide +kernel
theorem dX9_isAtEnd_0 : decode cX9_isAtEnd 0 = .ok (.aload_n 0, 1) := by decide +kernel
theorem dX9_isAtEnd_1 : decode cX9_isAtEnd 1 = .ok (.getfield 32, 3) := by decide +kernel
theorem dX9_isAtEnd_4 : decode cX9_isAtEnd 4 = .ok (.aload_n 0, 1) := by decide +kernel
theorem dX9_isAtEnd_5 : decode cX9_isAtEnd 5 = .ok (.getfield 29, 3) := by decide +kernel
theorem dX9_isAtEnd_8 : decode cX9_isAtEnd 8 = .ok (.if_icmp .lt 7, 3) := by decide +kernel
theorem dX9_isAtEnd_11 : decode cX9_isAtEnd 11 = .ok (.iconst 1, 1) := by decide +kernel
theorem dX9_isAtEnd_12 : decode cX9_isAtEnd 12 = .ok (.goto 4, 3) := by decide +kernel
theorem dX9_isAtEnd_15 : decode cX9_isAtEnd 15 = .ok (.iconst 0, 1) := by decide +kernel
theorem dX9_isAtEnd_16 : decode cX9_isAtEnd 16 = .ok (.ireturn, 1) := by decide +kernel
theorem dX9_hasFailed_0 : decode cX9_hasFailed 0 = .ok (.aload_n 0, 1) := by decide +kernel
theorem dX9_hasFailed_1 : decode cX9_hasFailed 1 = .ok (.getfield 35, 3) := by decide +kernel
theorem dX9_hasFailed_4 : decode cX9_hasFailed 4 = .ok (.ifCond .eq 7, 3) := by decide +kernel
theorem dX9_hasFailed_7 : decode cX9_hasFailed 7 = .ok (.iconst 1, 1) := by decide +kernel
theorem dX9_hasFailed_8 : decode cX9_hasFailed 8 = .ok (.goto 4, 3) := by decide +kernel
theorem dX9_hasFailed_11 : decode cX9_hasFailed 11 = .ok (.iconst 0, 1) := by decide +kernel
theorem dX9_hasFailed_12 : decode cX9_hasFailed 12 = .ok (.ireturn, 1) := by decide +kernel
theorem dX9_step_0 : decode cX9_step 0 = .ok (.aload_n 0, 1) := by decide +kernel
theorem dX9_step_1 : decode cX9_step 1 = .ok (.getfield 32, 3) := by decide +kernel
theorem dX9_step_4 : decode cX9_step 4 = .ok (.aload_n 0, 1) := by decide +kernel
theorem dX9_step_5 : decode cX9_step 5 = .ok (.getfield 29, 3) := by decide +kernel
theorem dX9_step_8 : decode cX9_step 8 = .ok (.if_icmp .ge 13, 3) := by decide +kernel
theorem dX9_step_11 : decode cX9_step 11 = .ok (.aload_n 0, 1) := by decide +kernel
theorem dX9_step_12 : decode cX9_step 12 = .ok (.dup, 1) := by decide +kernel
theorem dX9_step_13 : decode cX9_step 13 = .ok (.getfield 32, 3) := by decide +kernel
theorem dX9_step_16 : decode cX9_step 16 = .ok (.iconst 1, 1) := by decide +kernel
theorem dX9_step_17 : decode cX9_step 17 = .ok (.iadd, 1) := by decide +kernel
theorem dX9_step_18 : decode cX9_step 18 = .ok (.putfield 32, 3) := by decide +kernel
theorem dX9_step_21 : decode cX9_step 21 = .ok (.return_, 1) := by decide +kernel
theorem dX9_fail_0 : decode cX9_fail 0 = .ok (.aload_n 0, 1) := by decide +kernel
theorem dX9_fail_1 : decode cX9_fail 1 = .ok (.iload_n 1, 1) := by decide +kernel
theorem dX9_fail_2 : decode cX9_fail 2 = .ok (.aload_n 0, 1) := by decide +kernel
theorem dX9_fail_3 : decode cX9_fail 3 = .ok (.getfield 32, 3) := by decide +kernel
theorem dX9_fail_6 : decode cX9_fail 6 = .ok (.invokevirtual 38, 3) := by decide +kernel
theorem dX9_fail_9 : decode cX9_fail 9 = .ok (.return_, 1) := by decide +kernel
theorem dX9_failAt_0 : decode cX9_failAt 0 = .ok (.aload_n 0, 1) := by decide +kernel
theorem dX9_failAt_1 : decode cX9_failAt 1 = .ok (.getfield 35, 3) := by decide +kernel
theorem dX9_failAt_4 : decode cX9_failAt 4 = .ok (.ifCond .ne 14, 3) := by decide +kernel
theorem dX9_failAt_7 : decode cX9_failAt 7 = .ok (.aload_n 0, 1) := by decide +kernel
theorem dX9_failAt_8 : decode cX9_failAt 8 = .ok (.sipush (-1000), 3) := by decide +kernel
theorem dX9_failAt_11 : decode cX9_failAt 11 = .ok (.iload_n 1, 1) := by decide +kernel
theorem dX9_failAt_12 : decode cX9_failAt 12 = .ok (.imul, 1) := by decide +kernel
theorem dX9_failAt_13 : decode cX9_failAt 13 = .ok (.iload_n 2, 1) := by decide +kernel
theorem dX9_failAt_14 : decode cX9_failAt 14 = .ok (.isub, 1) := by decide +kernel
theorem dX9_failAt_15 : decode cX9_failAt 15 = .ok (.putfield 35, 3) := by decide +kernel
theorem dX9_failAt_18 : decode cX9_failAt 18 = .ok (.return_, 1) := by decide +kernel
theorem dX9_take_0 : decode cX9_take 0 = .ok (.aload_n 0, 1) := by decide +kernel
theorem dX9_take_1 : decode cX9_take 1 = .ok (.invokevirtual 42, 3) := by decide +kernel
theorem dX9_take_4 : decode cX9_take 4 = .ok (.iload_n 1, 1) := by decide +kernel
theorem dX9_take_5 : decode cX9_take 5 = .ok (.if_icmp .ne 10, 3) := by decide +kernel
theorem dX9_take_8 : decode cX9_take 8 = .ok (.aload_n 0, 1) := by decide +kernel
theorem dX9_take_9 : decode cX9_take 9 = .ok (.invokevirtual 46, 3) := by decide +kernel
theorem dX9_take_12 : decode cX9_take 12 = .ok (.goto 8, 3) := by decide +kernel
theorem dX9_take_15 : decode cX9_take 15 = .ok (.aload_n 0, 1) := by decide +kernel
theorem dX9_take_16 : decode cX9_take 16 = .ok (.iconst 1, 1) := by decide +kernel
theorem dX9_take_17 : decode cX9_take 17 = .ok (.invokevirtual 49, 3) := by decide +kernel
theorem dX9_take_20 : decode cX9_take 20 = .ok (.return_, 1) := by decide +kernel
theorem dX9_readNumber_0 : decode cX9_readNumber 0 = .ok (.iconst 0, 1) := by decide +kernel
theorem dX9_readNumber_1 : decode cX9_readNumber 1 = .ok (.istore_n 2, 1) := by decide +kernel
theorem dX9_readNumber_2 : decode cX9_readNumber 2 = .ok (.iconst 0, 1) := by decide +kernel
theorem dX9_readNumber_3 : decode cX9_readNumber 3 = .ok (.istore_n 3, 1) := by decide +kernel
theorem dX9_readNumber_4 : decode cX9_readNumber 4 = .ok (.iload_n 3, 1) := by decide +kernel
theorem dX9_readNumber_5 : decode cX9_readNumber 5 = .ok (.iload_n 1, 1) := by decide +kernel
theorem dX9_readNumber_6 : decode cX9_readNumber 6 = .ok (.if_icmp .gt 49, 3) := by decide +kernel
theorem dX9_readNumber_9 : decode cX9_readNumber 9 = .ok (.aload_n 0, 1) := by decide +kernel
theorem dX9_readNumber_10 : decode cX9_readNumber 10 = .ok (.invokevirtual 42, 3) := by decide +kernel
theorem dX9_readNumber_13 : decode cX9_readNumber 13 = .ok (.invokestatic 53, 3) := by decide +kernel
theorem dX9_readNumber_16 : decode cX9_readNumber 16 = .ok (.ifCond .eq 39, 3) := by decide +kernel
theorem dX9_readNumber_19 : decode cX9_readNumber 19 = .ok (.iload_n 3, 1) := by decide +kernel
theorem dX9_readNumber_20 : decode cX9_readNumber 20 = .ok (.iload_n 1, 1) := by decide +kernel
theorem dX9_readNumber_21 : decode cX9_readNumber 21 = .ok (.if_icmp .ne 11, 3) := by decide +kernel
theorem dX9_readNumber_24 : decode cX9_readNumber 24 = .ok (.aload_n 0, 1) := by decide +kernel
theorem dX9_readNumber_25 : decode cX9_readNumber 25 = .ok (.iconst 2, 1) := by decide +kernel
theorem dX9_readNumber_26 : decode cX9_readNumber 26 = .ok (.invokevirtual 49, 3) := by decide +kernel
theorem dX9_readNumber_29 : decode cX9_readNumber 29 = .ok (.goto 20, 3) := by decide +kernel
theorem dX9_readNumber_32 : decode cX9_readNumber 32 = .ok (.bipush 10, 2) := by decide +kernel
theorem dX9_readNumber_34 : decode cX9_readNumber 34 = .ok (.iload_n 2, 1) := by decide +kernel
theorem dX9_readNumber_35 : decode cX9_readNumber 35 = .ok (.imul, 1) := by decide +kernel
theorem dX9_readNumber_36 : decode cX9_readNumber 36 = .ok (.aload_n 0, 1) := by decide +kernel
theorem dX9_readNumber_37 : decode cX9_readNumber 37 = .ok (.invokevirtual 42, 3) := by decide +kernel
theorem dX9_readNumber_40 : decode cX9_readNumber 40 = .ok (.iadd, 1) := by decide +kernel
theorem dX9_readNumber_41 : decode cX9_readNumber 41 = .ok (.bipush 48, 2) := by decide +kernel
theorem dX9_readNumber_43 : decode cX9_readNumber 43 = .ok (.isub, 1) := by decide +kernel
theorem dX9_readNumber_44 : decode cX9_readNumber 44 = .ok (.istore_n 2, 1) := by decide +kernel
theorem dX9_readNumber_45 : decode cX9_readNumber 45 = .ok (.aload_n 0, 1) := by decide +kernel
theorem dX9_readNumber_46 : decode cX9_readNumber 46 = .ok (.invokevirtual 46, 3) := by decide +kernel
theorem dX9_readNumber_49 : decode cX9_readNumber 49 = .ok (.iinc 3 1, 3) := by decide +kernel
theorem dX9_readNumber_52 : decode cX9_readNumber 52 = .ok (.goto (-48), 3) := by decide +kernel
theorem dX9_readNumber_55 : decode cX9_readNumber 55 = .ok (.iload_n 3, 1) := by decide +kernel
theorem dX9_readNumber_56 : decode cX9_readNumber 56 = .ok (.ifCond .ne 8, 3) := by decide +kernel
theorem dX9_readNumber_59 : decode cX9_readNumber 59 = .ok (.aload_n 0, 1) := by decide +kernel
theorem dX9_readNumber_60 : decode cX9_readNumber 60 = .ok (.iconst 1, 1) := by decide +kernel
theorem dX9_readNumber_61 : decode cX9_readNumber 61 = .ok (.invokevirtual 49, 3) := by decide +kernel
theorem dX9_readNumber_64 : decode cX9_readNumber 64 = .ok (.iload_n 2, 1) := by decide +kernel
theorem dX9_readNumber_65 : decode cX9_readNumber 65 = .ok (.ireturn, 1) := by decide +kernel
