theorem dX10_init_0 : decode cX10_init 0 = .ok (.aload_n 0, 1) := by decide +kernel
theorem dX10_init_1 : decode cX10_init 1 = .ok (.invokespecial 3, 3) := by decide +kernel
theorem dX10_init_4 : decode cX10_init 4 = .ok (.aload_n 0, 1) := by decide +kernel
theorem dX10_init_5 : decode cX10_init 5 = .ok (.aload_n 1, 1) := by decide +kernel
theorem dX10_init_6 : decode cX10_init 6 = .ok (.putfield 9, 3) := by decide +kernel
theorem dX10_init_9 : decode cX10_init 9 = .ok (.return_, 1) := by decide +kernel
theorem dX10_canTrain_0 : decode cX10_canTrain 0 = .ok (.aload_n 0, 1) := by decide +kernel
theorem dX10_canTrain_1 : decode cX10_canTrain 1 = .ok (.iload_n 1, 1) := by decide +kernel
theorem dX10_canTrain_2 : decode cX10_canTrain 2 = .ok (.putfield 15, 3) := by decide +kernel
theorem dX10_canTrain_5 : decode cX10_canTrain 5 = .ok (.aload_n 0, 1) := by decide +kernel
theorem dX10_canTrain_6 : decode cX10_canTrain 6 = .ok (.iload_n 2, 1) := by decide +kernel
theorem dX10_canTrain_7 : decode cX10_canTrain 7 = .ok (.putfield 19, 3) := by decide +kernel
theorem dX10_canTrain_10 : decode cX10_canTrain 10 = .ok (.aload_n 0, 1) := by decide +kernel
theorem dX10_canTrain_11 : decode cX10_canTrain 11 = .ok (.sipush 1000, 3) := by decide +kernel
theorem dX10_canTrain_14 : decode cX10_canTrain 14 = .ok (.putfield 22, 3) := by decide +kernel
theorem dX10_canTrain_17 : decode cX10_canTrain 17 = .ok (.aload_n 0, 1) := by decide +kernel
theorem dX10_canTrain_18 : decode cX10_canTrain 18 = .ok (.bipush (-2), 2) := by decide +kernel
theorem dX10_canTrain_20 : decode cX10_canTrain 20 = .ok (.putfield 25, 3) := by decide +kernel
theorem dX10_canTrain_23 : decode cX10_canTrain 23 = .ok (.aload_n 0, 1) := by decide +kernel
theorem dX10_canTrain_24 : decode cX10_canTrain 24 = .ok (.iload_n 2, 1) := by decide +kernel
theorem dX10_canTrain_25 : decode cX10_canTrain 25 = .ok (.iconst 0, 1) := by decide +kernel
theorem dX10_canTrain_26 : decode cX10_canTrain 26 = .ok (.bipush (-2), 2) := by decide +kernel
theorem dX10_canTrain_28 : decode cX10_canTrain 28 = .ok (.invokevirtual 28, 3) := by decide +kernel
theorem dX10_canTrain_31 : decode cX10_canTrain 31 = .ok (.aload_n 0, 1) := by decide +kernel
theorem dX10_canTrain_32 : decode cX10_canTrain 32 = .ok (.getfield 22, 3) := by decide +kernel
theorem dX10_canTrain_35 : decode cX10_canTrain 35 = .ok (.sipush 1000, 3) := by decide +kernel
theorem dX10_canTrain_38 : decode cX10_canTrain 38 = .ok (.if_icmp .ge 7, 3) := by decide +kernel
theorem dX10_canTrain_41 : decode cX10_canTrain 41 = .ok (.iconst 1, 1) := by decide +kernel
theorem dX10_canTrain_42 : decode cX10_canTrain 42 = .ok (.goto 4, 3) := by decide +kernel
theorem dX10_canTrain_45 : decode cX10_canTrain 45 = .ok (.iconst 0, 1) := by decide +kernel
theorem dX10_canTrain_46 : decode cX10_canTrain 46 = .ok (.ireturn, 1) := by decide +kernel
theorem dX10_search_0 : decode cX10_search 0 = .ok (.iload_n 2, 1) := by decide +kernel
theorem dX10_search_1 : decode cX10_search 1 = .ok (.aload_n 0, 1) := by decide +kernel
theorem dX10_search_2 : decode cX10_search 2 = .ok (.getfield 22, 3) := by decide +kernel
theorem dX10_search_5 : decode cX10_search 5 = .ok (.if_icmp .lt 4, 3) := by decide +kernel
theorem dX10_search_8 : decode cX10_search 8 = .ok (.return_, 1) := by decide +kernel
theorem dX10_search_9 : decode cX10_search 9 = .ok (.aload_n 0, 1) := by decide +kernel
theorem dX10_search_10 : decode cX10_search 10 = .ok (.getfield 19, 3) := by decide +kernel
theorem dX10_search_13 : decode cX10_search 13 = .ok (.aload_n 0, 1) := by decide +kernel
theorem dX10_search_14 : decode cX10_search 14 = .ok (.getfield 9, 3) := by decide +kernel
theorem dX10_search_17 : decode cX10_search 17 = .ok (.aload_n 0, 1) := by decide +kernel
theorem dX10_search_18 : decode cX10_search 18 = .ok (.getfield 15, 3) := by decide +kernel
theorem dX10_search_21 : decode cX10_search 21 = .ok (.invokevirtual 32, 3) := by decide +kernel
theorem dX10_search_24 : decode cX10_search 24 = .ok (.iconst (-1), 1) := by decide +kernel
theorem dX10_search_25 : decode cX10_search 25 = .ok (.ixor, 1) := by decide +kernel
theorem dX10_search_26 : decode cX10_search 26 = .ok (.iand, 1) := by decide +kernel
theorem dX10_search_27 : decode cX10_search 27 = .ok (.ifCond .ne 14, 3) := by decide +kernel
theorem dX10_search_30 : decode cX10_search 30 = .ok (.aload_n 0, 1) := by decide +kernel
theorem dX10_search_31 : decode cX10_search 31 = .ok (.iload_n 2, 1) := by decide +kernel
theorem dX10_search_32 : decode cX10_search 32 = .ok (.putfield 22, 3) := by decide +kernel
theorem dX10_search_35 : decode cX10_search 35 = .ok (.aload_n 0, 1) := by decide +kernel
theorem dX10_search_36 : decode cX10_search 36 = .ok (.iload_n 3, 1) := by decide +kernel
theorem dX10_search_37 : decode cX10_search 37 = .ok (.putfield 25, 3) := by decide +kernel
theorem dX10_search_40 : decode cX10_search 40 = .ok (.return_, 1) := by decide +kernel
theorem dX10_search_41 : decode cX10_search 41 = .ok (.iconst 0, 1) := by decide +kernel
theorem dX10_search_42 : decode cX10_search 42 = .ok (.istore 4, 2) := by decide +kernel
theorem dX10_search_44 : decode cX10_search 44 = .ok (.iload 4, 2) := by decide +kernel
theorem dX10_search_46 : decode cX10_search 46 = .ok (.bipush 16, 2) := by decide +kernel
theorem dX10_search_48 : decode cX10_search 48 = .ok (.if_icmp .ge 49, 3) := by decide +kernel
theorem dX10_search_51 : decode cX10_search 51 = .ok (.iload_n 1, 1) := by decide +kernel
theorem dX10_search_52 : decode cX10_search 52 = .ok (.iload 4, 2) := by decide +kernel
theorem dX10_search_54 : decode cX10_search 54 = .ok (.ishr, 1) := by decide +kernel
theorem dX10_search_55 : decode cX10_search 55 = .ok (.iconst 1, 1) := by decide +kernel
theorem dX10_search_56 : decode cX10_search 56 = .ok (.iand, 1) := by decide +kernel
theorem dX10_search_57 : decode cX10_search 57 = .ok (.ifCond .eq 34, 3) := by decide +kernel
theorem dX10_search_60 : decode cX10_search 60 = .ok (.iload_n 3, 1) := by decide +kernel
theorem dX10_search_61 : decode cX10_search 61 = .ok (.bipush (-2), 2) := by decide +kernel
theorem dX10_search_63 : decode cX10_search 63 = .ok (.if_icmp .ne 8, 3) := by decide +kernel
theorem dX10_search_66 : decode cX10_search 66 = .ok (.iload 4, 2) := by decide +kernel
theorem dX10_search_68 : decode cX10_search 68 = .ok (.goto 4, 3) := by decide +kernel
theorem dX10_search_71 : decode cX10_search 71 = .ok (.iload_n 3, 1) := by decide +kernel
theorem dX10_search_72 : decode cX10_search 72 = .ok (.istore 5, 2) := by decide +kernel
theorem dX10_search_74 : decode cX10_search 74 = .ok (.aload_n 0, 1) := by decide +kernel
theorem dX10_search_75 : decode cX10_search 75 = .ok (.iload 4, 2) := by decide +kernel
theorem dX10_search_77 : decode cX10_search 77 = .ok (.iload_n 1, 1) := by decide +kernel
theorem dX10_search_78 : decode cX10_search 78 = .ok (.iconst 1, 1) := by decide +kernel
theorem dX10_search_79 : decode cX10_search 79 = .ok (.iload 4, 2) := by decide +kernel
theorem dX10_search_81 : decode cX10_search 81 = .ok (.ishl, 1) := by decide +kernel
theorem dX10_search_82 : decode cX10_search 82 = .ok (.iconst (-1), 1) := by decide +kernel
theorem dX10_search_83 : decode cX10_search 83 = .ok (.ixor, 1) := by decide +kernel
theorem dX10_search_84 : decode cX10_search 84 = .ok (.iand, 1) := by decide +kernel
theorem dX10_search_85 : decode cX10_search 85 = .ok (.iload_n 2, 1) := by decide +kernel
theorem dX10_search_86 : decode cX10_search 86 = .ok (.iload 5, 2) := by decide +kernel
theorem dX10_search_88 : decode cX10_search 88 = .ok (.invokevirtual 38, 3) := by decide +kernel
theorem dX10_search_91 : decode cX10_search 91 = .ok (.iinc 4 1, 3) := by decide +kernel
theorem dX10_search_94 : decode cX10_search 94 = .ok (.goto (-50), 3) := by decide +kernel
theorem dX10_search_97 : decode cX10_search 97 = .ok (.return_, 1) := by decide +kernel
theorem dX10_goOnWith_0 : decode cX10_goOnWith 0 = .ok (.aload_n 0, 1) := by decide +kernel
theorem dX10_goOnWith_1 : decode cX10_goOnWith 1 = .ok (.getfield 9, 3) := by decide +kernel
theorem dX10_goOnWith_4 : decode cX10_goOnWith 4 = .ok (.getfield 42, 3) := by decide +kernel
theorem dX10_goOnWith_7 : decode cX10_goOnWith 7 = .ok (.iload_n 1, 1) := by decide +kernel
theorem dX10_goOnWith_8 : decode cX10_goOnWith 8 = .ok (.invokevirtual 46, 3) := by decide +kernel
theorem dX10_goOnWith_11 : decode cX10_goOnWith 11 = .ok (.istore 5, 2) := by decide +kernel
theorem dX10_goOnWith_13 : decode cX10_goOnWith 13 = .ok (.aload_n 0, 1) := by decide +kernel
theorem dX10_goOnWith_14 : decode cX10_goOnWith 14 = .ok (.getfield 9, 3) := by decide +kernel
theorem dX10_goOnWith_17 : decode cX10_goOnWith 17 = .ok (.aload_n 0, 1) := by decide +kernel
theorem dX10_goOnWith_18 : decode cX10_goOnWith 18 = .ok (.getfield 15, 3) := by decide +kernel
theorem dX10_goOnWith_21 : decode cX10_goOnWith 21 = .ok (.iload_n 1, 1) := by decide +kernel
theorem dX10_goOnWith_22 : decode cX10_goOnWith 22 = .ok (.invokevirtual 51, 3) := by decide +kernel
theorem dX10_goOnWith_25 : decode cX10_goOnWith 25 = .ok (.istore 6, 2) := by decide +kernel
theorem dX10_goOnWith_27 : decode cX10_goOnWith 27 = .ok (.aload_n 0, 1) := by decide +kernel
theorem dX10_goOnWith_28 : decode cX10_goOnWith 28 = .ok (.getfield 9, 3) := by decide +kernel
theorem dX10_goOnWith_31 : decode cX10_goOnWith 31 = .ok (.aload_n 0, 1) := by decide +kernel
theorem dX10_goOnWith_32 : decode cX10_goOnWith 32 = .ok (.getfield 15, 3) := by decide +kernel
theorem dX10_goOnWith_35 : decode cX10_goOnWith 35 = .ok (.iload_n 1, 1) := by decide +kernel
theorem dX10_goOnWith_36 : decode cX10_goOnWith 36 = .ok (.invokevirtual 55, 3) := by decide +kernel
theorem dX10_goOnWith_39 : decode cX10_goOnWith 39 = .ok (.istore 7, 2) := by decide +kernel
theorem dX10_goOnWith_41 : decode cX10_goOnWith 41 = .ok (.aload_n 0, 1) := by decide +kernel
theorem dX10_goOnWith_42 : decode cX10_goOnWith 42 = .ok (.getfield 9, 3) := by decide +kernel
theorem dX10_goOnWith_45 : decode cX10_goOnWith 45 = .ok (.aload_n 0, 1) := by decide +kernel
theorem dX10_goOnWith_46 : decode cX10_goOnWith 46 = .ok (.getfield 15, 3) := by decide +kernel
theorem dX10_goOnWith_49 : decode cX10_goOnWith 49 = .ok (.iload 5, 2) := by decide +kernel
theorem dX10_goOnWith_51 : decode cX10_goOnWith 51 = .ok (.invokevirtual 55, 3) := by decide +kernel
theorem dX10_goOnWith_54 : decode cX10_goOnWith 54 = .ok (.istore 8, 2) := by decide +kernel
theorem dX10_goOnWith_56 : decode cX10_goOnWith 56 = .ok (.aload_n 0, 1) := by decide +kernel
theorem dX10_goOnWith_57 : decode cX10_goOnWith 57 = .ok (.getfield 9, 3) := by decide +kernel
theorem dX10_goOnWith_60 : decode cX10_goOnWith 60 = .ok (.aload_n 0, 1) := by decide +kernel
theorem dX10_goOnWith_61 : decode cX10_goOnWith 61 = .ok (.getfield 15, 3) := by decide +kernel
theorem dX10_goOnWith_64 : decode cX10_goOnWith 64 = .ok (.iload_n 1, 1) := by decide +kernel
theorem dX10_goOnWith_65 : decode cX10_goOnWith 65 = .ok (.invokevirtual 58, 3) := by decide +kernel
theorem dX10_goOnWith_68 : decode cX10_goOnWith 68 = .ok (.aload_n 0, 1) := by decide +kernel
theorem dX10_goOnWith_69 : decode cX10_goOnWith 69 = .ok (.iload_n 2, 1) := by decide +kernel
theorem dX10_goOnWith_70 : decode cX10_goOnWith 70 = .ok (.iload_n 3, 1) := by decide +kernel
theorem dX10_goOnWith_71 : decode cX10_goOnWith 71 = .ok (.bipush 9, 2) := by decide +kernel
theorem dX10_goOnWith_73 : decode cX10_goOnWith 73 = .ok (.iadd, 1) := by decide +kernel
theorem dX10_goOnWith_74 : decode cX10_goOnWith 74 = .ok (.iload 6, 2) := by decide +kernel
theorem dX10_goOnWith_76 : decode cX10_goOnWith 76 = .ok (.isub, 1) := by decide +kernel
theorem dX10_goOnWith_77 : decode cX10_goOnWith 77 = .ok (.iload 4, 2) := by decide +kernel
theorem dX10_goOnWith_79 : decode cX10_goOnWith 79 = .ok (.invokevirtual 28, 3) := by decide +kernel
theorem dX10_goOnWith_82 : decode cX10_goOnWith 82 = .ok (.aload_n 0, 1) := by decide +kernel
theorem dX10_goOnWith_83 : decode cX10_goOnWith 83 = .ok (.getfield 9, 3) := by decide +kernel
theorem dX10_goOnWith_86 : decode cX10_goOnWith 86 = .ok (.aload_n 0, 1) := by decide +kernel
theorem dX10_goOnWith_87 : decode cX10_goOnWith 87 = .ok (.getfield 15, 3) := by decide +kernel
theorem dX10_goOnWith_90 : decode cX10_goOnWith 90 = .ok (.iload_n 1, 1) := by decide +kernel
theorem dX10_goOnWith_91 : decode cX10_goOnWith 91 = .ok (.iload 6, 2) := by decide +kernel
theorem dX10_goOnWith_93 : decode cX10_goOnWith 93 = .ok (.invokevirtual 62, 3) := by decide +kernel
theorem dX10_goOnWith_96 : decode cX10_goOnWith 96 = .ok (.aload_n 0, 1) := by decide +kernel
theorem dX10_goOnWith_97 : decode cX10_goOnWith 97 = .ok (.getfield 9, 3) := by decide +kernel
theorem dX10_goOnWith_100 : decode cX10_goOnWith 100 = .ok (.aload_n 0, 1) := by decide +kernel
theorem dX10_goOnWith_101 : decode cX10_goOnWith 101 = .ok (.getfield 15, 3) := by decide +kernel
theorem dX10_goOnWith_104 : decode cX10_goOnWith 104 = .ok (.iload 5, 2) := by decide +kernel
theorem dX10_goOnWith_106 : decode cX10_goOnWith 106 = .ok (.iload 8, 2) := by decide +kernel
theorem dX10_goOnWith_108 : decode cX10_goOnWith 108 = .ok (.invokevirtual 65, 3) := by decide +kernel
theorem dX10_goOnWith_111 : decode cX10_goOnWith 111 = .ok (.aload_n 0, 1) := by decide +kernel
theorem dX10_goOnWith_112 : decode cX10_goOnWith 112 = .ok (.getfield 9, 3) := by decide +kernel
theorem dX10_goOnWith_115 : decode cX10_goOnWith 115 = .ok (.aload_n 0, 1) := by decide +kernel
theorem dX10_goOnWith_116 : decode cX10_goOnWith 116 = .ok (.getfield 15, 3) := by decide +kernel
theorem dX10_goOnWith_119 : decode cX10_goOnWith 119 = .ok (.iload_n 1, 1) := by decide +kernel
theorem dX10_goOnWith_120 : decode cX10_goOnWith 120 = .ok (.iload 7, 2) := by decide +kernel
theorem dX10_goOnWith_122 : decode cX10_goOnWith 122 = .ok (.invokevirtual 65, 3) := by decide +kernel
theorem dX10_goOnWith_125 : decode cX10_goOnWith 125 = .ok (.return_, 1) := by decide +kernel
