theorem dX8_init_0 : decode cX8_init 0 = .ok (.aload_n 0, 1) := by decide +kernel
theorem dX8_init_1 : decode cX8_init 1 = .ok (.invokespecial 3, 3) := by decide +kernel
theorem dX8_init_4 : decode cX8_init 4 = .ok (.aload_n 0, 1) := by decide +kernel
theorem dX8_init_5 : decode cX8_init 5 = .ok (.bipush 8, 2) := by decide +kernel
theorem dX8_init_7 : decode cX8_init 7 = .ok (.newarray .int, 2) := by decide +kernel
theorem dX8_init_9 : decode cX8_init 9 = .ok (.putfield 9, 3) := by decide +kernel
theorem dX8_init_12 : decode cX8_init 12 = .ok (.aload_n 0, 1) := by decide +kernel
theorem dX8_init_13 : decode cX8_init 13 = .ok (.bipush 8, 2) := by decide +kernel
theorem dX8_init_15 : decode cX8_init 15 = .ok (.newarray .int, 2) := by decide +kernel
theorem dX8_init_17 : decode cX8_init 17 = .ok (.putfield 15, 3) := by decide +kernel
theorem dX8_init_20 : decode cX8_init 20 = .ok (.aload_n 0, 1) := by decide +kernel
theorem dX8_init_21 : decode cX8_init 21 = .ok (.bipush 8, 2) := by decide +kernel
theorem dX8_init_23 : decode cX8_init 23 = .ok (.newarray .int, 2) := by decide +kernel
theorem dX8_init_25 : decode cX8_init 25 = .ok (.putfield 18, 3) := by decide +kernel
theorem dX8_init_28 : decode cX8_init 28 = .ok (.aload_n 0, 1) := by decide +kernel
theorem dX8_init_29 : decode cX8_init 29 = .ok (.sipush 128, 3) := by decide +kernel
theorem dX8_init_32 : decode cX8_init 32 = .ok (.newarray .int, 2) := by decide +kernel
theorem dX8_init_34 : decode cX8_init 34 = .ok (.putfield 21, 3) := by decide +kernel
theorem dX8_init_37 : decode cX8_init 37 = .ok (.aload_n 0, 1) := by decide +kernel
theorem dX8_init_38 : decode cX8_init 38 = .ok (.sipush 128, 3) := by decide +kernel
theorem dX8_init_41 : decode cX8_init 41 = .ok (.newarray .int, 2) := by decide +kernel
theorem dX8_init_43 : decode cX8_init 43 = .ok (.putfield 24, 3) := by decide +kernel
theorem dX8_init_46 : decode cX8_init 46 = .ok (.aload_n 0, 1) := by decide +kernel
theorem dX8_init_47 : decode cX8_init 47 = .ok (.aload_n 1, 1) := by decide +kernel
theorem dX8_init_48 : decode cX8_init 48 = .ok (.putfield 27, 3) := by decide +kernel
theorem dX8_init_51 : decode cX8_init 51 = .ok (.aload_n 0, 1) := by decide +kernel
theorem dX8_init_52 : decode cX8_init 52 = .ok (.bipush 20, 2) := by decide +kernel
theorem dX8_init_54 : decode cX8_init 54 = .ok (.putfield 31, 3) := by decide +kernel
theorem dX8_init_57 : decode cX8_init 57 = .ok (.aload_n 0, 1) := by decide +kernel
theorem dX8_init_58 : decode cX8_init 58 = .ok (.iconst 1, 1) := by decide +kernel
theorem dX8_init_59 : decode cX8_init 59 = .ok (.putfield 35, 3) := by decide +kernel
theorem dX8_init_62 : decode cX8_init 62 = .ok (.return_, 1) := by decide +kernel
theorem dX8_copyFrom_0 : decode cX8_copyFrom 0 = .ok (.aload_n 1, 1) := by decide +kernel
theorem dX8_copyFrom_1 : decode cX8_copyFrom 1 = .ok (.getfield 9, 3) := by decide +kernel
theorem dX8_copyFrom_4 : decode cX8_copyFrom 4 = .ok (.iconst 0, 1) := by decide +kernel
theorem dX8_copyFrom_5 : decode cX8_copyFrom 5 = .ok (.aload_n 0, 1) := by decide +kernel
theorem dX8_copyFrom_6 : decode cX8_copyFrom 6 = .ok (.getfield 9, 3) := by decide +kernel
theorem dX8_copyFrom_9 : decode cX8_copyFrom 9 = .ok (.iconst 0, 1) := by decide +kernel
theorem dX8_copyFrom_10 : decode cX8_copyFrom 10 = .ok (.bipush 8, 2) := by decide +kernel
theorem dX8_copyFrom_12 : decode cX8_copyFrom 12 = .ok (.invokestatic 38, 3) := by decide +kernel
theorem dX8_copyFrom_15 : decode cX8_copyFrom 15 = .ok (.aload_n 1, 1) := by decide +kernel
theorem dX8_copyFrom_16 : decode cX8_copyFrom 16 = .ok (.getfield 15, 3) := by decide +kernel
theorem dX8_copyFrom_19 : decode cX8_copyFrom 19 = .ok (.iconst 0, 1) := by decide +kernel
theorem dX8_copyFrom_20 : decode cX8_copyFrom 20 = .ok (.aload_n 0, 1) := by decide +kernel
theorem dX8_copyFrom_21 : decode cX8_copyFrom 21 = .ok (.getfield 15, 3) := by decide +kernel
theorem dX8_copyFrom_24 : decode cX8_copyFrom 24 = .ok (.iconst 0, 1) := by decide +kernel
theorem dX8_copyFrom_25 : decode cX8_copyFrom 25 = .ok (.bipush 8, 2) := by decide +kernel
theorem dX8_copyFrom_27 : decode cX8_copyFrom 27 = .ok (.invokestatic 38, 3) := by decide +kernel
theorem dX8_copyFrom_30 : decode cX8_copyFrom 30 = .ok (.aload_n 1, 1) := by decide +kernel
theorem dX8_copyFrom_31 : decode cX8_copyFrom 31 = .ok (.getfield 18, 3) := by decide +kernel
theorem dX8_copyFrom_34 : decode cX8_copyFrom 34 = .ok (.iconst 0, 1) := by decide +kernel
theorem dX8_copyFrom_35 : decode cX8_copyFrom 35 = .ok (.aload_n 0, 1) := by decide +kernel
theorem dX8_copyFrom_36 : decode cX8_copyFrom 36 = .ok (.getfield 18, 3) := by decide +kernel
theorem dX8_copyFrom_39 : decode cX8_copyFrom 39 = .ok (.iconst 0, 1) := by decide +kernel
theorem dX8_copyFrom_40 : decode cX8_copyFrom 40 = .ok (.bipush 8, 2) := by decide +kernel
theorem dX8_copyFrom_42 : decode cX8_copyFrom 42 = .ok (.invokestatic 38, 3) := by decide +kernel
theorem dX8_copyFrom_45 : decode cX8_copyFrom 45 = .ok (.aload_n 1, 1) := by decide +kernel
theorem dX8_copyFrom_46 : decode cX8_copyFrom 46 = .ok (.getfield 21, 3) := by decide +kernel
theorem dX8_copyFrom_49 : decode cX8_copyFrom 49 = .ok (.iconst 0, 1) := by decide +kernel
theorem dX8_copyFrom_50 : decode cX8_copyFrom 50 = .ok (.aload_n 0, 1) := by decide +kernel
theorem dX8_copyFrom_51 : decode cX8_copyFrom 51 = .ok (.getfield 21, 3) := by decide +kernel
theorem dX8_copyFrom_54 : decode cX8_copyFrom 54 = .ok (.iconst 0, 1) := by decide +kernel
theorem dX8_copyFrom_55 : decode cX8_copyFrom 55 = .ok (.sipush 128, 3) := by decide +kernel
theorem dX8_copyFrom_58 : decode cX8_copyFrom 58 = .ok (.invokestatic 38, 3) := by decide +kernel
theorem dX8_copyFrom_61 : decode cX8_copyFrom 61 = .ok (.aload_n 1, 1) := by decide +kernel
theorem dX8_copyFrom_62 : decode cX8_copyFrom 62 = .ok (.getfield 24, 3) := by decide +kernel
theorem dX8_copyFrom_65 : decode cX8_copyFrom 65 = .ok (.iconst 0, 1) := by decide +kernel
theorem dX8_copyFrom_66 : decode cX8_copyFrom 66 = .ok (.aload_n 0, 1) := by decide +kernel
theorem dX8_copyFrom_67 : decode cX8_copyFrom 67 = .ok (.getfield 24, 3) := by decide +kernel
theorem dX8_copyFrom_70 : decode cX8_copyFrom 70 = .ok (.iconst 0, 1) := by decide +kernel
theorem dX8_copyFrom_71 : decode cX8_copyFrom 71 = .ok (.sipush 128, 3) := by decide +kernel
theorem dX8_copyFrom_74 : decode cX8_copyFrom 74 = .ok (.invokestatic 38, 3) := by decide +kernel
theorem dX8_copyFrom_77 : decode cX8_copyFrom 77 = .ok (.aload_n 0, 1) := by decide +kernel
theorem dX8_copyFrom_78 : decode cX8_copyFrom 78 = .ok (.aload_n 1, 1) := by decide +kernel
theorem dX8_copyFrom_79 : decode cX8_copyFrom 79 = .ok (.getfield 44, 3) := by decide +kernel
theorem dX8_copyFrom_82 : decode cX8_copyFrom 82 = .ok (.putfield 44, 3) := by decide +kernel
theorem dX8_copyFrom_85 : decode cX8_copyFrom 85 = .ok (.aload_n 0, 1) := by decide +kernel
theorem dX8_copyFrom_86 : decode cX8_copyFrom 86 = .ok (.aload_n 1, 1) := by decide +kernel
theorem dX8_copyFrom_87 : decode cX8_copyFrom 87 = .ok (.getfield 31, 3) := by decide +kernel
theorem dX8_copyFrom_90 : decode cX8_copyFrom 90 = .ok (.putfield 31, 3) := by decide +kernel
theorem dX8_copyFrom_93 : decode cX8_copyFrom 93 = .ok (.aload_n 0, 1) := by decide +kernel
theorem dX8_copyFrom_94 : decode cX8_copyFrom 94 = .ok (.aload_n 1, 1) := by decide +kernel
theorem dX8_copyFrom_95 : decode cX8_copyFrom 95 = .ok (.getfield 47, 3) := by decide +kernel
theorem dX8_copyFrom_98 : decode cX8_copyFrom 98 = .ok (.putfield 47, 3) := by decide +kernel
theorem dX8_copyFrom_101 : decode cX8_copyFrom 101 = .ok (.aload_n 0, 1) := by decide +kernel
theorem dX8_copyFrom_102 : decode cX8_copyFrom 102 = .ok (.aload_n 1, 1) := by decide +kernel
theorem dX8_copyFrom_103 : decode cX8_copyFrom 103 = .ok (.getfield 50, 3) := by decide +kernel
theorem dX8_copyFrom_106 : decode cX8_copyFrom 106 = .ok (.putfield 50, 3) := by decide +kernel
theorem dX8_copyFrom_109 : decode cX8_copyFrom 109 = .ok (.aload_n 0, 1) := by decide +kernel
theorem dX8_copyFrom_110 : decode cX8_copyFrom 110 = .ok (.aload_n 1, 1) := by decide +kernel
theorem dX8_copyFrom_111 : decode cX8_copyFrom 111 = .ok (.getfield 53, 3) := by decide +kernel
theorem dX8_copyFrom_114 : decode cX8_copyFrom 114 = .ok (.putfield 53, 3) := by decide +kernel
theorem dX8_copyFrom_117 : decode cX8_copyFrom 117 = .ok (.aload_n 0, 1) := by decide +kernel
theorem dX8_copyFrom_118 : decode cX8_copyFrom 118 = .ok (.aload_n 1, 1) := by decide +kernel
theorem dX8_copyFrom_119 : decode cX8_copyFrom 119 = .ok (.getfield 35, 3) := by decide +kernel
theorem dX8_copyFrom_122 : decode cX8_copyFrom 122 = .ok (.putfield 35, 3) := by decide +kernel
theorem dX8_copyFrom_125 : decode cX8_copyFrom 125 = .ok (.return_, 1) := by decide +kernel
theorem dX8_isTold_0 : decode cX8_isTold 0 = .ok (.iload_n 1, 1) := by decide +kernel
theorem dX8_isTold_1 : decode cX8_isTold 1 = .ok (.ifCond .lt 24, 3) := by decide +kernel
theorem dX8_isTold_4 : decode cX8_isTold 4 = .ok (.iload_n 1, 1) := by decide +kernel
theorem dX8_isTold_5 : decode cX8_isTold 5 = .ok (.bipush 8, 2) := by decide +kernel
theorem dX8_isTold_7 : decode cX8_isTold 7 = .ok (.if_icmp .ge 18, 3) := by decide +kernel
theorem dX8_isTold_10 : decode cX8_isTold 10 = .ok (.aload_n 0, 1) := by decide +kernel
theorem dX8_isTold_11 : decode cX8_isTold 11 = .ok (.getfield 44, 3) := by decide +kernel
theorem dX8_isTold_14 : decode cX8_isTold 14 = .ok (.iload_n 1, 1) := by decide +kernel
theorem dX8_isTold_15 : decode cX8_isTold 15 = .ok (.ishr, 1) := by decide +kernel
theorem dX8_isTold_16 : decode cX8_isTold 16 = .ok (.iconst 1, 1) := by decide +kernel
theorem dX8_isTold_17 : decode cX8_isTold 17 = .ok (.iand, 1) := by decide +kernel
theorem dX8_isTold_18 : decode cX8_isTold 18 = .ok (.ifCond .eq 7, 3) := by decide +kernel
theorem dX8_isTold_21 : decode cX8_isTold 21 = .ok (.iconst 1, 1) := by decide +kernel
theorem dX8_isTold_22 : decode cX8_isTold 22 = .ok (.goto 4, 3) := by decide +kernel
theorem dX8_isTold_25 : decode cX8_isTold 25 = .ok (.iconst 0, 1) := by decide +kernel
theorem dX8_isTold_26 : decode cX8_isTold 26 = .ok (.ireturn, 1) := by decide +kernel
theorem dX8_kindOf_0 : decode cX8_kindOf 0 = .ok (.aload_n 0, 1) := by decide +kernel
theorem dX8_kindOf_1 : decode cX8_kindOf 1 = .ok (.getfield 9, 3) := by decide +kernel
theorem dX8_kindOf_4 : decode cX8_kindOf 4 = .ok (.iload_n 1, 1) := by decide +kernel
theorem dX8_kindOf_5 : decode cX8_kindOf 5 = .ok (.bipush 7, 2) := by decide +kernel
theorem dX8_kindOf_7 : decode cX8_kindOf 7 = .ok (.iand, 1) := by decide +kernel
theorem dX8_kindOf_8 : decode cX8_kindOf 8 = .ok (.iaload, 1) := by decide +kernel
theorem dX8_kindOf_9 : decode cX8_kindOf 9 = .ok (.ireturn, 1) := by decide +kernel
theorem dX8_saltOf_0 : decode cX8_saltOf 0 = .ok (.aload_n 0, 1) := by decide +kernel
theorem dX8_saltOf_1 : decode cX8_saltOf 1 = .ok (.getfield 15, 3) := by decide +kernel
theorem dX8_saltOf_4 : decode cX8_saltOf 4 = .ok (.iload_n 1, 1) := by decide +kernel
theorem dX8_saltOf_5 : decode cX8_saltOf 5 = .ok (.bipush 7, 2) := by decide +kernel
theorem dX8_saltOf_7 : decode cX8_saltOf 7 = .ok (.iand, 1) := by decide +kernel
theorem dX8_saltOf_8 : decode cX8_saltOf 8 = .ok (.iaload, 1) := by decide +kernel
theorem dX8_saltOf_9 : decode cX8_saltOf 9 = .ok (.ireturn, 1) := by decide +kernel
theorem dX8_inkOf_0 : decode cX8_inkOf 0 = .ok (.aload_n 0, 1) := by decide +kernel
theorem dX8_inkOf_1 : decode cX8_inkOf 1 = .ok (.getfield 18, 3) := by decide +kernel
theorem dX8_inkOf_4 : decode cX8_inkOf 4 = .ok (.iload_n 1, 1) := by decide +kernel
theorem dX8_inkOf_5 : decode cX8_inkOf 5 = .ok (.bipush 7, 2) := by decide +kernel
theorem dX8_inkOf_7 : decode cX8_inkOf 7 = .ok (.iand, 1) := by decide +kernel
theorem dX8_inkOf_8 : decode cX8_inkOf 8 = .ok (.iaload, 1) := by decide +kernel
theorem dX8_inkOf_9 : decode cX8_inkOf 9 = .ok (.ireturn, 1) := by decide +kernel
theorem dX8_dreadOf_0 : decode cX8_dreadOf 0 = .ok (.aload_n 0, 1) := by decide +kernel
theorem dX8_dreadOf_1 : decode cX8_dreadOf 1 = .ok (.getfield 21, 3) := by decide +kernel
theorem dX8_dreadOf_4 : decode cX8_dreadOf 4 = .ok (.iload_n 1, 1) := by decide +kernel
theorem dX8_dreadOf_5 : decode cX8_dreadOf 5 = .ok (.bipush 7, 2) := by decide +kernel
theorem dX8_dreadOf_7 : decode cX8_dreadOf 7 = .ok (.iand, 1) := by decide +kernel
theorem dX8_dreadOf_8 : decode cX8_dreadOf 8 = .ok (.bipush 16, 2) := by decide +kernel
theorem dX8_dreadOf_10 : decode cX8_dreadOf 10 = .ok (.imul, 1) := by decide +kernel
theorem dX8_dreadOf_11 : decode cX8_dreadOf 11 = .ok (.iload_n 2, 1) := by decide +kernel
theorem dX8_dreadOf_12 : decode cX8_dreadOf 12 = .ok (.bipush 15, 2) := by decide +kernel
theorem dX8_dreadOf_14 : decode cX8_dreadOf 14 = .ok (.iand, 1) := by decide +kernel
theorem dX8_dreadOf_15 : decode cX8_dreadOf 15 = .ok (.iadd, 1) := by decide +kernel
theorem dX8_dreadOf_16 : decode cX8_dreadOf 16 = .ok (.iaload, 1) := by decide +kernel
theorem dX8_dreadOf_17 : decode cX8_dreadOf 17 = .ok (.ireturn, 1) := by decide +kernel
theorem dX8_triesOf_0 : decode cX8_triesOf 0 = .ok (.aload_n 0, 1) := by decide +kernel
theorem dX8_triesOf_1 : decode cX8_triesOf 1 = .ok (.getfield 24, 3) := by decide +kernel
theorem dX8_triesOf_4 : decode cX8_triesOf 4 = .ok (.iload_n 1, 1) := by decide +kernel
theorem dX8_triesOf_5 : decode cX8_triesOf 5 = .ok (.bipush 7, 2) := by decide +kernel
theorem dX8_triesOf_7 : decode cX8_triesOf 7 = .ok (.iand, 1) := by decide +kernel
theorem dX8_triesOf_8 : decode cX8_triesOf 8 = .ok (.bipush 16, 2) := by decide +kernel
theorem dX8_triesOf_10 : decode cX8_triesOf 10 = .ok (.imul, 1) := by decide +kernel
theorem dX8_triesOf_11 : decode cX8_triesOf 11 = .ok (.iload_n 2, 1) := by decide +kernel
theorem dX8_triesOf_12 : decode cX8_triesOf 12 = .ok (.bipush 15, 2) := by decide +kernel
theorem dX8_triesOf_14 : decode cX8_triesOf 14 = .ok (.iand, 1) := by decide +kernel
theorem dX8_triesOf_15 : decode cX8_triesOf 15 = .ok (.iadd, 1) := by decide +kernel
theorem dX8_triesOf_16 : decode cX8_triesOf 16 = .ok (.iaload, 1) := by decide +kernel
theorem dX8_triesOf_17 : decode cX8_triesOf 17 = .ok (.ireturn, 1) := by decide +kernel
theorem dX8_setKind_0 : decode cX8_setKind 0 = .ok (.aload_n 0, 1) := by decide +kernel
theorem dX8_setKind_1 : decode cX8_setKind 1 = .ok (.getfield 9, 3) := by decide +kernel
theorem dX8_setKind_4 : decode cX8_setKind 4 = .ok (.iload_n 1, 1) := by decide +kernel
theorem dX8_setKind_5 : decode cX8_setKind 5 = .ok (.bipush 7, 2) := by decide +kernel
theorem dX8_setKind_7 : decode cX8_setKind 7 = .ok (.iand, 1) := by decide +kernel
theorem dX8_setKind_8 : decode cX8_setKind 8 = .ok (.iload_n 2, 1) := by decide +kernel
theorem dX8_setKind_9 : decode cX8_setKind 9 = .ok (.iastore, 1) := by decide +kernel
theorem dX8_setKind_10 : decode cX8_setKind 10 = .ok (.return_, 1) := by decide +kernel
theorem dX8_setSalt_0 : decode cX8_setSalt 0 = .ok (.aload_n 0, 1) := by decide +kernel
theorem dX8_setSalt_1 : decode cX8_setSalt 1 = .ok (.getfield 15, 3) := by decide +kernel
theorem dX8_setSalt_4 : decode cX8_setSalt 4 = .ok (.iload_n 1, 1) := by decide +kernel
theorem dX8_setSalt_5 : decode cX8_setSalt 5 = .ok (.bipush 7, 2) := by decide +kernel
theorem dX8_setSalt_7 : decode cX8_setSalt 7 = .ok (.iand, 1) := by decide +kernel
theorem dX8_setSalt_8 : decode cX8_setSalt 8 = .ok (.iload_n 2, 1) := by decide +kernel
theorem dX8_setSalt_9 : decode cX8_setSalt 9 = .ok (.iastore, 1) := by decide +kernel
theorem dX8_setSalt_10 : decode cX8_setSalt 10 = .ok (.return_, 1) := by decide +kernel
theorem dX8_setInk_0 : decode cX8_setInk 0 = .ok (.aload_n 0, 1) := by decide +kernel
theorem dX8_setInk_1 : decode cX8_setInk 1 = .ok (.getfield 18, 3) := by decide +kernel
theorem dX8_setInk_4 : decode cX8_setInk 4 = .ok (.iload_n 1, 1) := by decide +kernel
theorem dX8_setInk_5 : decode cX8_setInk 5 = .ok (.bipush 7, 2) := by decide +kernel
theorem dX8_setInk_7 : decode cX8_setInk 7 = .ok (.iand, 1) := by decide +kernel
theorem dX8_setInk_8 : decode cX8_setInk 8 = .ok (.iload_n 2, 1) := by decide +kernel
theorem dX8_setInk_9 : decode cX8_setInk 9 = .ok (.iastore, 1) := by decide +kernel
theorem dX8_setInk_10 : decode cX8_setInk 10 = .ok (.return_, 1) := by decide +kernel
theorem dX8_setDread_0 : decode cX8_setDread 0 = .ok (.aload_n 0, 1) := by decide +kernel
theorem dX8_setDread_1 : decode cX8_setDread 1 = .ok (.getfield 21, 3) := by decide +kernel
theorem dX8_setDread_4 : decode cX8_setDread 4 = .ok (.iload_n 1, 1) := by decide +kernel
theorem dX8_setDread_5 : decode cX8_setDread 5 = .ok (.bipush 7, 2) := by decide +kernel
theorem dX8_setDread_7 : decode cX8_setDread 7 = .ok (.iand, 1) := by decide +kernel
theorem dX8_setDread_8 : decode cX8_setDread 8 = .ok (.bipush 16, 2) := by decide +kernel
theorem dX8_setDread_10 : decode cX8_setDread 10 = .ok (.imul, 1) := by decide +kernel
theorem dX8_setDread_11 : decode cX8_setDread 11 = .ok (.iload_n 2, 1) := by decide +kernel
theorem dX8_setDread_12 : decode cX8_setDread 12 = .ok (.bipush 15, 2) := by decide +kernel
theorem dX8_setDread_14 : decode cX8_setDread 14 = .ok (.iand, 1) := by decide +kernel
theorem dX8_setDread_15 : decode cX8_setDread 15 = .ok (.iadd, 1) := by decide +kernel
theorem dX8_setDread_16 : decode cX8_setDread 16 = .ok (.iload_n 3, 1) := by decide +kernel
theorem dX8_setDread_17 : decode cX8_setDread 17 = .ok (.bipush 99, 2) := by decide +kernel
theorem dX8_setDread_19 : decode cX8_setDread 19 = .ok (.invokestatic 56, 3) := by decide +kernel
theorem dX8_setDread_22 : decode cX8_setDread 22 = .ok (.iastore, 1) := by decide +kernel
theorem dX8_setDread_23 : decode cX8_setDread 23 = .ok (.return_, 1) := by decide +kernel
theorem dX8_setTries_0 : decode cX8_setTries 0 = .ok (.aload_n 0, 1) := by decide +kernel
theorem dX8_setTries_1 : decode cX8_setTries 1 = .ok (.getfield 24, 3) := by decide +kernel
theorem dX8_setTries_4 : decode cX8_setTries 4 = .ok (.iload_n 1, 1) := by decide +kernel
theorem dX8_setTries_5 : decode cX8_setTries 5 = .ok (.bipush 7, 2) := by decide +kernel
theorem dX8_setTries_7 : decode cX8_setTries 7 = .ok (.iand, 1) := by decide +kernel
theorem dX8_setTries_8 : decode cX8_setTries 8 = .ok (.bipush 16, 2) := by decide +kernel
theorem dX8_setTries_10 : decode cX8_setTries 10 = .ok (.imul, 1) := by decide +kernel
theorem dX8_setTries_11 : decode cX8_setTries 11 = .ok (.iload_n 2, 1) := by decide +kernel
theorem dX8_setTries_12 : decode cX8_setTries 12 = .ok (.bipush 15, 2) := by decide +kernel
theorem dX8_setTries_14 : decode cX8_setTries 14 = .ok (.iand, 1) := by decide +kernel
theorem dX8_setTries_15 : decode cX8_setTries 15 = .ok (.iadd, 1) := by decide +kernel
theorem dX8_setTries_16 : decode cX8_setTries 16 = .ok (.iload_n 3, 1) := by decide +kernel
theorem dX8_setTries_17 : decode cX8_setTries 17 = .ok (.iastore, 1) := by decide +kernel
theorem dX8_setTries_18 : decode cX8_setTries 18 = .ok (.return_, 1) := by decide +kernel
theorem dX8_putNew_0 : decode cX8_putNew 0 = .ok (.aload_n 0, 1) := by decide +kernel
theorem dX8_putNew_1 : decode cX8_putNew 1 = .ok (.dup, 1) := by decide +kernel
theorem dX8_putNew_2 : decode cX8_putNew 2 = .ok (.getfield 44, 3) := by decide +kernel
theorem dX8_putNew_5 : decode cX8_putNew 5 = .ok (.iconst 1, 1) := by decide +kernel
theorem dX8_putNew_6 : decode cX8_putNew 6 = .ok (.iload_n 1, 1) := by decide +kernel
theorem dX8_putNew_7 : decode cX8_putNew 7 = .ok (.bipush 7, 2) := by decide +kernel
theorem dX8_putNew_9 : decode cX8_putNew 9 = .ok (.iand, 1) := by decide +kernel
theorem dX8_putNew_10 : decode cX8_putNew 10 = .ok (.ishl, 1) := by decide +kernel
theorem dX8_putNew_11 : decode cX8_putNew 11 = .ok (.ior, 1) := by decide +kernel
theorem dX8_putNew_12 : decode cX8_putNew 12 = .ok (.putfield 44, 3) := by decide +kernel
theorem dX8_putNew_15 : decode cX8_putNew 15 = .ok (.aload_n 0, 1) := by decide +kernel
theorem dX8_putNew_16 : decode cX8_putNew 16 = .ok (.iload_n 1, 1) := by decide +kernel
theorem dX8_putNew_17 : decode cX8_putNew 17 = .ok (.iload_n 2, 1) := by decide +kernel
theorem dX8_putNew_18 : decode cX8_putNew 18 = .ok (.invokevirtual 60, 3) := by decide +kernel
theorem dX8_putNew_21 : decode cX8_putNew 21 = .ok (.aload_n 0, 1) := by decide +kernel
theorem dX8_putNew_22 : decode cX8_putNew 22 = .ok (.iload_n 1, 1) := by decide +kernel
theorem dX8_putNew_23 : decode cX8_putNew 23 = .ok (.invokevirtual 64, 3) := by decide +kernel
theorem dX8_putNew_26 : decode cX8_putNew 26 = .ok (.iconst 0, 1) := by decide +kernel
theorem dX8_putNew_27 : decode cX8_putNew 27 = .ok (.istore_n 3, 1) := by decide +kernel
theorem dX8_putNew_28 : decode cX8_putNew 28 = .ok (.iload_n 3, 1) := by decide +kernel
theorem dX8_putNew_29 : decode cX8_putNew 29 = .ok (.bipush 16, 2) := by decide +kernel
theorem dX8_putNew_31 : decode cX8_putNew 31 = .ok (.if_icmp .ge 16, 3) := by decide +kernel
theorem dX8_putNew_34 : decode cX8_putNew 34 = .ok (.aload_n 0, 1) := by decide +kernel
theorem dX8_putNew_35 : decode cX8_putNew 35 = .ok (.iload_n 1, 1) := by decide +kernel
theorem dX8_putNew_36 : decode cX8_putNew 36 = .ok (.iload_n 3, 1) := by decide +kernel
theorem dX8_putNew_37 : decode cX8_putNew 37 = .ok (.iconst 0, 1) := by decide +kernel
theorem dX8_putNew_38 : decode cX8_putNew 38 = .ok (.invokevirtual 68, 3) := by decide +kernel
theorem dX8_putNew_41 : decode cX8_putNew 41 = .ok (.iinc 3 1, 3) := by decide +kernel
theorem dX8_putNew_44 : decode cX8_putNew 44 = .ok (.goto (-16), 3) := by decide +kernel
theorem dX8_putNew_47 : decode cX8_putNew 47 = .ok (.return_, 1) := by decide +kernel
theorem dX8_press_0 : decode cX8_press 0 = .ok (.aload_n 0, 1) := by decide +kernel
theorem dX8_press_1 : decode cX8_press 1 = .ok (.iload_n 1, 1) := by decide +kernel
theorem dX8_press_2 : decode cX8_press 2 = .ok (.invokevirtual 64, 3) := by decide +kernel
theorem dX8_press_5 : decode cX8_press 5 = .ok (.iload_n 2, 1) := by decide +kernel
theorem dX8_press_6 : decode cX8_press 6 = .ok (.istore_n 3, 1) := by decide +kernel
theorem dX8_press_7 : decode cX8_press 7 = .ok (.iconst 0, 1) := by decide +kernel
theorem dX8_press_8 : decode cX8_press 8 = .ok (.istore 4, 2) := by decide +kernel
theorem dX8_press_10 : decode cX8_press 10 = .ok (.iload 4, 2) := by decide +kernel
theorem dX8_press_12 : decode cX8_press 12 = .ok (.bipush 16, 2) := by decide +kernel
theorem dX8_press_14 : decode cX8_press 14 = .ok (.if_icmp .ge 42, 3) := by decide +kernel
theorem dX8_press_17 : decode cX8_press 17 = .ok (.iload_n 3, 1) := by decide +kernel
theorem dX8_press_18 : decode cX8_press 18 = .ok (.invokestatic 72, 3) := by decide +kernel
theorem dX8_press_21 : decode cX8_press 21 = .ok (.istore_n 3, 1) := by decide +kernel
theorem dX8_press_22 : decode cX8_press 22 = .ok (.iload_n 3, 1) := by decide +kernel
theorem dX8_press_23 : decode cX8_press 23 = .ok (.bipush 10, 2) := by decide +kernel
theorem dX8_press_25 : decode cX8_press 25 = .ok (.irem, 1) := by decide +kernel
theorem dX8_press_26 : decode cX8_press 26 = .ok (.istore 5, 2) := by decide +kernel
theorem dX8_press_28 : decode cX8_press 28 = .ok (.iload_n 3, 1) := by decide +kernel
theorem dX8_press_29 : decode cX8_press 29 = .ok (.invokestatic 72, 3) := by decide +kernel
theorem dX8_press_32 : decode cX8_press 32 = .ok (.istore_n 3, 1) := by decide +kernel
theorem dX8_press_33 : decode cX8_press 33 = .ok (.aload_n 0, 1) := by decide +kernel
theorem dX8_press_34 : decode cX8_press 34 = .ok (.iload_n 1, 1) := by decide +kernel
theorem dX8_press_35 : decode cX8_press 35 = .ok (.iload 4, 2) := by decide +kernel
theorem dX8_press_37 : decode cX8_press 37 = .ok (.bipush 10, 2) := by decide +kernel
theorem dX8_press_39 : decode cX8_press 39 = .ok (.iload 5, 2) := by decide +kernel
theorem dX8_press_41 : decode cX8_press 41 = .ok (.imul, 1) := by decide +kernel
theorem dX8_press_42 : decode cX8_press 42 = .ok (.iload_n 3, 1) := by decide +kernel
theorem dX8_press_43 : decode cX8_press 43 = .ok (.bipush 10, 2) := by decide +kernel
theorem dX8_press_45 : decode cX8_press 45 = .ok (.irem, 1) := by decide +kernel
theorem dX8_press_46 : decode cX8_press 46 = .ok (.iadd, 1) := by decide +kernel
theorem dX8_press_47 : decode cX8_press 47 = .ok (.invokevirtual 68, 3) := by decide +kernel
theorem dX8_press_50 : decode cX8_press 50 = .ok (.iinc 4 1, 3) := by decide +kernel
theorem dX8_press_53 : decode cX8_press 53 = .ok (.goto (-43), 3) := by decide +kernel
theorem dX8_press_56 : decode cX8_press 56 = .ok (.return_, 1) := by decide +kernel
theorem dX8_draw_0 : decode cX8_draw 0 = .ok (.aload_n 0, 1) := by decide +kernel
theorem dX8_draw_1 : decode cX8_draw 1 = .ok (.aload_n 0, 1) := by decide +kernel
theorem dX8_draw_2 : decode cX8_draw 2 = .ok (.getfield 35, 3) := by decide +kernel
theorem dX8_draw_5 : decode cX8_draw 5 = .ok (.invokestatic 72, 3) := by decide +kernel
theorem dX8_draw_8 : decode cX8_draw 8 = .ok (.putfield 35, 3) := by decide +kernel
theorem dX8_draw_11 : decode cX8_draw 11 = .ok (.aload_n 0, 1) := by decide +kernel
theorem dX8_draw_12 : decode cX8_draw 12 = .ok (.getfield 35, 3) := by decide +kernel
theorem dX8_draw_15 : decode cX8_draw 15 = .ok (.bipush 10, 2) := by decide +kernel
theorem dX8_draw_17 : decode cX8_draw 17 = .ok (.irem, 1) := by decide +kernel
theorem dX8_draw_18 : decode cX8_draw 18 = .ok (.ireturn, 1) := by decide +kernel
theorem dX8_dreadOfAll_0 : decode cX8_dreadOfAll 0 = .ok (.iconst 0, 1) := by decide +kernel
theorem dX8_dreadOfAll_1 : decode cX8_dreadOfAll 1 = .ok (.istore_n 2, 1) := by decide +kernel
theorem dX8_dreadOfAll_2 : decode cX8_dreadOfAll 2 = .ok (.iconst 0, 1) := by decide +kernel
theorem dX8_dreadOfAll_3 : decode cX8_dreadOfAll 3 = .ok (.istore_n 3, 1) := by decide +kernel
theorem dX8_dreadOfAll_4 : decode cX8_dreadOfAll 4 = .ok (.iload_n 3, 1) := by decide +kernel
theorem dX8_dreadOfAll_5 : decode cX8_dreadOfAll 5 = .ok (.bipush 16, 2) := by decide +kernel
theorem dX8_dreadOfAll_7 : decode cX8_dreadOfAll 7 = .ok (.if_icmp .ge 18, 3) := by decide +kernel
theorem dX8_dreadOfAll_10 : decode cX8_dreadOfAll 10 = .ok (.iload_n 2, 1) := by decide +kernel
theorem dX8_dreadOfAll_11 : decode cX8_dreadOfAll 11 = .ok (.aload_n 0, 1) := by decide +kernel
theorem dX8_dreadOfAll_12 : decode cX8_dreadOfAll 12 = .ok (.iload_n 1, 1) := by decide +kernel
theorem dX8_dreadOfAll_13 : decode cX8_dreadOfAll 13 = .ok (.iload_n 3, 1) := by decide +kernel
theorem dX8_dreadOfAll_14 : decode cX8_dreadOfAll 14 = .ok (.invokevirtual 76, 3) := by decide +kernel
theorem dX8_dreadOfAll_17 : decode cX8_dreadOfAll 17 = .ok (.iadd, 1) := by decide +kernel
theorem dX8_dreadOfAll_18 : decode cX8_dreadOfAll 18 = .ok (.istore_n 2, 1) := by decide +kernel
theorem dX8_dreadOfAll_19 : decode cX8_dreadOfAll 19 = .ok (.iinc 3 1, 3) := by decide +kernel
theorem dX8_dreadOfAll_22 : decode cX8_dreadOfAll 22 = .ok (.goto (-18), 3) := by decide +kernel
theorem dX8_dreadOfAll_25 : decode cX8_dreadOfAll 25 = .ok (.iload_n 2, 1) := by decide +kernel
theorem dX8_dreadOfAll_26 : decode cX8_dreadOfAll 26 = .ok (.ireturn, 1) := by decide +kernel
theorem dX8_shrinking_0 : decode cX8_shrinking 0 = .ok (.aload_n 0, 1) := by decide +kernel
theorem dX8_shrinking_1 : decode cX8_shrinking 1 = .ok (.iload_n 1, 1) := by decide +kernel
theorem dX8_shrinking_2 : decode cX8_shrinking 2 = .ok (.iload_n 2, 1) := by decide +kernel
theorem dX8_shrinking_3 : decode cX8_shrinking 3 = .ok (.invokevirtual 79, 3) := by decide +kernel
theorem dX8_shrinking_6 : decode cX8_shrinking 6 = .ok (.aload_n 0, 1) := by decide +kernel
theorem dX8_shrinking_7 : decode cX8_shrinking 7 = .ok (.iload_n 1, 1) := by decide +kernel
theorem dX8_shrinking_8 : decode cX8_shrinking 8 = .ok (.invokevirtual 82, 3) := by decide +kernel
theorem dX8_shrinking_11 : decode cX8_shrinking 11 = .ok (.isub, 1) := by decide +kernel
theorem dX8_shrinking_12 : decode cX8_shrinking 12 = .ok (.bipush 99, 2) := by decide +kernel
theorem dX8_shrinking_14 : decode cX8_shrinking 14 = .ok (.invokestatic 56, 3) := by decide +kernel
theorem dX8_shrinking_17 : decode cX8_shrinking 17 = .ok (.ireturn, 1) := by decide +kernel
theorem dX8_bears_0 : decode cX8_bears 0 = .ok (.aload_n 0, 1) := by decide +kernel
theorem dX8_bears_1 : decode cX8_bears 1 = .ok (.iload_n 1, 1) := by decide +kernel
theorem dX8_bears_2 : decode cX8_bears 2 = .ok (.iload_n 2, 1) := by decide +kernel
theorem dX8_bears_3 : decode cX8_bears 3 = .ok (.invokevirtual 85, 3) := by decide +kernel
theorem dX8_bears_6 : decode cX8_bears 6 = .ok (.aload_n 0, 1) := by decide +kernel
theorem dX8_bears_7 : decode cX8_bears 7 = .ok (.getfield 31, 3) := by decide +kernel
theorem dX8_bears_10 : decode cX8_bears 10 = .ok (.if_icmp .gt 7, 3) := by decide +kernel
theorem dX8_bears_13 : decode cX8_bears 13 = .ok (.iconst 1, 1) := by decide +kernel
theorem dX8_bears_14 : decode cX8_bears 14 = .ok (.goto 4, 3) := by decide +kernel
theorem dX8_bears_17 : decode cX8_bears 17 = .ok (.iconst 0, 1) := by decide +kernel
theorem dX8_bears_18 : decode cX8_bears 18 = .ok (.ireturn, 1) := by decide +kernel
theorem dX8_wordsBorneBy_0 : decode cX8_wordsBorneBy 0 = .ok (.iconst 0, 1) := by decide +kernel
theorem dX8_wordsBorneBy_1 : decode cX8_wordsBorneBy 1 = .ok (.istore_n 2, 1) := by decide +kernel
theorem dX8_wordsBorneBy_2 : decode cX8_wordsBorneBy 2 = .ok (.iconst 0, 1) := by decide +kernel
theorem dX8_wordsBorneBy_3 : decode cX8_wordsBorneBy 3 = .ok (.istore_n 3, 1) := by decide +kernel
theorem dX8_wordsBorneBy_4 : decode cX8_wordsBorneBy 4 = .ok (.iload_n 3, 1) := by decide +kernel
theorem dX8_wordsBorneBy_5 : decode cX8_wordsBorneBy 5 = .ok (.bipush 16, 2) := by decide +kernel
theorem dX8_wordsBorneBy_7 : decode cX8_wordsBorneBy 7 = .ok (.if_icmp .ge 28, 3) := by decide +kernel
theorem dX8_wordsBorneBy_10 : decode cX8_wordsBorneBy 10 = .ok (.iload_n 2, 1) := by decide +kernel
theorem dX8_wordsBorneBy_11 : decode cX8_wordsBorneBy 11 = .ok (.aload_n 0, 1) := by decide +kernel
theorem dX8_wordsBorneBy_12 : decode cX8_wordsBorneBy 12 = .ok (.iload_n 1, 1) := by decide +kernel
theorem dX8_wordsBorneBy_13 : decode cX8_wordsBorneBy 13 = .ok (.iload_n 3, 1) := by decide +kernel
theorem dX8_wordsBorneBy_14 : decode cX8_wordsBorneBy 14 = .ok (.invokevirtual 88, 3) := by decide +kernel
theorem dX8_wordsBorneBy_17 : decode cX8_wordsBorneBy 17 = .ok (.ifCond .eq 9, 3) := by decide +kernel
theorem dX8_wordsBorneBy_20 : decode cX8_wordsBorneBy 20 = .ok (.iconst 1, 1) := by decide +kernel
theorem dX8_wordsBorneBy_21 : decode cX8_wordsBorneBy 21 = .ok (.iload_n 3, 1) := by decide +kernel
theorem dX8_wordsBorneBy_22 : decode cX8_wordsBorneBy 22 = .ok (.ishl, 1) := by decide +kernel
theorem dX8_wordsBorneBy_23 : decode cX8_wordsBorneBy 23 = .ok (.goto 4, 3) := by decide +kernel
theorem dX8_wordsBorneBy_26 : decode cX8_wordsBorneBy 26 = .ok (.iconst 0, 1) := by decide +kernel
theorem dX8_wordsBorneBy_27 : decode cX8_wordsBorneBy 27 = .ok (.ior, 1) := by decide +kernel
theorem dX8_wordsBorneBy_28 : decode cX8_wordsBorneBy 28 = .ok (.istore_n 2, 1) := by decide +kernel
theorem dX8_wordsBorneBy_29 : decode cX8_wordsBorneBy 29 = .ok (.iinc 3 1, 3) := by decide +kernel
theorem dX8_wordsBorneBy_32 : decode cX8_wordsBorneBy 32 = .ok (.goto (-28), 3) := by decide +kernel
theorem dX8_wordsBorneBy_35 : decode cX8_wordsBorneBy 35 = .ok (.iload_n 2, 1) := by decide +kernel
theorem dX8_wordsBorneBy_36 : decode cX8_wordsBorneBy 36 = .ok (.ireturn, 1) := by decide +kernel
theorem dX8_bottlesBearing_0 : decode cX8_bottlesBearing 0 = .ok (.iconst 0, 1) := by decide +kernel
theorem dX8_bottlesBearing_1 : decode cX8_bottlesBearing 1 = .ok (.istore_n 2, 1) := by decide +kernel
theorem dX8_bottlesBearing_2 : decode cX8_bottlesBearing 2 = .ok (.iconst 0, 1) := by decide +kernel
theorem dX8_bottlesBearing_3 : decode cX8_bottlesBearing 3 = .ok (.istore_n 3, 1) := by decide +kernel
theorem dX8_bottlesBearing_4 : decode cX8_bottlesBearing 4 = .ok (.iload_n 3, 1) := by decide +kernel
theorem dX8_bottlesBearing_5 : decode cX8_bottlesBearing 5 = .ok (.bipush 8, 2) := by decide +kernel
theorem dX8_bottlesBearing_7 : decode cX8_bottlesBearing 7 = .ok (.if_icmp .ge 36, 3) := by decide +kernel
theorem dX8_bottlesBearing_10 : decode cX8_bottlesBearing 10 = .ok (.iload_n 2, 1) := by decide +kernel
theorem dX8_bottlesBearing_11 : decode cX8_bottlesBearing 11 = .ok (.aload_n 0, 1) := by decide +kernel
theorem dX8_bottlesBearing_12 : decode cX8_bottlesBearing 12 = .ok (.iload_n 3, 1) := by decide +kernel
theorem dX8_bottlesBearing_13 : decode cX8_bottlesBearing 13 = .ok (.invokevirtual 92, 3) := by decide +kernel
theorem dX8_bottlesBearing_16 : decode cX8_bottlesBearing 16 = .ok (.ifCond .eq 18, 3) := by decide +kernel
theorem dX8_bottlesBearing_19 : decode cX8_bottlesBearing 19 = .ok (.aload_n 0, 1) := by decide +kernel
theorem dX8_bottlesBearing_20 : decode cX8_bottlesBearing 20 = .ok (.iload_n 3, 1) := by decide +kernel
theorem dX8_bottlesBearing_21 : decode cX8_bottlesBearing 21 = .ok (.iload_n 1, 1) := by decide +kernel
theorem dX8_bottlesBearing_22 : decode cX8_bottlesBearing 22 = .ok (.invokevirtual 88, 3) := by decide +kernel
theorem dX8_bottlesBearing_25 : decode cX8_bottlesBearing 25 = .ok (.ifCond .eq 9, 3) := by decide +kernel
theorem dX8_bottlesBearing_28 : decode cX8_bottlesBearing 28 = .ok (.iconst 1, 1) := by decide +kernel
theorem dX8_bottlesBearing_29 : decode cX8_bottlesBearing 29 = .ok (.iload_n 3, 1) := by decide +kernel
theorem dX8_bottlesBearing_30 : decode cX8_bottlesBearing 30 = .ok (.ishl, 1) := by decide +kernel
theorem dX8_bottlesBearing_31 : decode cX8_bottlesBearing 31 = .ok (.goto 4, 3) := by decide +kernel
theorem dX8_bottlesBearing_34 : decode cX8_bottlesBearing 34 = .ok (.iconst 0, 1) := by decide +kernel
theorem dX8_bottlesBearing_35 : decode cX8_bottlesBearing 35 = .ok (.ior, 1) := by decide +kernel
theorem dX8_bottlesBearing_36 : decode cX8_bottlesBearing 36 = .ok (.istore_n 2, 1) := by decide +kernel
theorem dX8_bottlesBearing_37 : decode cX8_bottlesBearing 37 = .ok (.iinc 3 1, 3) := by decide +kernel
theorem dX8_bottlesBearing_40 : decode cX8_bottlesBearing 40 = .ok (.goto (-36), 3) := by decide +kernel
theorem dX8_bottlesBearing_43 : decode cX8_bottlesBearing 43 = .ok (.iload_n 2, 1) := by decide +kernel
theorem dX8_bottlesBearing_44 : decode cX8_bottlesBearing 44 = .ok (.ireturn, 1) := by decide +kernel
theorem dX8_wordsBorneByAll_0 : decode cX8_wordsBorneByAll 0 = .ok (.ldc 96, 2) := by decide +kernel
theorem dX8_wordsBorneByAll_2 : decode cX8_wordsBorneByAll 2 = .ok (.istore_n 1, 1) := by decide +kernel
theorem dX8_wordsBorneByAll_3 : decode cX8_wordsBorneByAll 3 = .ok (.iconst 0, 1) := by decide +kernel
theorem dX8_wordsBorneByAll_4 : decode cX8_wordsBorneByAll 4 = .ok (.istore_n 2, 1) := by decide +kernel
theorem dX8_wordsBorneByAll_5 : decode cX8_wordsBorneByAll 5 = .ok (.iload_n 2, 1) := by decide +kernel
theorem dX8_wordsBorneByAll_6 : decode cX8_wordsBorneByAll 6 = .ok (.bipush 8, 2) := by decide +kernel
theorem dX8_wordsBorneByAll_8 : decode cX8_wordsBorneByAll 8 = .ok (.if_icmp .ge 30, 3) := by decide +kernel
theorem dX8_wordsBorneByAll_11 : decode cX8_wordsBorneByAll 11 = .ok (.iload_n 1, 1) := by decide +kernel
theorem dX8_wordsBorneByAll_12 : decode cX8_wordsBorneByAll 12 = .ok (.aload_n 0, 1) := by decide +kernel
theorem dX8_wordsBorneByAll_13 : decode cX8_wordsBorneByAll 13 = .ok (.iload_n 2, 1) := by decide +kernel
theorem dX8_wordsBorneByAll_14 : decode cX8_wordsBorneByAll 14 = .ok (.invokevirtual 92, 3) := by decide +kernel
theorem dX8_wordsBorneByAll_17 : decode cX8_wordsBorneByAll 17 = .ok (.ifCond .eq 11, 3) := by decide +kernel
theorem dX8_wordsBorneByAll_20 : decode cX8_wordsBorneByAll 20 = .ok (.aload_n 0, 1) := by decide +kernel
theorem dX8_wordsBorneByAll_21 : decode cX8_wordsBorneByAll 21 = .ok (.iload_n 2, 1) := by decide +kernel
theorem dX8_wordsBorneByAll_22 : decode cX8_wordsBorneByAll 22 = .ok (.invokevirtual 97, 3) := by decide +kernel
theorem dX8_wordsBorneByAll_25 : decode cX8_wordsBorneByAll 25 = .ok (.goto 5, 3) := by decide +kernel
theorem dX8_wordsBorneByAll_28 : decode cX8_wordsBorneByAll 28 = .ok (.ldc 96, 2) := by decide +kernel
theorem dX8_wordsBorneByAll_30 : decode cX8_wordsBorneByAll 30 = .ok (.iand, 1) := by decide +kernel
theorem dX8_wordsBorneByAll_31 : decode cX8_wordsBorneByAll 31 = .ok (.istore_n 1, 1) := by decide +kernel
theorem dX8_wordsBorneByAll_32 : decode cX8_wordsBorneByAll 32 = .ok (.iinc 2 1, 3) := by decide +kernel
theorem dX8_wordsBorneByAll_35 : decode cX8_wordsBorneByAll 35 = .ok (.goto (-30), 3) := by decide +kernel
theorem dX8_wordsBorneByAll_38 : decode cX8_wordsBorneByAll 38 = .ok (.iload_n 1, 1) := by decide +kernel
theorem dX8_wordsBorneByAll_39 : decode cX8_wordsBorneByAll 39 = .ok (.ireturn, 1) := by decide +kernel
theorem dX8_wordsBorneByNone_0 : decode cX8_wordsBorneByNone 0 = .ok (.ldc 96, 2) := by decide +kernel
theorem dX8_wordsBorneByNone_2 : decode cX8_wordsBorneByNone 2 = .ok (.istore_n 1, 1) := by decide +kernel
theorem dX8_wordsBorneByNone_3 : decode cX8_wordsBorneByNone 3 = .ok (.iconst 0, 1) := by decide +kernel
theorem dX8_wordsBorneByNone_4 : decode cX8_wordsBorneByNone 4 = .ok (.istore_n 2, 1) := by decide +kernel
theorem dX8_wordsBorneByNone_5 : decode cX8_wordsBorneByNone 5 = .ok (.iload_n 2, 1) := by decide +kernel
theorem dX8_wordsBorneByNone_6 : decode cX8_wordsBorneByNone 6 = .ok (.bipush 8, 2) := by decide +kernel
theorem dX8_wordsBorneByNone_8 : decode cX8_wordsBorneByNone 8 = .ok (.if_icmp .ge 32, 3) := by decide +kernel
theorem dX8_wordsBorneByNone_11 : decode cX8_wordsBorneByNone 11 = .ok (.iload_n 1, 1) := by decide +kernel
theorem dX8_wordsBorneByNone_12 : decode cX8_wordsBorneByNone 12 = .ok (.aload_n 0, 1) := by decide +kernel
theorem dX8_wordsBorneByNone_13 : decode cX8_wordsBorneByNone 13 = .ok (.iload_n 2, 1) := by decide +kernel
theorem dX8_wordsBorneByNone_14 : decode cX8_wordsBorneByNone 14 = .ok (.invokevirtual 92, 3) := by decide +kernel
theorem dX8_wordsBorneByNone_17 : decode cX8_wordsBorneByNone 17 = .ok (.ifCond .eq 13, 3) := by decide +kernel
theorem dX8_wordsBorneByNone_20 : decode cX8_wordsBorneByNone 20 = .ok (.aload_n 0, 1) := by decide +kernel
theorem dX8_wordsBorneByNone_21 : decode cX8_wordsBorneByNone 21 = .ok (.iload_n 2, 1) := by decide +kernel
theorem dX8_wordsBorneByNone_22 : decode cX8_wordsBorneByNone 22 = .ok (.invokevirtual 97, 3) := by decide +kernel
theorem dX8_wordsBorneByNone_25 : decode cX8_wordsBorneByNone 25 = .ok (.iconst (-1), 1) := by decide +kernel
theorem dX8_wordsBorneByNone_26 : decode cX8_wordsBorneByNone 26 = .ok (.ixor, 1) := by decide +kernel
theorem dX8_wordsBorneByNone_27 : decode cX8_wordsBorneByNone 27 = .ok (.goto 5, 3) := by decide +kernel
theorem dX8_wordsBorneByNone_30 : decode cX8_wordsBorneByNone 30 = .ok (.ldc 96, 2) := by decide +kernel
theorem dX8_wordsBorneByNone_32 : decode cX8_wordsBorneByNone 32 = .ok (.iand, 1) := by decide +kernel
theorem dX8_wordsBorneByNone_33 : decode cX8_wordsBorneByNone 33 = .ok (.istore_n 1, 1) := by decide +kernel
theorem dX8_wordsBorneByNone_34 : decode cX8_wordsBorneByNone 34 = .ok (.iinc 2 1, 3) := by decide +kernel
theorem dX8_wordsBorneByNone_37 : decode cX8_wordsBorneByNone 37 = .ok (.goto (-32), 3) := by decide +kernel
theorem dX8_wordsBorneByNone_40 : decode cX8_wordsBorneByNone 40 = .ok (.iload_n 1, 1) := by decide +kernel
theorem dX8_wordsBorneByNone_41 : decode cX8_wordsBorneByNone 41 = .ok (.ireturn, 1) := by decide +kernel
theorem dX8_bearsWithSalt_0 : decode cX8_bearsWithSalt 0 = .ok (.iconst 0, 1) := by decide +kernel
theorem dX8_bearsWithSalt_1 : decode cX8_bearsWithSalt 1 = .ok (.istore 4, 2) := by decide +kernel
theorem dX8_bearsWithSalt_3 : decode cX8_bearsWithSalt 3 = .ok (.iload 4, 2) := by decide +kernel
theorem dX8_bearsWithSalt_5 : decode cX8_bearsWithSalt 5 = .ok (.bipush 16, 2) := by decide +kernel
theorem dX8_bearsWithSalt_7 : decode cX8_bearsWithSalt 7 = .ok (.if_icmp .ge 45, 3) := by decide +kernel
theorem dX8_bearsWithSalt_10 : decode cX8_bearsWithSalt 10 = .ok (.aload_n 0, 1) := by decide +kernel
theorem dX8_bearsWithSalt_11 : decode cX8_bearsWithSalt 11 = .ok (.iload_n 1, 1) := by decide +kernel
theorem dX8_bearsWithSalt_12 : decode cX8_bearsWithSalt 12 = .ok (.iload 4, 2) := by decide +kernel
theorem dX8_bearsWithSalt_14 : decode cX8_bearsWithSalt 14 = .ok (.invokevirtual 79, 3) := by decide +kernel
theorem dX8_bearsWithSalt_17 : decode cX8_bearsWithSalt 17 = .ok (.iload_n 3, 1) := by decide +kernel
theorem dX8_bearsWithSalt_18 : decode cX8_bearsWithSalt 18 = .ok (.isub, 1) := by decide +kernel
theorem dX8_bearsWithSalt_19 : decode cX8_bearsWithSalt 19 = .ok (.bipush 99, 2) := by decide +kernel
theorem dX8_bearsWithSalt_21 : decode cX8_bearsWithSalt 21 = .ok (.invokestatic 56, 3) := by decide +kernel
theorem dX8_bearsWithSalt_24 : decode cX8_bearsWithSalt 24 = .ok (.istore 5, 2) := by decide +kernel
theorem dX8_bearsWithSalt_26 : decode cX8_bearsWithSalt 26 = .ok (.iload_n 2, 1) := by decide +kernel
theorem dX8_bearsWithSalt_27 : decode cX8_bearsWithSalt 27 = .ok (.iload 4, 2) := by decide +kernel
theorem dX8_bearsWithSalt_29 : decode cX8_bearsWithSalt 29 = .ok (.ishr, 1) := by decide +kernel
theorem dX8_bearsWithSalt_30 : decode cX8_bearsWithSalt 30 = .ok (.iconst 1, 1) := by decide +kernel
theorem dX8_bearsWithSalt_31 : decode cX8_bearsWithSalt 31 = .ok (.iand, 1) := by decide +kernel
theorem dX8_bearsWithSalt_32 : decode cX8_bearsWithSalt 32 = .ok (.ifCond .eq 14, 3) := by decide +kernel
theorem dX8_bearsWithSalt_35 : decode cX8_bearsWithSalt 35 = .ok (.iload 5, 2) := by decide +kernel
theorem dX8_bearsWithSalt_37 : decode cX8_bearsWithSalt 37 = .ok (.aload_n 0, 1) := by decide +kernel
theorem dX8_bearsWithSalt_38 : decode cX8_bearsWithSalt 38 = .ok (.getfield 31, 3) := by decide +kernel
theorem dX8_bearsWithSalt_41 : decode cX8_bearsWithSalt 41 = .ok (.if_icmp .le 5, 3) := by decide +kernel
theorem dX8_bearsWithSalt_44 : decode cX8_bearsWithSalt 44 = .ok (.iconst 0, 1) := by decide +kernel
theorem dX8_bearsWithSalt_45 : decode cX8_bearsWithSalt 45 = .ok (.ireturn, 1) := by decide +kernel
theorem dX8_bearsWithSalt_46 : decode cX8_bearsWithSalt 46 = .ok (.iinc 4 1, 3) := by decide +kernel
theorem dX8_bearsWithSalt_49 : decode cX8_bearsWithSalt 49 = .ok (.goto (-46), 3) := by decide +kernel
theorem dX8_bearsWithSalt_52 : decode cX8_bearsWithSalt 52 = .ok (.iconst 1, 1) := by decide +kernel
theorem dX8_bearsWithSalt_53 : decode cX8_bearsWithSalt 53 = .ok (.ireturn, 1) := by decide +kernel
theorem dX8_mixtureBears_0 : decode cX8_mixtureBears 0 = .ok (.iconst 0, 1) := by decide +kernel
theorem dX8_mixtureBears_1 : decode cX8_mixtureBears 1 = .ok (.istore 5, 2) := by decide +kernel
theorem dX8_mixtureBears_3 : decode cX8_mixtureBears 3 = .ok (.iload 5, 2) := by decide +kernel
theorem dX8_mixtureBears_5 : decode cX8_mixtureBears 5 = .ok (.bipush 16, 2) := by decide +kernel
theorem dX8_mixtureBears_7 : decode cX8_mixtureBears 7 = .ok (.if_icmp .ge 57, 3) := by decide +kernel
theorem dX8_mixtureBears_10 : decode cX8_mixtureBears 10 = .ok (.iload_n 3, 1) := by decide +kernel
theorem dX8_mixtureBears_11 : decode cX8_mixtureBears 11 = .ok (.aload_n 0, 1) := by decide +kernel
theorem dX8_mixtureBears_12 : decode cX8_mixtureBears 12 = .ok (.iload_n 1, 1) := by decide +kernel
theorem dX8_mixtureBears_13 : decode cX8_mixtureBears 13 = .ok (.iload 5, 2) := by decide +kernel
theorem dX8_mixtureBears_15 : decode cX8_mixtureBears 15 = .ok (.invokevirtual 85, 3) := by decide +kernel
theorem dX8_mixtureBears_18 : decode cX8_mixtureBears 18 = .ok (.imul, 1) := by decide +kernel
theorem dX8_mixtureBears_19 : decode cX8_mixtureBears 19 = .ok (.bipush 8, 2) := by decide +kernel
theorem dX8_mixtureBears_21 : decode cX8_mixtureBears 21 = .ok (.iload_n 3, 1) := by decide +kernel
theorem dX8_mixtureBears_22 : decode cX8_mixtureBears 22 = .ok (.isub, 1) := by decide +kernel
theorem dX8_mixtureBears_23 : decode cX8_mixtureBears 23 = .ok (.aload_n 0, 1) := by decide +kernel
theorem dX8_mixtureBears_24 : decode cX8_mixtureBears 24 = .ok (.iload_n 2, 1) := by decide +kernel
theorem dX8_mixtureBears_25 : decode cX8_mixtureBears 25 = .ok (.iload 5, 2) := by decide +kernel
theorem dX8_mixtureBears_27 : decode cX8_mixtureBears 27 = .ok (.invokevirtual 85, 3) := by decide +kernel
theorem dX8_mixtureBears_30 : decode cX8_mixtureBears 30 = .ok (.imul, 1) := by decide +kernel
theorem dX8_mixtureBears_31 : decode cX8_mixtureBears 31 = .ok (.iadd, 1) := by decide +kernel
theorem dX8_mixtureBears_32 : decode cX8_mixtureBears 32 = .ok (.bipush 8, 2) := by decide +kernel
theorem dX8_mixtureBears_34 : decode cX8_mixtureBears 34 = .ok (.idiv, 1) := by decide +kernel
theorem dX8_mixtureBears_35 : decode cX8_mixtureBears 35 = .ok (.istore 6, 2) := by decide +kernel
theorem dX8_mixtureBears_37 : decode cX8_mixtureBears 37 = .ok (.iload 4, 2) := by decide +kernel
theorem dX8_mixtureBears_39 : decode cX8_mixtureBears 39 = .ok (.iload 5, 2) := by decide +kernel
theorem dX8_mixtureBears_41 : decode cX8_mixtureBears 41 = .ok (.ishr, 1) := by decide +kernel
theorem dX8_mixtureBears_42 : decode cX8_mixtureBears 42 = .ok (.iconst 1, 1) := by decide +kernel
theorem dX8_mixtureBears_43 : decode cX8_mixtureBears 43 = .ok (.iand, 1) := by decide +kernel
theorem dX8_mixtureBears_44 : decode cX8_mixtureBears 44 = .ok (.ifCond .eq 14, 3) := by decide +kernel
theorem dX8_mixtureBears_47 : decode cX8_mixtureBears 47 = .ok (.iload 6, 2) := by decide +kernel
theorem dX8_mixtureBears_49 : decode cX8_mixtureBears 49 = .ok (.aload_n 0, 1) := by decide +kernel
theorem dX8_mixtureBears_50 : decode cX8_mixtureBears 50 = .ok (.getfield 31, 3) := by decide +kernel
theorem dX8_mixtureBears_53 : decode cX8_mixtureBears 53 = .ok (.if_icmp .le 5, 3) := by decide +kernel
theorem dX8_mixtureBears_56 : decode cX8_mixtureBears 56 = .ok (.iconst 0, 1) := by decide +kernel
theorem dX8_mixtureBears_57 : decode cX8_mixtureBears 57 = .ok (.ireturn, 1) := by decide +kernel
theorem dX8_mixtureBears_58 : decode cX8_mixtureBears 58 = .ok (.iinc 5 1, 3) := by decide +kernel
theorem dX8_mixtureBears_61 : decode cX8_mixtureBears 61 = .ok (.goto (-58), 3) := by decide +kernel
theorem dX8_mixtureBears_64 : decode cX8_mixtureBears 64 = .ok (.iconst 1, 1) := by decide +kernel
theorem dX8_mixtureBears_65 : decode cX8_mixtureBears 65 = .ok (.ireturn, 1) := by decide +kernel
theorem dX8_countWord_0 : decode cX8_countWord 0 = .ok (.iload_n 1, 1) := by decide +kernel
theorem dX8_countWord_1 : decode cX8_countWord 1 = .ok (.ifCond .eq 22, 3) := by decide +kernel
theorem dX8_countWord_4 : decode cX8_countWord 4 = .ok (.aload_n 0, 1) := by decide +kernel
theorem dX8_countWord_5 : decode cX8_countWord 5 = .ok (.aload_n 0, 1) := by decide +kernel
theorem dX8_countWord_6 : decode cX8_countWord 6 = .ok (.getfield 50, 3) := by decide +kernel
theorem dX8_countWord_9 : decode cX8_countWord 9 = .ok (.iconst 1, 1) := by decide +kernel
theorem dX8_countWord_10 : decode cX8_countWord 10 = .ok (.iadd, 1) := by decide +kernel
theorem dX8_countWord_11 : decode cX8_countWord 11 = .ok (.sipush 9999, 3) := by decide +kernel
theorem dX8_countWord_14 : decode cX8_countWord 14 = .ok (.invokestatic 100, 3) := by decide +kernel
theorem dX8_countWord_17 : decode cX8_countWord 17 = .ok (.putfield 50, 3) := by decide +kernel
theorem dX8_countWord_20 : decode cX8_countWord 20 = .ok (.goto 19, 3) := by decide +kernel
theorem dX8_countWord_23 : decode cX8_countWord 23 = .ok (.aload_n 0, 1) := by decide +kernel
theorem dX8_countWord_24 : decode cX8_countWord 24 = .ok (.aload_n 0, 1) := by decide +kernel
theorem dX8_countWord_25 : decode cX8_countWord 25 = .ok (.getfield 47, 3) := by decide +kernel
theorem dX8_countWord_28 : decode cX8_countWord 28 = .ok (.iconst 1, 1) := by decide +kernel
theorem dX8_countWord_29 : decode cX8_countWord 29 = .ok (.iadd, 1) := by decide +kernel
theorem dX8_countWord_30 : decode cX8_countWord 30 = .ok (.sipush 9999, 3) := by decide +kernel
theorem dX8_countWord_33 : decode cX8_countWord 33 = .ok (.invokestatic 100, 3) := by decide +kernel
theorem dX8_countWord_36 : decode cX8_countWord 36 = .ok (.putfield 47, 3) := by decide +kernel
theorem dX8_countWord_39 : decode cX8_countWord 39 = .ok (.return_, 1) := by decide +kernel
theorem dX8_tryWord_0 : decode cX8_tryWord 0 = .ok (.aload_n 0, 1) := by decide +kernel
theorem dX8_tryWord_1 : decode cX8_tryWord 1 = .ok (.iload_n 1, 1) := by decide +kernel
theorem dX8_tryWord_2 : decode cX8_tryWord 2 = .ok (.iconst 0, 1) := by decide +kernel
theorem dX8_tryWord_3 : decode cX8_tryWord 3 = .ok (.aload_n 0, 1) := by decide +kernel
theorem dX8_tryWord_4 : decode cX8_tryWord 4 = .ok (.iload_n 1, 1) := by decide +kernel
theorem dX8_tryWord_5 : decode cX8_tryWord 5 = .ok (.invokevirtual 105, 3) := by decide +kernel
theorem dX8_tryWord_8 : decode cX8_tryWord 8 = .ok (.iconst 1, 1) := by decide +kernel
theorem dX8_tryWord_9 : decode cX8_tryWord 9 = .ok (.isub, 1) := by decide +kernel
theorem dX8_tryWord_10 : decode cX8_tryWord 10 = .ok (.invokestatic 108, 3) := by decide +kernel
theorem dX8_tryWord_13 : decode cX8_tryWord 13 = .ok (.invokevirtual 111, 3) := by decide +kernel
theorem dX8_tryWord_16 : decode cX8_tryWord 16 = .ok (.aload_n 0, 1) := by decide +kernel
theorem dX8_tryWord_17 : decode cX8_tryWord 17 = .ok (.iload_n 1, 1) := by decide +kernel
theorem dX8_tryWord_18 : decode cX8_tryWord 18 = .ok (.iload_n 2, 1) := by decide +kernel
theorem dX8_tryWord_19 : decode cX8_tryWord 19 = .ok (.aload_n 0, 1) := by decide +kernel
theorem dX8_tryWord_20 : decode cX8_tryWord 20 = .ok (.iload_n 1, 1) := by decide +kernel
theorem dX8_tryWord_21 : decode cX8_tryWord 21 = .ok (.iload_n 2, 1) := by decide +kernel
theorem dX8_tryWord_22 : decode cX8_tryWord 22 = .ok (.invokevirtual 114, 3) := by decide +kernel
theorem dX8_tryWord_25 : decode cX8_tryWord 25 = .ok (.iconst 1, 1) := by decide +kernel
theorem dX8_tryWord_26 : decode cX8_tryWord 26 = .ok (.iadd, 1) := by decide +kernel
theorem dX8_tryWord_27 : decode cX8_tryWord 27 = .ok (.invokevirtual 117, 3) := by decide +kernel
theorem dX8_tryWord_30 : decode cX8_tryWord 30 = .ok (.aload_n 0, 1) := by decide +kernel
theorem dX8_tryWord_31 : decode cX8_tryWord 31 = .ok (.iload_n 1, 1) := by decide +kernel
theorem dX8_tryWord_32 : decode cX8_tryWord 32 = .ok (.iload_n 2, 1) := by decide +kernel
theorem dX8_tryWord_33 : decode cX8_tryWord 33 = .ok (.invokevirtual 114, 3) := by decide +kernel
theorem dX8_tryWord_36 : decode cX8_tryWord 36 = .ok (.bipush 9, 2) := by decide +kernel
theorem dX8_tryWord_38 : decode cX8_tryWord 38 = .ok (.if_icmp .ge 5, 3) := by decide +kernel
theorem dX8_tryWord_41 : decode cX8_tryWord 41 = .ok (.iconst 0, 1) := by decide +kernel
theorem dX8_tryWord_42 : decode cX8_tryWord 42 = .ok (.ireturn, 1) := by decide +kernel
theorem dX8_tryWord_43 : decode cX8_tryWord 43 = .ok (.aload_n 0, 1) := by decide +kernel
theorem dX8_tryWord_44 : decode cX8_tryWord 44 = .ok (.iload_n 1, 1) := by decide +kernel
theorem dX8_tryWord_45 : decode cX8_tryWord 45 = .ok (.iload_n 2, 1) := by decide +kernel
theorem dX8_tryWord_46 : decode cX8_tryWord 46 = .ok (.invokevirtual 120, 3) := by decide +kernel
theorem dX8_tryWord_49 : decode cX8_tryWord 49 = .ok (.iconst 1, 1) := by decide +kernel
theorem dX8_tryWord_50 : decode cX8_tryWord 50 = .ok (.ireturn, 1) := by decide +kernel
theorem dX8_makeUsed_0 : decode cX8_makeUsed 0 = .ok (.aload_n 0, 1) := by decide +kernel
theorem dX8_makeUsed_1 : decode cX8_makeUsed 1 = .ok (.iload_n 1, 1) := by decide +kernel
theorem dX8_makeUsed_2 : decode cX8_makeUsed 2 = .ok (.iload_n 2, 1) := by decide +kernel
theorem dX8_makeUsed_3 : decode cX8_makeUsed 3 = .ok (.iconst 0, 1) := by decide +kernel
theorem dX8_makeUsed_4 : decode cX8_makeUsed 4 = .ok (.invokevirtual 68, 3) := by decide +kernel
theorem dX8_makeUsed_7 : decode cX8_makeUsed 7 = .ok (.aload_n 0, 1) := by decide +kernel
theorem dX8_makeUsed_8 : decode cX8_makeUsed 8 = .ok (.iload_n 1, 1) := by decide +kernel
theorem dX8_makeUsed_9 : decode cX8_makeUsed 9 = .ok (.iload_n 2, 1) := by decide +kernel
theorem dX8_makeUsed_10 : decode cX8_makeUsed 10 = .ok (.iconst 0, 1) := by decide +kernel
theorem dX8_makeUsed_11 : decode cX8_makeUsed 11 = .ok (.invokevirtual 117, 3) := by decide +kernel
theorem dX8_makeUsed_14 : decode cX8_makeUsed 14 = .ok (.aload_n 0, 1) := by decide +kernel
theorem dX8_makeUsed_15 : decode cX8_makeUsed 15 = .ok (.getfield 27, 3) := by decide +kernel
theorem dX8_makeUsed_18 : decode cX8_makeUsed 18 = .ok (.iload_n 2, 1) := by decide +kernel
theorem dX8_makeUsed_19 : decode cX8_makeUsed 19 = .ok (.invokevirtual 123, 3) := by decide +kernel
theorem dX8_makeUsed_22 : decode cX8_makeUsed 22 = .ok (.istore_n 3, 1) := by decide +kernel
theorem dX8_makeUsed_23 : decode cX8_makeUsed 23 = .ok (.iload_n 3, 1) := by decide +kernel
theorem dX8_makeUsed_24 : decode cX8_makeUsed 24 = .ok (.iload_n 2, 1) := by decide +kernel
theorem dX8_makeUsed_25 : decode cX8_makeUsed 25 = .ok (.if_icmp .eq 18, 3) := by decide +kernel
theorem dX8_makeUsed_28 : decode cX8_makeUsed 28 = .ok (.aload_n 0, 1) := by decide +kernel
theorem dX8_makeUsed_29 : decode cX8_makeUsed 29 = .ok (.iload_n 1, 1) := by decide +kernel
theorem dX8_makeUsed_30 : decode cX8_makeUsed 30 = .ok (.iload_n 3, 1) := by decide +kernel
theorem dX8_makeUsed_31 : decode cX8_makeUsed 31 = .ok (.aload_n 0, 1) := by decide +kernel
theorem dX8_makeUsed_32 : decode cX8_makeUsed 32 = .ok (.iload_n 1, 1) := by decide +kernel
theorem dX8_makeUsed_33 : decode cX8_makeUsed 33 = .ok (.iload_n 3, 1) := by decide +kernel
theorem dX8_makeUsed_34 : decode cX8_makeUsed 34 = .ok (.invokevirtual 76, 3) := by decide +kernel
theorem dX8_makeUsed_37 : decode cX8_makeUsed 37 = .ok (.bipush 9, 2) := by decide +kernel
theorem dX8_makeUsed_39 : decode cX8_makeUsed 39 = .ok (.iadd, 1) := by decide +kernel
theorem dX8_makeUsed_40 : decode cX8_makeUsed 40 = .ok (.invokevirtual 68, 3) := by decide +kernel
theorem dX8_makeUsed_43 : decode cX8_makeUsed 43 = .ok (.return_, 1) := by decide +kernel
theorem dX8_cleanse_0 : decode cX8_cleanse 0 = .ok (.aload_n 0, 1) := by decide +kernel
theorem dX8_cleanse_1 : decode cX8_cleanse 1 = .ok (.iload_n 1, 1) := by decide +kernel
theorem dX8_cleanse_2 : decode cX8_cleanse 2 = .ok (.iconst 0, 1) := by decide +kernel
theorem dX8_cleanse_3 : decode cX8_cleanse 3 = .ok (.invokevirtual 128, 3) := by decide +kernel
theorem dX8_cleanse_6 : decode cX8_cleanse 6 = .ok (.aload_n 0, 1) := by decide +kernel
theorem dX8_cleanse_7 : decode cX8_cleanse 7 = .ok (.iload_n 1, 1) := by decide +kernel
theorem dX8_cleanse_8 : decode cX8_cleanse 8 = .ok (.sipush 999, 3) := by decide +kernel
theorem dX8_cleanse_11 : decode cX8_cleanse 11 = .ok (.invokevirtual 111, 3) := by decide +kernel
theorem dX8_cleanse_14 : decode cX8_cleanse 14 = .ok (.iconst 0, 1) := by decide +kernel
theorem dX8_cleanse_15 : decode cX8_cleanse 15 = .ok (.istore_n 2, 1) := by decide +kernel
theorem dX8_cleanse_16 : decode cX8_cleanse 16 = .ok (.iload_n 2, 1) := by decide +kernel
theorem dX8_cleanse_17 : decode cX8_cleanse 17 = .ok (.bipush 16, 2) := by decide +kernel
theorem dX8_cleanse_19 : decode cX8_cleanse 19 = .ok (.if_icmp .ge 16, 3) := by decide +kernel
theorem dX8_cleanse_22 : decode cX8_cleanse 22 = .ok (.aload_n 0, 1) := by decide +kernel
theorem dX8_cleanse_23 : decode cX8_cleanse 23 = .ok (.iload_n 1, 1) := by decide +kernel
theorem dX8_cleanse_24 : decode cX8_cleanse 24 = .ok (.iload_n 2, 1) := by decide +kernel
theorem dX8_cleanse_25 : decode cX8_cleanse 25 = .ok (.iconst 0, 1) := by decide +kernel
theorem dX8_cleanse_26 : decode cX8_cleanse 26 = .ok (.invokevirtual 117, 3) := by decide +kernel
theorem dX8_cleanse_29 : decode cX8_cleanse 29 = .ok (.iinc 2 1, 3) := by decide +kernel
theorem dX8_cleanse_32 : decode cX8_cleanse 32 = .ok (.goto (-16), 3) := by decide +kernel
theorem dX8_cleanse_35 : decode cX8_cleanse 35 = .ok (.return_, 1) := by decide +kernel
theorem dX8_unsalted_0 : decode cX8_unsalted 0 = .ok (.aload_n 0, 1) := by decide +kernel
theorem dX8_unsalted_1 : decode cX8_unsalted 1 = .ok (.iload_n 1, 1) := by decide +kernel
theorem dX8_unsalted_2 : decode cX8_unsalted 2 = .ok (.invokevirtual 131, 3) := by decide +kernel
theorem dX8_unsalted_5 : decode cX8_unsalted 5 = .ok (.tableswitch 58 0 3 #[31, 38, 47, 56], 31) := by decide +kernel
theorem dX8_unsalted_36 : decode cX8_unsalted 36 = .ok (.aload_n 0, 1) := by decide +kernel
theorem dX8_unsalted_37 : decode cX8_unsalted 37 = .ok (.iload_n 1, 1) := by decide +kernel
theorem dX8_unsalted_38 : decode cX8_unsalted 38 = .ok (.iload_n 2, 1) := by decide +kernel
theorem dX8_unsalted_39 : decode cX8_unsalted 39 = .ok (.invokevirtual 76, 3) := by decide +kernel
theorem dX8_unsalted_42 : decode cX8_unsalted 42 = .ok (.ireturn, 1) := by decide +kernel
theorem dX8_unsalted_43 : decode cX8_unsalted 43 = .ok (.iconst 2, 1) := by decide +kernel
theorem dX8_unsalted_44 : decode cX8_unsalted 44 = .ok (.aload_n 0, 1) := by decide +kernel
theorem dX8_unsalted_45 : decode cX8_unsalted 45 = .ok (.iload_n 1, 1) := by decide +kernel
theorem dX8_unsalted_46 : decode cX8_unsalted 46 = .ok (.iload_n 2, 1) := by decide +kernel
theorem dX8_unsalted_47 : decode cX8_unsalted 47 = .ok (.invokevirtual 76, 3) := by decide +kernel
theorem dX8_unsalted_50 : decode cX8_unsalted 50 = .ok (.imul, 1) := by decide +kernel
theorem dX8_unsalted_51 : decode cX8_unsalted 51 = .ok (.ireturn, 1) := by decide +kernel
theorem dX8_unsalted_52 : decode cX8_unsalted 52 = .ok (.aload_n 0, 1) := by decide +kernel
theorem dX8_unsalted_53 : decode cX8_unsalted 53 = .ok (.iload_n 1, 1) := by decide +kernel
theorem dX8_unsalted_54 : decode cX8_unsalted 54 = .ok (.iload_n 2, 1) := by decide +kernel
theorem dX8_unsalted_55 : decode cX8_unsalted 55 = .ok (.invokevirtual 76, 3) := by decide +kernel
theorem dX8_unsalted_58 : decode cX8_unsalted 58 = .ok (.iconst 2, 1) := by decide +kernel
theorem dX8_unsalted_59 : decode cX8_unsalted 59 = .ok (.idiv, 1) := by decide +kernel
theorem dX8_unsalted_60 : decode cX8_unsalted 60 = .ok (.ireturn, 1) := by decide +kernel
theorem dX8_unsalted_61 : decode cX8_unsalted 61 = .ok (.iconst 0, 1) := by decide +kernel
theorem dX8_unsalted_62 : decode cX8_unsalted 62 = .ok (.ireturn, 1) := by decide +kernel
theorem dX8_unsalted_63 : decode cX8_unsalted 63 = .ok (.aload_n 0, 1) := by decide +kernel
theorem dX8_unsalted_64 : decode cX8_unsalted 64 = .ok (.iload_n 1, 1) := by decide +kernel
theorem dX8_unsalted_65 : decode cX8_unsalted 65 = .ok (.iload_n 2, 1) := by decide +kernel
theorem dX8_unsalted_66 : decode cX8_unsalted 66 = .ok (.invokevirtual 76, 3) := by decide +kernel
theorem dX8_unsalted_69 : decode cX8_unsalted 69 = .ok (.aload_n 0, 1) := by decide +kernel
theorem dX8_unsalted_70 : decode cX8_unsalted 70 = .ok (.iload_n 1, 1) := by decide +kernel
theorem dX8_unsalted_71 : decode cX8_unsalted 71 = .ok (.aload_n 0, 1) := by decide +kernel
theorem dX8_unsalted_72 : decode cX8_unsalted 72 = .ok (.getfield 27, 3) := by decide +kernel
theorem dX8_unsalted_75 : decode cX8_unsalted 75 = .ok (.iload_n 2, 1) := by decide +kernel
theorem dX8_unsalted_76 : decode cX8_unsalted 76 = .ok (.invokevirtual 123, 3) := by decide +kernel
theorem dX8_unsalted_79 : decode cX8_unsalted 79 = .ok (.invokevirtual 76, 3) := by decide +kernel
theorem dX8_unsalted_82 : decode cX8_unsalted 82 = .ok (.iadd, 1) := by decide +kernel
theorem dX8_unsalted_83 : decode cX8_unsalted 83 = .ok (.iconst 1, 1) := by decide +kernel
theorem dX8_unsalted_84 : decode cX8_unsalted 84 = .ok (.iadd, 1) := by decide +kernel
theorem dX8_unsalted_85 : decode cX8_unsalted 85 = .ok (.iconst 2, 1) := by decide +kernel
theorem dX8_unsalted_86 : decode cX8_unsalted 86 = .ok (.idiv, 1) := by decide +kernel
theorem dX8_unsalted_87 : decode cX8_unsalted 87 = .ok (.ireturn, 1) := by decide +kernel
theorem dX8_followerOf_0 : decode cX8_followerOf 0 = .ok (.sipush 25173, 3) := by decide +kernel
theorem dX8_followerOf_3 : decode cX8_followerOf 3 = .ok (.iload_n 0, 1) := by decide +kernel
theorem dX8_followerOf_4 : decode cX8_followerOf 4 = .ok (.imul, 1) := by decide +kernel
theorem dX8_followerOf_5 : decode cX8_followerOf 5 = .ok (.sipush 13849, 3) := by decide +kernel
theorem dX8_followerOf_8 : decode cX8_followerOf 8 = .ok (.iadd, 1) := by decide +kernel
theorem dX8_followerOf_9 : decode cX8_followerOf 9 = .ok (.ldc 96, 2) := by decide +kernel
theorem dX8_followerOf_11 : decode cX8_followerOf 11 = .ok (.iand, 1) := by decide +kernel
theorem dX8_followerOf_12 : decode cX8_followerOf 12 = .ok (.ireturn, 1) := by decide +kernel
