theorem dX1_init_0 : decode cX1_init 0 = .ok (.aload_n 0, 1) := by decide +kernel
theorem dX1_init_1 : decode cX1_init 1 = .ok (.invokespecial 1, 3) := by decide +kernel
theorem dX1_init_4 : decode cX1_init 4 = .ok (.aload_n 0, 1) := by decide +kernel
theorem dX1_init_5 : decode cX1_init 5 = .ok (.sipush 240, 3) := by decide +kernel
theorem dX1_init_8 : decode cX1_init 8 = .ok (.newarray .int, 2) := by decide +kernel
theorem dX1_init_10 : decode cX1_init 10 = .ok (.putfield 9, 3) := by decide +kernel
theorem dX1_init_13 : decode cX1_init 13 = .ok (.aload_n 0, 1) := by decide +kernel
theorem dX1_init_14 : decode cX1_init 14 = .ok (.bipush 16, 2) := by decide +kernel
theorem dX1_init_16 : decode cX1_init 16 = .ok (.newarray .int, 2) := by decide +kernel
theorem dX1_init_18 : decode cX1_init 18 = .ok (.putfield 13, 3) := by decide +kernel
theorem dX1_init_21 : decode cX1_init 21 = .ok (.aload_n 0, 1) := by decide +kernel
theorem dX1_init_22 : decode cX1_init 22 = .ok (.bipush 16, 2) := by decide +kernel
theorem dX1_init_24 : decode cX1_init 24 = .ok (.newarray .int, 2) := by decide +kernel
theorem dX1_init_26 : decode cX1_init 26 = .ok (.putfield 16, 3) := by decide +kernel
theorem dX1_init_29 : decode cX1_init 29 = .ok (.aload_n 0, 1) := by decide +kernel
theorem dX1_init_30 : decode cX1_init 30 = .ok (.bipush 16, 2) := by decide +kernel
theorem dX1_init_32 : decode cX1_init 32 = .ok (.newarray .int, 2) := by decide +kernel
theorem dX1_init_34 : decode cX1_init 34 = .ok (.putfield 19, 3) := by decide +kernel
theorem dX1_init_37 : decode cX1_init 37 = .ok (.aload_n 0, 1) := by decide +kernel
theorem dX1_init_38 : decode cX1_init 38 = .ok (.bipush 16, 2) := by decide +kernel
theorem dX1_init_40 : decode cX1_init 40 = .ok (.newarray .int, 2) := by decide +kernel
theorem dX1_init_42 : decode cX1_init 42 = .ok (.putfield 22, 3) := by decide +kernel
theorem dX1_init_45 : decode cX1_init 45 = .ok (.aload_n 0, 1) := by decide +kernel
theorem dX1_init_46 : decode cX1_init 46 = .ok (.bipush 10, 2) := by decide +kernel
theorem dX1_init_48 : decode cX1_init 48 = .ok (.newarray .int, 2) := by decide +kernel
theorem dX1_init_50 : decode cX1_init 50 = .ok (.putfield 25, 3) := by decide +kernel
theorem dX1_init_53 : decode cX1_init 53 = .ok (.aload_n 0, 1) := by decide +kernel
theorem dX1_init_54 : decode cX1_init 54 = .ok (.bipush 32, 2) := by decide +kernel
theorem dX1_init_56 : decode cX1_init 56 = .ok (.newarray .int, 2) := by decide +kernel
theorem dX1_init_58 : decode cX1_init 58 = .ok (.putfield 28, 3) := by decide +kernel
theorem dX1_init_61 : decode cX1_init 61 = .ok (.return_, 1) := by decide +kernel
theorem dX1_clear_0 : decode cX1_clear 0 = .ok (.aload_n 0, 1) := by decide +kernel
theorem dX1_clear_1 : decode cX1_clear 1 = .ok (.iconst 0, 1) := by decide +kernel
theorem dX1_clear_2 : decode cX1_clear 2 = .ok (.putfield 31, 3) := by decide +kernel
theorem dX1_clear_5 : decode cX1_clear 5 = .ok (.aload_n 0, 1) := by decide +kernel
theorem dX1_clear_6 : decode cX1_clear 6 = .ok (.iconst 0, 1) := by decide +kernel
theorem dX1_clear_7 : decode cX1_clear 7 = .ok (.putfield 35, 3) := by decide +kernel
theorem dX1_clear_10 : decode cX1_clear 10 = .ok (.return_, 1) := by decide +kernel
theorem dX1_copyFrom_0 : decode cX1_copyFrom 0 = .ok (.aload_n 1, 1) := by decide +kernel
theorem dX1_copyFrom_1 : decode cX1_copyFrom 1 = .ok (.getfield 9, 3) := by decide +kernel
theorem dX1_copyFrom_4 : decode cX1_copyFrom 4 = .ok (.iconst 0, 1) := by decide +kernel
theorem dX1_copyFrom_5 : decode cX1_copyFrom 5 = .ok (.aload_n 0, 1) := by decide +kernel
theorem dX1_copyFrom_6 : decode cX1_copyFrom 6 = .ok (.getfield 9, 3) := by decide +kernel
theorem dX1_copyFrom_9 : decode cX1_copyFrom 9 = .ok (.iconst 0, 1) := by decide +kernel
theorem dX1_copyFrom_10 : decode cX1_copyFrom 10 = .ok (.sipush 240, 3) := by decide +kernel
theorem dX1_copyFrom_13 : decode cX1_copyFrom 13 = .ok (.invokestatic 38, 3) := by decide +kernel
theorem dX1_copyFrom_16 : decode cX1_copyFrom 16 = .ok (.aload_n 1, 1) := by decide +kernel
theorem dX1_copyFrom_17 : decode cX1_copyFrom 17 = .ok (.getfield 13, 3) := by decide +kernel
theorem dX1_copyFrom_20 : decode cX1_copyFrom 20 = .ok (.iconst 0, 1) := by decide +kernel
theorem dX1_copyFrom_21 : decode cX1_copyFrom 21 = .ok (.aload_n 0, 1) := by decide +kernel
theorem dX1_copyFrom_22 : decode cX1_copyFrom 22 = .ok (.getfield 13, 3) := by decide +kernel
theorem dX1_copyFrom_25 : decode cX1_copyFrom 25 = .ok (.iconst 0, 1) := by decide +kernel
theorem dX1_copyFrom_26 : decode cX1_copyFrom 26 = .ok (.bipush 16, 2) := by decide +kernel
theorem dX1_copyFrom_28 : decode cX1_copyFrom 28 = .ok (.invokestatic 38, 3) := by decide +kernel
theorem dX1_copyFrom_31 : decode cX1_copyFrom 31 = .ok (.aload_n 1, 1) := by decide +kernel
theorem dX1_copyFrom_32 : decode cX1_copyFrom 32 = .ok (.getfield 16, 3) := by decide +kernel
theorem dX1_copyFrom_35 : decode cX1_copyFrom 35 = .ok (.iconst 0, 1) := by decide +kernel
theorem dX1_copyFrom_36 : decode cX1_copyFrom 36 = .ok (.aload_n 0, 1) := by decide +kernel
theorem dX1_copyFrom_37 : decode cX1_copyFrom 37 = .ok (.getfield 16, 3) := by decide +kernel
theorem dX1_copyFrom_40 : decode cX1_copyFrom 40 = .ok (.iconst 0, 1) := by decide +kernel
theorem dX1_copyFrom_41 : decode cX1_copyFrom 41 = .ok (.bipush 16, 2) := by decide +kernel
theorem dX1_copyFrom_43 : decode cX1_copyFrom 43 = .ok (.invokestatic 38, 3) := by decide +kernel
theorem dX1_copyFrom_46 : decode cX1_copyFrom 46 = .ok (.aload_n 1, 1) := by decide +kernel
theorem dX1_copyFrom_47 : decode cX1_copyFrom 47 = .ok (.getfield 19, 3) := by decide +kernel
theorem dX1_copyFrom_50 : decode cX1_copyFrom 50 = .ok (.iconst 0, 1) := by decide +kernel
theorem dX1_copyFrom_51 : decode cX1_copyFrom 51 = .ok (.aload_n 0, 1) := by decide +kernel
theorem dX1_copyFrom_52 : decode cX1_copyFrom 52 = .ok (.getfield 19, 3) := by decide +kernel
theorem dX1_copyFrom_55 : decode cX1_copyFrom 55 = .ok (.iconst 0, 1) := by decide +kernel
theorem dX1_copyFrom_56 : decode cX1_copyFrom 56 = .ok (.bipush 16, 2) := by decide +kernel
theorem dX1_copyFrom_58 : decode cX1_copyFrom 58 = .ok (.invokestatic 38, 3) := by decide +kernel
theorem dX1_copyFrom_61 : decode cX1_copyFrom 61 = .ok (.aload_n 1, 1) := by decide +kernel
theorem dX1_copyFrom_62 : decode cX1_copyFrom 62 = .ok (.getfield 22, 3) := by decide +kernel
theorem dX1_copyFrom_65 : decode cX1_copyFrom 65 = .ok (.iconst 0, 1) := by decide +kernel
theorem dX1_copyFrom_66 : decode cX1_copyFrom 66 = .ok (.aload_n 0, 1) := by decide +kernel
theorem dX1_copyFrom_67 : decode cX1_copyFrom 67 = .ok (.getfield 22, 3) := by decide +kernel
theorem dX1_copyFrom_70 : decode cX1_copyFrom 70 = .ok (.iconst 0, 1) := by decide +kernel
theorem dX1_copyFrom_71 : decode cX1_copyFrom 71 = .ok (.bipush 16, 2) := by decide +kernel
theorem dX1_copyFrom_73 : decode cX1_copyFrom 73 = .ok (.invokestatic 38, 3) := by decide +kernel
theorem dX1_copyFrom_76 : decode cX1_copyFrom 76 = .ok (.aload_n 0, 1) := by decide +kernel
theorem dX1_copyFrom_77 : decode cX1_copyFrom 77 = .ok (.aload_n 1, 1) := by decide +kernel
theorem dX1_copyFrom_78 : decode cX1_copyFrom 78 = .ok (.getfield 31, 3) := by decide +kernel
theorem dX1_copyFrom_81 : decode cX1_copyFrom 81 = .ok (.putfield 31, 3) := by decide +kernel
theorem dX1_copyFrom_84 : decode cX1_copyFrom 84 = .ok (.aload_n 0, 1) := by decide +kernel
theorem dX1_copyFrom_85 : decode cX1_copyFrom 85 = .ok (.aload_n 1, 1) := by decide +kernel
theorem dX1_copyFrom_86 : decode cX1_copyFrom 86 = .ok (.getfield 35, 3) := by decide +kernel
theorem dX1_copyFrom_89 : decode cX1_copyFrom 89 = .ok (.putfield 35, 3) := by decide +kernel
theorem dX1_copyFrom_92 : decode cX1_copyFrom 92 = .ok (.return_, 1) := by decide +kernel
theorem dX1_emit_0 : decode cX1_emit 0 = .ok (.aload_n 0, 1) := by decide +kernel
theorem dX1_emit_1 : decode cX1_emit 1 = .ok (.getfield 31, 3) := by decide +kernel
theorem dX1_emit_4 : decode cX1_emit 4 = .ok (.istore_n 3, 1) := by decide +kernel
theorem dX1_emit_5 : decode cX1_emit 5 = .ok (.iload_n 3, 1) := by decide +kernel
theorem dX1_emit_6 : decode cX1_emit 6 = .ok (.sipush 240, 3) := by decide +kernel
theorem dX1_emit_9 : decode cX1_emit 9 = .ok (.if_icmp .ge 24, 3) := by decide +kernel
theorem dX1_emit_12 : decode cX1_emit 12 = .ok (.aload_n 0, 1) := by decide +kernel
theorem dX1_emit_13 : decode cX1_emit 13 = .ok (.getfield 9, 3) := by decide +kernel
theorem dX1_emit_16 : decode cX1_emit 16 = .ok (.iload_n 3, 1) := by decide +kernel
theorem dX1_emit_17 : decode cX1_emit 17 = .ok (.iload_n 2, 1) := by decide +kernel
theorem dX1_emit_18 : decode cX1_emit 18 = .ok (.iconst 4, 1) := by decide +kernel
theorem dX1_emit_19 : decode cX1_emit 19 = .ok (.ishl, 1) := by decide +kernel
theorem dX1_emit_20 : decode cX1_emit 20 = .ok (.iload_n 1, 1) := by decide +kernel
theorem dX1_emit_21 : decode cX1_emit 21 = .ok (.ior, 1) := by decide +kernel
theorem dX1_emit_22 : decode cX1_emit 22 = .ok (.iastore, 1) := by decide +kernel
theorem dX1_emit_23 : decode cX1_emit 23 = .ok (.aload_n 0, 1) := by decide +kernel
theorem dX1_emit_24 : decode cX1_emit 24 = .ok (.dup, 1) := by decide +kernel
theorem dX1_emit_25 : decode cX1_emit 25 = .ok (.getfield 31, 3) := by decide +kernel
theorem dX1_emit_28 : decode cX1_emit 28 = .ok (.iconst 1, 1) := by decide +kernel
theorem dX1_emit_29 : decode cX1_emit 29 = .ok (.iadd, 1) := by decide +kernel
theorem dX1_emit_30 : decode cX1_emit 30 = .ok (.putfield 31, 3) := by decide +kernel
theorem dX1_emit_33 : decode cX1_emit 33 = .ok (.iload_n 3, 1) := by decide +kernel
theorem dX1_emit_34 : decode cX1_emit 34 = .ok (.ireturn, 1) := by decide +kernel
theorem dX1_leapTo_0 : decode cX1_leapTo 0 = .ok (.iload_n 1, 1) := by decide +kernel
theorem dX1_leapTo_1 : decode cX1_leapTo 1 = .ok (.ifCond .lt 29, 3) := by decide +kernel
theorem dX1_leapTo_4 : decode cX1_leapTo 4 = .ok (.iload_n 1, 1) := by decide +kernel
theorem dX1_leapTo_5 : decode cX1_leapTo 5 = .ok (.sipush 240, 3) := by decide +kernel
theorem dX1_leapTo_8 : decode cX1_leapTo 8 = .ok (.if_icmp .ge 22, 3) := by decide +kernel
theorem dX1_leapTo_11 : decode cX1_leapTo 11 = .ok (.aload_n 0, 1) := by decide +kernel
theorem dX1_leapTo_12 : decode cX1_leapTo 12 = .ok (.getfield 9, 3) := by decide +kernel
theorem dX1_leapTo_15 : decode cX1_leapTo 15 = .ok (.iload_n 1, 1) := by decide +kernel
theorem dX1_leapTo_16 : decode cX1_leapTo 16 = .ok (.iload_n 2, 1) := by decide +kernel
theorem dX1_leapTo_17 : decode cX1_leapTo 17 = .ok (.iconst 4, 1) := by decide +kernel
theorem dX1_leapTo_18 : decode cX1_leapTo 18 = .ok (.ishl, 1) := by decide +kernel
theorem dX1_leapTo_19 : decode cX1_leapTo 19 = .ok (.aload_n 0, 1) := by decide +kernel
theorem dX1_leapTo_20 : decode cX1_leapTo 20 = .ok (.getfield 9, 3) := by decide +kernel
theorem dX1_leapTo_23 : decode cX1_leapTo 23 = .ok (.iload_n 1, 1) := by decide +kernel
theorem dX1_leapTo_24 : decode cX1_leapTo 24 = .ok (.iaload, 1) := by decide +kernel
theorem dX1_leapTo_25 : decode cX1_leapTo 25 = .ok (.bipush 15, 2) := by decide +kernel
theorem dX1_leapTo_27 : decode cX1_leapTo 27 = .ok (.iand, 1) := by decide +kernel
theorem dX1_leapTo_28 : decode cX1_leapTo 28 = .ok (.ior, 1) := by decide +kernel
theorem dX1_leapTo_29 : decode cX1_leapTo 29 = .ok (.iastore, 1) := by decide +kernel
theorem dX1_leapTo_30 : decode cX1_leapTo 30 = .ok (.return_, 1) := by decide +kernel
theorem dX1_addRule_0 : decode cX1_addRule 0 = .ok (.aload_n 0, 1) := by decide +kernel
theorem dX1_addRule_1 : decode cX1_addRule 1 = .ok (.getfield 35, 3) := by decide +kernel
theorem dX1_addRule_4 : decode cX1_addRule 4 = .ok (.bipush 16, 2) := by decide +kernel
theorem dX1_addRule_6 : decode cX1_addRule 6 = .ok (.if_icmp .ge 56, 3) := by decide +kernel
theorem dX1_addRule_9 : decode cX1_addRule 9 = .ok (.aload_n 0, 1) := by decide +kernel
theorem dX1_addRule_10 : decode cX1_addRule 10 = .ok (.getfield 13, 3) := by decide +kernel
theorem dX1_addRule_13 : decode cX1_addRule 13 = .ok (.aload_n 0, 1) := by decide +kernel
theorem dX1_addRule_14 : decode cX1_addRule 14 = .ok (.getfield 35, 3) := by decide +kernel
theorem dX1_addRule_17 : decode cX1_addRule 17 = .ok (.iload_n 1, 1) := by decide +kernel
theorem dX1_addRule_18 : decode cX1_addRule 18 = .ok (.iastore, 1) := by decide +kernel
theorem dX1_addRule_19 : decode cX1_addRule 19 = .ok (.aload_n 0, 1) := by decide +kernel
theorem dX1_addRule_20 : decode cX1_addRule 20 = .ok (.getfield 16, 3) := by decide +kernel
theorem dX1_addRule_23 : decode cX1_addRule 23 = .ok (.aload_n 0, 1) := by decide +kernel
theorem dX1_addRule_24 : decode cX1_addRule 24 = .ok (.getfield 35, 3) := by decide +kernel
theorem dX1_addRule_27 : decode cX1_addRule 27 = .ok (.iload_n 2, 1) := by decide +kernel
theorem dX1_addRule_28 : decode cX1_addRule 28 = .ok (.iastore, 1) := by decide +kernel
theorem dX1_addRule_29 : decode cX1_addRule 29 = .ok (.aload_n 0, 1) := by decide +kernel
theorem dX1_addRule_30 : decode cX1_addRule 30 = .ok (.getfield 19, 3) := by decide +kernel
theorem dX1_addRule_33 : decode cX1_addRule 33 = .ok (.aload_n 0, 1) := by decide +kernel
theorem dX1_addRule_34 : decode cX1_addRule 34 = .ok (.getfield 35, 3) := by decide +kernel
theorem dX1_addRule_37 : decode cX1_addRule 37 = .ok (.iload_n 3, 1) := by decide +kernel
theorem dX1_addRule_38 : decode cX1_addRule 38 = .ok (.iastore, 1) := by decide +kernel
theorem dX1_addRule_39 : decode cX1_addRule 39 = .ok (.aload_n 0, 1) := by decide +kernel
theorem dX1_addRule_40 : decode cX1_addRule 40 = .ok (.getfield 22, 3) := by decide +kernel
theorem dX1_addRule_43 : decode cX1_addRule 43 = .ok (.aload_n 0, 1) := by decide +kernel
theorem dX1_addRule_44 : decode cX1_addRule 44 = .ok (.getfield 35, 3) := by decide +kernel
theorem dX1_addRule_47 : decode cX1_addRule 47 = .ok (.aload_n 0, 1) := by decide +kernel
theorem dX1_addRule_48 : decode cX1_addRule 48 = .ok (.getfield 31, 3) := by decide +kernel
theorem dX1_addRule_51 : decode cX1_addRule 51 = .ok (.iastore, 1) := by decide +kernel
theorem dX1_addRule_52 : decode cX1_addRule 52 = .ok (.aload_n 0, 1) := by decide +kernel
theorem dX1_addRule_53 : decode cX1_addRule 53 = .ok (.dup, 1) := by decide +kernel
theorem dX1_addRule_54 : decode cX1_addRule 54 = .ok (.getfield 35, 3) := by decide +kernel
theorem dX1_addRule_57 : decode cX1_addRule 57 = .ok (.iconst 1, 1) := by decide +kernel
theorem dX1_addRule_58 : decode cX1_addRule 58 = .ok (.iadd, 1) := by decide +kernel
theorem dX1_addRule_59 : decode cX1_addRule 59 = .ok (.putfield 35, 3) := by decide +kernel
theorem dX1_addRule_62 : decode cX1_addRule 62 = .ok (.return_, 1) := by decide +kernel
theorem dX1_lookAtPlace_0 : decode cX1_lookAtPlace 0 = .ok (.aload_n 0, 1) := by decide +kernel
theorem dX1_lookAtPlace_1 : decode cX1_lookAtPlace 1 = .ok (.getfield 25, 3) := by decide +kernel
theorem dX1_lookAtPlace_4 : decode cX1_lookAtPlace 4 = .ok (.bipush 7, 2) := by decide +kernel
theorem dX1_lookAtPlace_6 : decode cX1_lookAtPlace 6 = .ok (.iload_n 1, 1) := by decide +kernel
theorem dX1_lookAtPlace_7 : decode cX1_lookAtPlace 7 = .ok (.iastore, 1) := by decide +kernel
theorem dX1_lookAtPlace_8 : decode cX1_lookAtPlace 8 = .ok (.aload_n 0, 1) := by decide +kernel
theorem dX1_lookAtPlace_9 : decode cX1_lookAtPlace 9 = .ok (.getfield 25, 3) := by decide +kernel
theorem dX1_lookAtPlace_12 : decode cX1_lookAtPlace 12 = .ok (.bipush 8, 2) := by decide +kernel
theorem dX1_lookAtPlace_14 : decode cX1_lookAtPlace 14 = .ok (.iload_n 2, 1) := by decide +kernel
theorem dX1_lookAtPlace_15 : decode cX1_lookAtPlace 15 = .ok (.bipush 100, 2) := by decide +kernel
theorem dX1_lookAtPlace_17 : decode cX1_lookAtPlace 17 = .ok (.irem, 1) := by decide +kernel
theorem dX1_lookAtPlace_18 : decode cX1_lookAtPlace 18 = .ok (.iastore, 1) := by decide +kernel
theorem dX1_lookAtPlace_19 : decode cX1_lookAtPlace 19 = .ok (.aload_n 0, 1) := by decide +kernel
theorem dX1_lookAtPlace_20 : decode cX1_lookAtPlace 20 = .ok (.getfield 25, 3) := by decide +kernel
theorem dX1_lookAtPlace_23 : decode cX1_lookAtPlace 23 = .ok (.bipush 9, 2) := by decide +kernel
theorem dX1_lookAtPlace_25 : decode cX1_lookAtPlace 25 = .ok (.iload_n 3, 1) := by decide +kernel
theorem dX1_lookAtPlace_26 : decode cX1_lookAtPlace 26 = .ok (.iastore, 1) := by decide +kernel
theorem dX1_lookAtPlace_27 : decode cX1_lookAtPlace 27 = .ok (.return_, 1) := by decide +kernel
theorem dX1_lookAtBottle_0 : decode cX1_lookAtBottle 0 = .ok (.aload_n 0, 1) := by decide +kernel
theorem dX1_lookAtBottle_1 : decode cX1_lookAtBottle 1 = .ok (.getfield 25, 3) := by decide +kernel
theorem dX1_lookAtBottle_4 : decode cX1_lookAtBottle 4 = .ok (.iconst 0, 1) := by decide +kernel
theorem dX1_lookAtBottle_5 : decode cX1_lookAtBottle 5 = .ok (.iload_n 2, 1) := by decide +kernel
theorem dX1_lookAtBottle_6 : decode cX1_lookAtBottle 6 = .ok (.iastore, 1) := by decide +kernel
theorem dX1_lookAtBottle_7 : decode cX1_lookAtBottle 7 = .ok (.aload_n 0, 1) := by decide +kernel
theorem dX1_lookAtBottle_8 : decode cX1_lookAtBottle 8 = .ok (.getfield 25, 3) := by decide +kernel
theorem dX1_lookAtBottle_11 : decode cX1_lookAtBottle 11 = .ok (.iconst 1, 1) := by decide +kernel
theorem dX1_lookAtBottle_12 : decode cX1_lookAtBottle 12 = .ok (.aload_n 1, 1) := by decide +kernel
theorem dX1_lookAtBottle_13 : decode cX1_lookAtBottle 13 = .ok (.iload_n 2, 1) := by decide +kernel
theorem dX1_lookAtBottle_14 : decode cX1_lookAtBottle 14 = .ok (.invokevirtual 44, 3) := by decide +kernel
theorem dX1_lookAtBottle_17 : decode cX1_lookAtBottle 17 = .ok (.iastore, 1) := by decide +kernel
theorem dX1_lookAtBottle_18 : decode cX1_lookAtBottle 18 = .ok (.aload_n 0, 1) := by decide +kernel
theorem dX1_lookAtBottle_19 : decode cX1_lookAtBottle 19 = .ok (.getfield 25, 3) := by decide +kernel
theorem dX1_lookAtBottle_22 : decode cX1_lookAtBottle 22 = .ok (.iconst 2, 1) := by decide +kernel
theorem dX1_lookAtBottle_23 : decode cX1_lookAtBottle 23 = .ok (.iload_n 3, 1) := by decide +kernel
theorem dX1_lookAtBottle_24 : decode cX1_lookAtBottle 24 = .ok (.iastore, 1) := by decide +kernel
theorem dX1_lookAtBottle_25 : decode cX1_lookAtBottle 25 = .ok (.aload_n 0, 1) := by decide +kernel
theorem dX1_lookAtBottle_26 : decode cX1_lookAtBottle 26 = .ok (.getfield 25, 3) := by decide +kernel
theorem dX1_lookAtBottle_29 : decode cX1_lookAtBottle 29 = .ok (.iconst 3, 1) := by decide +kernel
theorem dX1_lookAtBottle_30 : decode cX1_lookAtBottle 30 = .ok (.aload_n 1, 1) := by decide +kernel
theorem dX1_lookAtBottle_31 : decode cX1_lookAtBottle 31 = .ok (.iload_n 2, 1) := by decide +kernel
theorem dX1_lookAtBottle_32 : decode cX1_lookAtBottle 32 = .ok (.iload_n 3, 1) := by decide +kernel
theorem dX1_lookAtBottle_33 : decode cX1_lookAtBottle 33 = .ok (.invokevirtual 50, 3) := by decide +kernel
theorem dX1_lookAtBottle_36 : decode cX1_lookAtBottle 36 = .ok (.iastore, 1) := by decide +kernel
theorem dX1_lookAtBottle_37 : decode cX1_lookAtBottle 37 = .ok (.aload_n 0, 1) := by decide +kernel
theorem dX1_lookAtBottle_38 : decode cX1_lookAtBottle 38 = .ok (.getfield 25, 3) := by decide +kernel
theorem dX1_lookAtBottle_41 : decode cX1_lookAtBottle 41 = .ok (.iconst 4, 1) := by decide +kernel
theorem dX1_lookAtBottle_42 : decode cX1_lookAtBottle 42 = .ok (.aload_n 1, 1) := by decide +kernel
theorem dX1_lookAtBottle_43 : decode cX1_lookAtBottle 43 = .ok (.iload_n 2, 1) := by decide +kernel
theorem dX1_lookAtBottle_44 : decode cX1_lookAtBottle 44 = .ok (.iload_n 3, 1) := by decide +kernel
theorem dX1_lookAtBottle_45 : decode cX1_lookAtBottle 45 = .ok (.invokevirtual 54, 3) := by decide +kernel
theorem dX1_lookAtBottle_48 : decode cX1_lookAtBottle 48 = .ok (.iastore, 1) := by decide +kernel
theorem dX1_lookAtBottle_49 : decode cX1_lookAtBottle 49 = .ok (.aload_n 0, 1) := by decide +kernel
theorem dX1_lookAtBottle_50 : decode cX1_lookAtBottle 50 = .ok (.getfield 25, 3) := by decide +kernel
theorem dX1_lookAtBottle_53 : decode cX1_lookAtBottle 53 = .ok (.iconst 5, 1) := by decide +kernel
theorem dX1_lookAtBottle_54 : decode cX1_lookAtBottle 54 = .ok (.aload_n 1, 1) := by decide +kernel
theorem dX1_lookAtBottle_55 : decode cX1_lookAtBottle 55 = .ok (.iload_n 2, 1) := by decide +kernel
theorem dX1_lookAtBottle_56 : decode cX1_lookAtBottle 56 = .ok (.invokevirtual 57, 3) := by decide +kernel
theorem dX1_lookAtBottle_59 : decode cX1_lookAtBottle 59 = .ok (.iastore, 1) := by decide +kernel
theorem dX1_lookAtBottle_60 : decode cX1_lookAtBottle 60 = .ok (.aload_n 0, 1) := by decide +kernel
theorem dX1_lookAtBottle_61 : decode cX1_lookAtBottle 61 = .ok (.getfield 25, 3) := by decide +kernel
theorem dX1_lookAtBottle_64 : decode cX1_lookAtBottle 64 = .ok (.bipush 6, 2) := by decide +kernel
theorem dX1_lookAtBottle_66 : decode cX1_lookAtBottle 66 = .ok (.iload 4, 2) := by decide +kernel
theorem dX1_lookAtBottle_68 : decode cX1_lookAtBottle 68 = .ok (.iastore, 1) := by decide +kernel
theorem dX1_lookAtBottle_69 : decode cX1_lookAtBottle 69 = .ok (.return_, 1) := by decide +kernel
theorem dX1_opens_0 : decode cX1_opens 0 = .ok (.iconst 0, 1) := by decide +kernel
theorem dX1_opens_1 : decode cX1_opens 1 = .ok (.istore_n 1, 1) := by decide +kernel
theorem dX1_opens_2 : decode cX1_opens 2 = .ok (.iload_n 1, 1) := by decide +kernel
theorem dX1_opens_3 : decode cX1_opens 3 = .ok (.aload_n 0, 1) := by decide +kernel
theorem dX1_opens_4 : decode cX1_opens 4 = .ok (.getfield 35, 3) := by decide +kernel
theorem dX1_opens_7 : decode cX1_opens 7 = .ok (.if_icmp .ge 47, 3) := by decide +kernel
theorem dX1_opens_10 : decode cX1_opens 10 = .ok (.iload_n 1, 1) := by decide +kernel
theorem dX1_opens_11 : decode cX1_opens 11 = .ok (.bipush 16, 2) := by decide +kernel
theorem dX1_opens_13 : decode cX1_opens 13 = .ok (.if_icmp .ge 41, 3) := by decide +kernel
theorem dX1_opens_16 : decode cX1_opens 16 = .ok (.aload_n 0, 1) := by decide +kernel
theorem dX1_opens_17 : decode cX1_opens 17 = .ok (.getfield 13, 3) := by decide +kernel
theorem dX1_opens_20 : decode cX1_opens 20 = .ok (.iload_n 1, 1) := by decide +kernel
theorem dX1_opens_21 : decode cX1_opens 21 = .ok (.iaload, 1) := by decide +kernel
theorem dX1_opens_22 : decode cX1_opens 22 = .ok (.bipush 120, 2) := by decide +kernel
theorem dX1_opens_24 : decode cX1_opens 24 = .ok (.if_icmp .ne 24, 3) := by decide +kernel
theorem dX1_opens_27 : decode cX1_opens 27 = .ok (.aload_n 0, 1) := by decide +kernel
theorem dX1_opens_28 : decode cX1_opens 28 = .ok (.aload_n 0, 1) := by decide +kernel
theorem dX1_opens_29 : decode cX1_opens 29 = .ok (.getfield 19, 3) := by decide +kernel
theorem dX1_opens_32 : decode cX1_opens 32 = .ok (.iload_n 1, 1) := by decide +kernel
theorem dX1_opens_33 : decode cX1_opens 33 = .ok (.iaload, 1) := by decide +kernel
theorem dX1_opens_34 : decode cX1_opens 34 = .ok (.aload_n 0, 1) := by decide +kernel
theorem dX1_opens_35 : decode cX1_opens 35 = .ok (.getfield 22, 3) := by decide +kernel
theorem dX1_opens_38 : decode cX1_opens 38 = .ok (.iload_n 1, 1) := by decide +kernel
theorem dX1_opens_39 : decode cX1_opens 39 = .ok (.iaload, 1) := by decide +kernel
theorem dX1_opens_40 : decode cX1_opens 40 = .ok (.invokevirtual 60, 3) := by decide +kernel
theorem dX1_opens_43 : decode cX1_opens 43 = .ok (.ifCond .eq 5, 3) := by decide +kernel
theorem dX1_opens_46 : decode cX1_opens 46 = .ok (.iconst 0, 1) := by decide +kernel
theorem dX1_opens_47 : decode cX1_opens 47 = .ok (.ireturn, 1) := by decide +kernel
theorem dX1_opens_48 : decode cX1_opens 48 = .ok (.iinc 1 1, 3) := by decide +kernel
theorem dX1_opens_51 : decode cX1_opens 51 = .ok (.goto (-49), 3) := by decide +kernel
theorem dX1_opens_54 : decode cX1_opens 54 = .ok (.iconst 1, 1) := by decide +kernel
theorem dX1_opens_55 : decode cX1_opens 55 = .ok (.ireturn, 1) := by decide +kernel
theorem dX1_valueBy_0 : decode cX1_valueBy 0 = .ok (.iconst 0, 1) := by decide +kernel
theorem dX1_valueBy_1 : decode cX1_valueBy 1 = .ok (.istore 4, 2) := by decide +kernel
theorem dX1_valueBy_3 : decode cX1_valueBy 3 = .ok (.iload 4, 2) := by decide +kernel
theorem dX1_valueBy_5 : decode cX1_valueBy 5 = .ok (.aload_n 0, 1) := by decide +kernel
theorem dX1_valueBy_6 : decode cX1_valueBy 6 = .ok (.getfield 35, 3) := by decide +kernel
theorem dX1_valueBy_9 : decode cX1_valueBy 9 = .ok (.if_icmp .ge 71, 3) := by decide +kernel
theorem dX1_valueBy_12 : decode cX1_valueBy 12 = .ok (.iload 4, 2) := by decide +kernel
theorem dX1_valueBy_14 : decode cX1_valueBy 14 = .ok (.bipush 16, 2) := by decide +kernel
theorem dX1_valueBy_16 : decode cX1_valueBy 16 = .ok (.if_icmp .ge 64, 3) := by decide +kernel
theorem dX1_valueBy_19 : decode cX1_valueBy 19 = .ok (.aload_n 0, 1) := by decide +kernel
theorem dX1_valueBy_20 : decode cX1_valueBy 20 = .ok (.getfield 13, 3) := by decide +kernel
theorem dX1_valueBy_23 : decode cX1_valueBy 23 = .ok (.iload 4, 2) := by decide +kernel
theorem dX1_valueBy_25 : decode cX1_valueBy 25 = .ok (.iaload, 1) := by decide +kernel
theorem dX1_valueBy_26 : decode cX1_valueBy 26 = .ok (.iload_n 1, 1) := by decide +kernel
theorem dX1_valueBy_27 : decode cX1_valueBy 27 = .ok (.if_icmp .ne 47, 3) := by decide +kernel
theorem dX1_valueBy_30 : decode cX1_valueBy 30 = .ok (.aload_n 0, 1) := by decide +kernel
theorem dX1_valueBy_31 : decode cX1_valueBy 31 = .ok (.aload_n 0, 1) := by decide +kernel
theorem dX1_valueBy_32 : decode cX1_valueBy 32 = .ok (.getfield 19, 3) := by decide +kernel
theorem dX1_valueBy_35 : decode cX1_valueBy 35 = .ok (.iload 4, 2) := by decide +kernel
theorem dX1_valueBy_37 : decode cX1_valueBy 37 = .ok (.iaload, 1) := by decide +kernel
theorem dX1_valueBy_38 : decode cX1_valueBy 38 = .ok (.aload_n 0, 1) := by decide +kernel
theorem dX1_valueBy_39 : decode cX1_valueBy 39 = .ok (.getfield 22, 3) := by decide +kernel
theorem dX1_valueBy_42 : decode cX1_valueBy 42 = .ok (.iload 4, 2) := by decide +kernel
theorem dX1_valueBy_44 : decode cX1_valueBy 44 = .ok (.iaload, 1) := by decide +kernel
theorem dX1_valueBy_45 : decode cX1_valueBy 45 = .ok (.invokevirtual 60, 3) := by decide +kernel
theorem dX1_valueBy_48 : decode cX1_valueBy 48 = .ok (.ifCond .eq 26, 3) := by decide +kernel
theorem dX1_valueBy_51 : decode cX1_valueBy 51 = .ok (.aload_n 0, 1) := by decide +kernel
theorem dX1_valueBy_52 : decode cX1_valueBy 52 = .ok (.aload_n 0, 1) := by decide +kernel
theorem dX1_valueBy_53 : decode cX1_valueBy 53 = .ok (.getfield 16, 3) := by decide +kernel
theorem dX1_valueBy_56 : decode cX1_valueBy 56 = .ok (.iload 4, 2) := by decide +kernel
theorem dX1_valueBy_58 : decode cX1_valueBy 58 = .ok (.iaload, 1) := by decide +kernel
theorem dX1_valueBy_59 : decode cX1_valueBy 59 = .ok (.aload_n 0, 1) := by decide +kernel
theorem dX1_valueBy_60 : decode cX1_valueBy 60 = .ok (.getfield 19, 3) := by decide +kernel
theorem dX1_valueBy_63 : decode cX1_valueBy 63 = .ok (.iload 4, 2) := by decide +kernel
theorem dX1_valueBy_65 : decode cX1_valueBy 65 = .ok (.iaload, 1) := by decide +kernel
theorem dX1_valueBy_66 : decode cX1_valueBy 66 = .ok (.invokevirtual 60, 3) := by decide +kernel
theorem dX1_valueBy_69 : decode cX1_valueBy 69 = .ok (.iload_n 2, 1) := by decide +kernel
theorem dX1_valueBy_70 : decode cX1_valueBy 70 = .ok (.invokestatic 63, 3) := by decide +kernel
theorem dX1_valueBy_73 : decode cX1_valueBy 73 = .ok (.ireturn, 1) := by decide +kernel
theorem dX1_valueBy_74 : decode cX1_valueBy 74 = .ok (.iinc 4 1, 3) := by decide +kernel
theorem dX1_valueBy_77 : decode cX1_valueBy 77 = .ok (.goto (-74), 3) := by decide +kernel
theorem dX1_valueBy_80 : decode cX1_valueBy 80 = .ok (.iload_n 3, 1) := by decide +kernel
theorem dX1_valueBy_81 : decode cX1_valueBy 81 = .ok (.ireturn, 1) := by decide +kernel
theorem dX1_run_0 : decode cX1_run 0 = .ok (.aload_n 0, 1) := by decide +kernel
theorem dX1_run_1 : decode cX1_run 1 = .ok (.iconst 0, 1) := by decide +kernel
theorem dX1_run_2 : decode cX1_run 2 = .ok (.putfield 68, 3) := by decide +kernel
theorem dX1_run_5 : decode cX1_run 5 = .ok (.aload_n 0, 1) := by decide +kernel
theorem dX1_run_6 : decode cX1_run 6 = .ok (.iconst 0, 1) := by decide +kernel
theorem dX1_run_7 : decode cX1_run 7 = .ok (.putfield 71, 3) := by decide +kernel
theorem dX1_run_10 : decode cX1_run 10 = .ok (.iload_n 1, 1) := by decide +kernel
theorem dX1_run_11 : decode cX1_run 11 = .ok (.istore_n 3, 1) := by decide +kernel
theorem dX1_run_12 : decode cX1_run 12 = .ok (.iconst 0, 1) := by decide +kernel
theorem dX1_run_13 : decode cX1_run 13 = .ok (.istore 4, 2) := by decide +kernel
theorem dX1_run_15 : decode cX1_run 15 = .ok (.iload 4, 2) := by decide +kernel
theorem dX1_run_17 : decode cX1_run 17 = .ok (.sipush 240, 3) := by decide +kernel
theorem dX1_run_20 : decode cX1_run 20 = .ok (.if_icmp .ge 27, 3) := by decide +kernel
theorem dX1_run_23 : decode cX1_run 23 = .ok (.iload_n 3, 1) := by decide +kernel
theorem dX1_run_24 : decode cX1_run 24 = .ok (.iload_n 2, 1) := by decide +kernel
theorem dX1_run_25 : decode cX1_run 25 = .ok (.if_icmp .ge 22, 3) := by decide +kernel
theorem dX1_run_28 : decode cX1_run 28 = .ok (.aload_n 0, 1) := by decide +kernel
theorem dX1_run_29 : decode cX1_run 29 = .ok (.getfield 71, 3) := by decide +kernel
theorem dX1_run_32 : decode cX1_run 32 = .ok (.ifCond .ne 15, 3) := by decide +kernel
theorem dX1_run_35 : decode cX1_run 35 = .ok (.aload_n 0, 1) := by decide +kernel
theorem dX1_run_36 : decode cX1_run 36 = .ok (.iload_n 3, 1) := by decide +kernel
theorem dX1_run_37 : decode cX1_run 37 = .ok (.invokevirtual 75, 3) := by decide +kernel
theorem dX1_run_40 : decode cX1_run 40 = .ok (.istore_n 3, 1) := by decide +kernel
theorem dX1_run_41 : decode cX1_run 41 = .ok (.iinc 4 1, 3) := by decide +kernel
theorem dX1_run_44 : decode cX1_run 44 = .ok (.goto (-29), 3) := by decide +kernel
theorem dX1_run_47 : decode cX1_run 47 = .ok (.aload_n 0, 1) := by decide +kernel
theorem dX1_run_48 : decode cX1_run 48 = .ok (.getfield 71, 3) := by decide +kernel
theorem dX1_run_51 : decode cX1_run 51 = .ok (.ifCond .eq 7, 3) := by decide +kernel
theorem dX1_run_54 : decode cX1_run 54 = .ok (.iconst 0, 1) := by decide +kernel
theorem dX1_run_55 : decode cX1_run 55 = .ok (.goto 7, 3) := by decide +kernel
theorem dX1_run_58 : decode cX1_run 58 = .ok (.aload_n 0, 1) := by decide +kernel
theorem dX1_run_59 : decode cX1_run 59 = .ok (.invokevirtual 78, 3) := by decide +kernel
theorem dX1_run_62 : decode cX1_run 62 = .ok (.ireturn, 1) := by decide +kernel
theorem dX1_stepAt_0 : decode cX1_stepAt 0 = .ok (.iload_n 1, 1) := by decide +kernel
theorem dX1_stepAt_1 : decode cX1_stepAt 1 = .ok (.ifCond .lt 19, 3) := by decide +kernel
theorem dX1_stepAt_4 : decode cX1_stepAt 4 = .ok (.iload_n 1, 1) := by decide +kernel
theorem dX1_stepAt_5 : decode cX1_stepAt 5 = .ok (.sipush 240, 3) := by decide +kernel
theorem dX1_stepAt_8 : decode cX1_stepAt 8 = .ok (.if_icmp .ge 12, 3) := by decide +kernel
theorem dX1_stepAt_11 : decode cX1_stepAt 11 = .ok (.aload_n 0, 1) := by decide +kernel
theorem dX1_stepAt_12 : decode cX1_stepAt 12 = .ok (.getfield 9, 3) := by decide +kernel
theorem dX1_stepAt_15 : decode cX1_stepAt 15 = .ok (.iload_n 1, 1) := by decide +kernel
theorem dX1_stepAt_16 : decode cX1_stepAt 16 = .ok (.iaload, 1) := by decide +kernel
theorem dX1_stepAt_17 : decode cX1_stepAt 17 = .ok (.goto 4, 3) := by decide +kernel
theorem dX1_stepAt_20 : decode cX1_stepAt 20 = .ok (.iconst 0, 1) := by decide +kernel
theorem dX1_stepAt_21 : decode cX1_stepAt 21 = .ok (.istore_n 2, 1) := by decide +kernel
theorem dX1_stepAt_22 : decode cX1_stepAt 22 = .ok (.iload_n 2, 1) := by decide +kernel
theorem dX1_stepAt_23 : decode cX1_stepAt 23 = .ok (.iconst 4, 1) := by decide +kernel
theorem dX1_stepAt_24 : decode cX1_stepAt 24 = .ok (.ishr, 1) := by decide +kernel
theorem dX1_stepAt_25 : decode cX1_stepAt 25 = .ok (.istore_n 3, 1) := by decide +kernel
theorem dX1_stepAt_26 : decode cX1_stepAt 26 = .ok (.iload_n 2, 1) := by decide +kernel
theorem dX1_stepAt_27 : decode cX1_stepAt 27 = .ok (.bipush 15, 2) := by decide +kernel
theorem dX1_stepAt_29 : decode cX1_stepAt 29 = .ok (.iand, 1) := by decide +kernel
theorem dX1_stepAt_30 : decode cX1_stepAt 30 = .ok (.istore 4, 2) := by decide +kernel
theorem dX1_stepAt_32 : decode cX1_stepAt 32 = .ok (.iload 4, 2) := by decide +kernel
theorem dX1_stepAt_34 : decode cX1_stepAt 34 = .ok (.ifCond .ne 11, 3) := by decide +kernel
theorem dX1_stepAt_37 : decode cX1_stepAt 37 = .ok (.aload_n 0, 1) := by decide +kernel
theorem dX1_stepAt_38 : decode cX1_stepAt 38 = .ok (.iload_n 3, 1) := by decide +kernel
theorem dX1_stepAt_39 : decode cX1_stepAt 39 = .ok (.invokevirtual 82, 3) := by decide +kernel
theorem dX1_stepAt_42 : decode cX1_stepAt 42 = .ok (.goto 149, 3) := by decide +kernel
theorem dX1_stepAt_45 : decode cX1_stepAt 45 = .ok (.iload 4, 2) := by decide +kernel
theorem dX1_stepAt_47 : decode cX1_stepAt 47 = .ok (.iconst 1, 1) := by decide +kernel
theorem dX1_stepAt_48 : decode cX1_stepAt 48 = .ok (.if_icmp .ne 33, 3) := by decide +kernel
theorem dX1_stepAt_51 : decode cX1_stepAt 51 = .ok (.aload_n 0, 1) := by decide +kernel
theorem dX1_stepAt_52 : decode cX1_stepAt 52 = .ok (.iload_n 3, 1) := by decide +kernel
theorem dX1_stepAt_53 : decode cX1_stepAt 53 = .ok (.ifCond .lt 21, 3) := by decide +kernel
theorem dX1_stepAt_56 : decode cX1_stepAt 56 = .ok (.iload_n 3, 1) := by decide +kernel
theorem dX1_stepAt_57 : decode cX1_stepAt 57 = .ok (.aload_n 0, 1) := by decide +kernel
theorem dX1_stepAt_58 : decode cX1_stepAt 58 = .ok (.getfield 25, 3) := by decide +kernel
theorem dX1_stepAt_61 : decode cX1_stepAt 61 = .ok (.arraylength, 1) := by decide +kernel
theorem dX1_stepAt_62 : decode cX1_stepAt 62 = .ok (.if_icmp .ge 12, 3) := by decide +kernel
theorem dX1_stepAt_65 : decode cX1_stepAt 65 = .ok (.aload_n 0, 1) := by decide +kernel
theorem dX1_stepAt_66 : decode cX1_stepAt 66 = .ok (.getfield 25, 3) := by decide +kernel
theorem dX1_stepAt_69 : decode cX1_stepAt 69 = .ok (.iload_n 3, 1) := by decide +kernel
theorem dX1_stepAt_70 : decode cX1_stepAt 70 = .ok (.iaload, 1) := by decide +kernel
theorem dX1_stepAt_71 : decode cX1_stepAt 71 = .ok (.goto 4, 3) := by decide +kernel
theorem dX1_stepAt_74 : decode cX1_stepAt 74 = .ok (.iconst 0, 1) := by decide +kernel
theorem dX1_stepAt_75 : decode cX1_stepAt 75 = .ok (.invokevirtual 82, 3) := by decide +kernel
theorem dX1_stepAt_78 : decode cX1_stepAt 78 = .ok (.goto 113, 3) := by decide +kernel
theorem dX1_stepAt_81 : decode cX1_stepAt 81 = .ok (.iload 4, 2) := by decide +kernel
theorem dX1_stepAt_83 : decode cX1_stepAt 83 = .ok (.iconst 2, 1) := by decide +kernel
theorem dX1_stepAt_84 : decode cX1_stepAt 84 = .ok (.if_icmp .ne 22, 3) := by decide +kernel
theorem dX1_stepAt_87 : decode cX1_stepAt 87 = .ok (.aload_n 0, 1) := by decide +kernel
theorem dX1_stepAt_88 : decode cX1_stepAt 88 = .ok (.aload_n 0, 1) := by decide +kernel
theorem dX1_stepAt_89 : decode cX1_stepAt 89 = .ok (.invokevirtual 78, 3) := by decide +kernel
theorem dX1_stepAt_92 : decode cX1_stepAt 92 = .ok (.ifCond .ne 7, 3) := by decide +kernel
theorem dX1_stepAt_95 : decode cX1_stepAt 95 = .ok (.iconst 1, 1) := by decide +kernel
theorem dX1_stepAt_96 : decode cX1_stepAt 96 = .ok (.goto 4, 3) := by decide +kernel
theorem dX1_stepAt_99 : decode cX1_stepAt 99 = .ok (.iconst 0, 1) := by decide +kernel
theorem dX1_stepAt_100 : decode cX1_stepAt 100 = .ok (.invokevirtual 82, 3) := by decide +kernel
theorem dX1_stepAt_103 : decode cX1_stepAt 103 = .ok (.goto 88, 3) := by decide +kernel
theorem dX1_stepAt_106 : decode cX1_stepAt 106 = .ok (.iload 4, 2) := by decide +kernel
theorem dX1_stepAt_108 : decode cX1_stepAt 108 = .ok (.iconst 3, 1) := by decide +kernel
theorem dX1_stepAt_109 : decode cX1_stepAt 109 = .ok (.if_icmp .eq 9, 3) := by decide +kernel
theorem dX1_stepAt_112 : decode cX1_stepAt 112 = .ok (.iload 4, 2) := by decide +kernel
theorem dX1_stepAt_114 : decode cX1_stepAt 114 = .ok (.iconst 4, 1) := by decide +kernel
theorem dX1_stepAt_115 : decode cX1_stepAt 115 = .ok (.if_icmp .ne 50, 3) := by decide +kernel
theorem dX1_stepAt_118 : decode cX1_stepAt 118 = .ok (.aload_n 0, 1) := by decide +kernel
theorem dX1_stepAt_119 : decode cX1_stepAt 119 = .ok (.invokevirtual 78, 3) := by decide +kernel
theorem dX1_stepAt_122 : decode cX1_stepAt 122 = .ok (.istore 5, 2) := by decide +kernel
theorem dX1_stepAt_124 : decode cX1_stepAt 124 = .ok (.iload 5, 2) := by decide +kernel
theorem dX1_stepAt_126 : decode cX1_stepAt 126 = .ok (.ifCond .eq 7, 3) := by decide +kernel
theorem dX1_stepAt_129 : decode cX1_stepAt 129 = .ok (.iconst 1, 1) := by decide +kernel
theorem dX1_stepAt_130 : decode cX1_stepAt 130 = .ok (.goto 4, 3) := by decide +kernel
theorem dX1_stepAt_133 : decode cX1_stepAt 133 = .ok (.iconst 0, 1) := by decide +kernel
theorem dX1_stepAt_134 : decode cX1_stepAt 134 = .ok (.iload 4, 2) := by decide +kernel
theorem dX1_stepAt_136 : decode cX1_stepAt 136 = .ok (.iconst 3, 1) := by decide +kernel
theorem dX1_stepAt_137 : decode cX1_stepAt 137 = .ok (.if_icmp .ne 7, 3) := by decide +kernel
theorem dX1_stepAt_140 : decode cX1_stepAt 140 = .ok (.iconst 1, 1) := by decide +kernel
theorem dX1_stepAt_141 : decode cX1_stepAt 141 = .ok (.goto 4, 3) := by decide +kernel
theorem dX1_stepAt_144 : decode cX1_stepAt 144 = .ok (.iconst 0, 1) := by decide +kernel
theorem dX1_stepAt_145 : decode cX1_stepAt 145 = .ok (.if_icmp .ne 17, 3) := by decide +kernel
theorem dX1_stepAt_148 : decode cX1_stepAt 148 = .ok (.aload_n 0, 1) := by decide +kernel
theorem dX1_stepAt_149 : decode cX1_stepAt 149 = .ok (.iload 5, 2) := by decide +kernel
theorem dX1_stepAt_151 : decode cX1_stepAt 151 = .ok (.invokevirtual 82, 3) := by decide +kernel
theorem dX1_stepAt_154 : decode cX1_stepAt 154 = .ok (.iload_n 3, 1) := by decide +kernel
theorem dX1_stepAt_155 : decode cX1_stepAt 155 = .ok (.iload_n 1, 1) := by decide +kernel
theorem dX1_stepAt_156 : decode cX1_stepAt 156 = .ok (.iconst 1, 1) := by decide +kernel
theorem dX1_stepAt_157 : decode cX1_stepAt 157 = .ok (.iadd, 1) := by decide +kernel
theorem dX1_stepAt_158 : decode cX1_stepAt 158 = .ok (.invokestatic 86, 3) := by decide +kernel
theorem dX1_stepAt_161 : decode cX1_stepAt 161 = .ok (.ireturn, 1) := by decide +kernel
theorem dX1_stepAt_162 : decode cX1_stepAt 162 = .ok (.goto 29, 3) := by decide +kernel
theorem dX1_stepAt_165 : decode cX1_stepAt 165 = .ok (.aload_n 0, 1) := by decide +kernel
theorem dX1_stepAt_166 : decode cX1_stepAt 166 = .ok (.invokevirtual 78, 3) := by decide +kernel
theorem dX1_stepAt_169 : decode cX1_stepAt 169 = .ok (.istore 5, 2) := by decide +kernel
theorem dX1_stepAt_171 : decode cX1_stepAt 171 = .ok (.aload_n 0, 1) := by decide +kernel
theorem dX1_stepAt_172 : decode cX1_stepAt 172 = .ok (.invokevirtual 78, 3) := by decide +kernel
theorem dX1_stepAt_175 : decode cX1_stepAt 175 = .ok (.istore 6, 2) := by decide +kernel
theorem dX1_stepAt_177 : decode cX1_stepAt 177 = .ok (.aload_n 0, 1) := by decide +kernel
theorem dX1_stepAt_178 : decode cX1_stepAt 178 = .ok (.aload_n 0, 1) := by decide +kernel
theorem dX1_stepAt_179 : decode cX1_stepAt 179 = .ok (.iload 4, 2) := by decide +kernel
theorem dX1_stepAt_181 : decode cX1_stepAt 181 = .ok (.iload 6, 2) := by decide +kernel
theorem dX1_stepAt_183 : decode cX1_stepAt 183 = .ok (.iload 5, 2) := by decide +kernel
theorem dX1_stepAt_185 : decode cX1_stepAt 185 = .ok (.invokevirtual 91, 3) := by decide +kernel
theorem dX1_stepAt_188 : decode cX1_stepAt 188 = .ok (.invokevirtual 82, 3) := by decide +kernel
theorem dX1_stepAt_191 : decode cX1_stepAt 191 = .ok (.iload_n 1, 1) := by decide +kernel
theorem dX1_stepAt_192 : decode cX1_stepAt 192 = .ok (.iconst 1, 1) := by decide +kernel
theorem dX1_stepAt_193 : decode cX1_stepAt 193 = .ok (.iadd, 1) := by decide +kernel
theorem dX1_stepAt_194 : decode cX1_stepAt 194 = .ok (.ireturn, 1) := by decide +kernel
theorem dX1_reckon_0 : decode cX1_reckon 0 = .ok (.iload_n 1, 1) := by decide +kernel
theorem dX1_reckon_1 : decode cX1_reckon 1 = .ok (.tableswitch 92 5 12 #[47, 51, 55, 92, 92, 59, 70, 81], 47) := by decide +kernel
theorem dX1_reckon_48 : decode cX1_reckon 48 = .ok (.iload_n 2, 1) := by decide +kernel
theorem dX1_reckon_49 : decode cX1_reckon 49 = .ok (.iload_n 3, 1) := by decide +kernel
theorem dX1_reckon_50 : decode cX1_reckon 50 = .ok (.iadd, 1) := by decide +kernel
theorem dX1_reckon_51 : decode cX1_reckon 51 = .ok (.ireturn, 1) := by decide +kernel
theorem dX1_reckon_52 : decode cX1_reckon 52 = .ok (.iload_n 2, 1) := by decide +kernel
theorem dX1_reckon_53 : decode cX1_reckon 53 = .ok (.iload_n 3, 1) := by decide +kernel
theorem dX1_reckon_54 : decode cX1_reckon 54 = .ok (.isub, 1) := by decide +kernel
theorem dX1_reckon_55 : decode cX1_reckon 55 = .ok (.ireturn, 1) := by decide +kernel
theorem dX1_reckon_56 : decode cX1_reckon 56 = .ok (.iload_n 2, 1) := by decide +kernel
theorem dX1_reckon_57 : decode cX1_reckon 57 = .ok (.iload_n 3, 1) := by decide +kernel
theorem dX1_reckon_58 : decode cX1_reckon 58 = .ok (.imul, 1) := by decide +kernel
theorem dX1_reckon_59 : decode cX1_reckon 59 = .ok (.ireturn, 1) := by decide +kernel
theorem dX1_reckon_60 : decode cX1_reckon 60 = .ok (.iload_n 2, 1) := by decide +kernel
theorem dX1_reckon_61 : decode cX1_reckon 61 = .ok (.iload_n 3, 1) := by decide +kernel
theorem dX1_reckon_62 : decode cX1_reckon 62 = .ok (.if_icmp .ge 7, 3) := by decide +kernel
theorem dX1_reckon_65 : decode cX1_reckon 65 = .ok (.iconst 1, 1) := by decide +kernel
theorem dX1_reckon_66 : decode cX1_reckon 66 = .ok (.goto 4, 3) := by decide +kernel
theorem dX1_reckon_69 : decode cX1_reckon 69 = .ok (.iconst 0, 1) := by decide +kernel
theorem dX1_reckon_70 : decode cX1_reckon 70 = .ok (.ireturn, 1) := by decide +kernel
theorem dX1_reckon_71 : decode cX1_reckon 71 = .ok (.iload_n 2, 1) := by decide +kernel
theorem dX1_reckon_72 : decode cX1_reckon 72 = .ok (.iload_n 3, 1) := by decide +kernel
theorem dX1_reckon_73 : decode cX1_reckon 73 = .ok (.if_icmp .le 7, 3) := by decide +kernel
theorem dX1_reckon_76 : decode cX1_reckon 76 = .ok (.iconst 1, 1) := by decide +kernel
theorem dX1_reckon_77 : decode cX1_reckon 77 = .ok (.goto 4, 3) := by decide +kernel
theorem dX1_reckon_80 : decode cX1_reckon 80 = .ok (.iconst 0, 1) := by decide +kernel
theorem dX1_reckon_81 : decode cX1_reckon 81 = .ok (.ireturn, 1) := by decide +kernel
theorem dX1_reckon_82 : decode cX1_reckon 82 = .ok (.iload_n 2, 1) := by decide +kernel
theorem dX1_reckon_83 : decode cX1_reckon 83 = .ok (.iload_n 3, 1) := by decide +kernel
theorem dX1_reckon_84 : decode cX1_reckon 84 = .ok (.if_icmp .ne 7, 3) := by decide +kernel
theorem dX1_reckon_87 : decode cX1_reckon 87 = .ok (.iconst 1, 1) := by decide +kernel
theorem dX1_reckon_88 : decode cX1_reckon 88 = .ok (.goto 4, 3) := by decide +kernel
theorem dX1_reckon_91 : decode cX1_reckon 91 = .ok (.iconst 0, 1) := by decide +kernel
theorem dX1_reckon_92 : decode cX1_reckon 92 = .ok (.ireturn, 1) := by decide +kernel
theorem dX1_reckon_93 : decode cX1_reckon 93 = .ok (.aload_n 0, 1) := by decide +kernel
theorem dX1_reckon_94 : decode cX1_reckon 94 = .ok (.aload_n 0, 1) := by decide +kernel
theorem dX1_reckon_95 : decode cX1_reckon 95 = .ok (.getfield 71, 3) := by decide +kernel
theorem dX1_reckon_98 : decode cX1_reckon 98 = .ok (.ifCond .ne 7, 3) := by decide +kernel
theorem dX1_reckon_101 : decode cX1_reckon 101 = .ok (.iload_n 3, 1) := by decide +kernel
theorem dX1_reckon_102 : decode cX1_reckon 102 = .ok (.ifCond .ne 7, 3) := by decide +kernel
theorem dX1_reckon_105 : decode cX1_reckon 105 = .ok (.iconst 1, 1) := by decide +kernel
theorem dX1_reckon_106 : decode cX1_reckon 106 = .ok (.goto 4, 3) := by decide +kernel
theorem dX1_reckon_109 : decode cX1_reckon 109 = .ok (.iconst 0, 1) := by decide +kernel
theorem dX1_reckon_110 : decode cX1_reckon 110 = .ok (.putfield 71, 3) := by decide +kernel
theorem dX1_reckon_113 : decode cX1_reckon 113 = .ok (.iload_n 3, 1) := by decide +kernel
theorem dX1_reckon_114 : decode cX1_reckon 114 = .ok (.ifCond .ne 5, 3) := by decide +kernel
theorem dX1_reckon_117 : decode cX1_reckon 117 = .ok (.iconst 0, 1) := by decide +kernel
theorem dX1_reckon_118 : decode cX1_reckon 118 = .ok (.ireturn, 1) := by decide +kernel
theorem dX1_reckon_119 : decode cX1_reckon 119 = .ok (.iload_n 1, 1) := by decide +kernel
theorem dX1_reckon_120 : decode cX1_reckon 120 = .ok (.bipush 8, 2) := by decide +kernel
theorem dX1_reckon_122 : decode cX1_reckon 122 = .ok (.if_icmp .ne 9, 3) := by decide +kernel
theorem dX1_reckon_125 : decode cX1_reckon 125 = .ok (.iload_n 2, 1) := by decide +kernel
theorem dX1_reckon_126 : decode cX1_reckon 126 = .ok (.iload_n 3, 1) := by decide +kernel
theorem dX1_reckon_127 : decode cX1_reckon 127 = .ok (.idiv, 1) := by decide +kernel
theorem dX1_reckon_128 : decode cX1_reckon 128 = .ok (.goto 6, 3) := by decide +kernel
theorem dX1_reckon_131 : decode cX1_reckon 131 = .ok (.iload_n 2, 1) := by decide +kernel
theorem dX1_reckon_132 : decode cX1_reckon 132 = .ok (.iload_n 3, 1) := by decide +kernel
theorem dX1_reckon_133 : decode cX1_reckon 133 = .ok (.irem, 1) := by decide +kernel
theorem dX1_reckon_134 : decode cX1_reckon 134 = .ok (.ireturn, 1) := by decide +kernel
theorem dX1_push_0 : decode cX1_push 0 = .ok (.aload_n 0, 1) := by decide +kernel
theorem dX1_push_1 : decode cX1_push 1 = .ok (.getfield 68, 3) := by decide +kernel
theorem dX1_push_4 : decode cX1_push 4 = .ok (.ifCond .lt 32, 3) := by decide +kernel
theorem dX1_push_7 : decode cX1_push 7 = .ok (.aload_n 0, 1) := by decide +kernel
theorem dX1_push_8 : decode cX1_push 8 = .ok (.getfield 68, 3) := by decide +kernel
theorem dX1_push_11 : decode cX1_push 11 = .ok (.bipush 32, 2) := by decide +kernel
theorem dX1_push_13 : decode cX1_push 13 = .ok (.if_icmp .ge 23, 3) := by decide +kernel
theorem dX1_push_16 : decode cX1_push 16 = .ok (.aload_n 0, 1) := by decide +kernel
theorem dX1_push_17 : decode cX1_push 17 = .ok (.getfield 28, 3) := by decide +kernel
theorem dX1_push_20 : decode cX1_push 20 = .ok (.aload_n 0, 1) := by decide +kernel
theorem dX1_push_21 : decode cX1_push 21 = .ok (.getfield 68, 3) := by decide +kernel
theorem dX1_push_24 : decode cX1_push 24 = .ok (.iload_n 1, 1) := by decide +kernel
theorem dX1_push_25 : decode cX1_push 25 = .ok (.iastore, 1) := by decide +kernel
theorem dX1_push_26 : decode cX1_push 26 = .ok (.aload_n 0, 1) := by decide +kernel
theorem dX1_push_27 : decode cX1_push 27 = .ok (.dup, 1) := by decide +kernel
theorem dX1_push_28 : decode cX1_push 28 = .ok (.getfield 68, 3) := by decide +kernel
theorem dX1_push_31 : decode cX1_push 31 = .ok (.iconst 1, 1) := by decide +kernel
theorem dX1_push_32 : decode cX1_push 32 = .ok (.iadd, 1) := by decide +kernel
theorem dX1_push_33 : decode cX1_push 33 = .ok (.putfield 68, 3) := by decide +kernel
theorem dX1_push_36 : decode cX1_push 36 = .ok (.return_, 1) := by decide +kernel
theorem dX1_pop_0 : decode cX1_pop 0 = .ok (.aload_n 0, 1) := by decide +kernel
theorem dX1_pop_1 : decode cX1_pop 1 = .ok (.getfield 68, 3) := by decide +kernel
theorem dX1_pop_4 : decode cX1_pop 4 = .ok (.ifCond .le 12, 3) := by decide +kernel
theorem dX1_pop_7 : decode cX1_pop 7 = .ok (.aload_n 0, 1) := by decide +kernel
theorem dX1_pop_8 : decode cX1_pop 8 = .ok (.getfield 68, 3) := by decide +kernel
theorem dX1_pop_11 : decode cX1_pop 11 = .ok (.bipush 32, 2) := by decide +kernel
theorem dX1_pop_13 : decode cX1_pop 13 = .ok (.if_icmp .le 5, 3) := by decide +kernel
theorem dX1_pop_16 : decode cX1_pop 16 = .ok (.iconst 0, 1) := by decide +kernel
theorem dX1_pop_17 : decode cX1_pop 17 = .ok (.ireturn, 1) := by decide +kernel
theorem dX1_pop_18 : decode cX1_pop 18 = .ok (.aload_n 0, 1) := by decide +kernel
theorem dX1_pop_19 : decode cX1_pop 19 = .ok (.dup, 1) := by decide +kernel
theorem dX1_pop_20 : decode cX1_pop 20 = .ok (.getfield 68, 3) := by decide +kernel
theorem dX1_pop_23 : decode cX1_pop 23 = .ok (.iconst 1, 1) := by decide +kernel
theorem dX1_pop_24 : decode cX1_pop 24 = .ok (.isub, 1) := by decide +kernel
theorem dX1_pop_25 : decode cX1_pop 25 = .ok (.putfield 68, 3) := by decide +kernel
theorem dX1_pop_28 : decode cX1_pop 28 = .ok (.aload_n 0, 1) := by decide +kernel
theorem dX1_pop_29 : decode cX1_pop 29 = .ok (.getfield 28, 3) := by decide +kernel
theorem dX1_pop_32 : decode cX1_pop 32 = .ok (.aload_n 0, 1) := by decide +kernel
theorem dX1_pop_33 : decode cX1_pop 33 = .ok (.getfield 68, 3) := by decide +kernel
theorem dX1_pop_36 : decode cX1_pop 36 = .ok (.iaload, 1) := by decide +kernel
theorem dX1_pop_37 : decode cX1_pop 37 = .ok (.ireturn, 1) := by decide +kernel
